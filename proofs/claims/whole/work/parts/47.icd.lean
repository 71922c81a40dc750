/-! iced -/
section ICD
variable {μ : mm_M} {h nl nb nc : Nat}
theorem fm_iff {ca ic lf : Nat → Int32} {t : Int32} {j : Nat} : fmB ca ic lf t j = true ↔ (frB ca ic t j = true ∧ 1 ≤ lf j) := by
  unfold fmB
  rw [Bool.and_eq_true, decide_eq_true_eq, i_le, i_le, i_0, i_1]
  constructor
  · rintro ⟨a, b⟩
    exact ⟨a, by omega⟩
  · rintro ⟨a, b⟩
    exact ⟨a, by omega⟩
theorem b_iced {x : Int32} (I : Iv μ h nl nb nc) : Both 43 74 [.int x] μ (fun ξ => ∃ h nl nb nc, Iv ξ h nl nb nc) := by
  have hn := I.lot.2.2
  obtain ⟨l1, l2, l3, l4, l5⟩ := I.lrw
  have hno : μ 48 0 = μ 0 8 := I.now.2.1.trans I.now.1.symm
  refine c_iced I.lot.1 hn (fun v => r_iced I.lot.2.1 hn (fun w => ⟨rfl, _, _, _, _, I⟩) (fun j hj ej w1 w2 w3 => ?_)) (fun j hj ej v1 v2 v3 v4 => ?_)
  · rw [l3, l4, l2, hno] at w1
    rw [l4] at w2
    rw [l2, I.ice] at w3
    have := fm_iff.mp w1
    exact absurd ⟨this.1, this.2, w2, w3⟩ (v j hj ej)
  · refine r_iced (n := nl) ?_ hn (fun w => absurd ?_ (w j hj ej)) (fun i hi ei w1 w2 w3 => ?_)
    · rw [hs_n (by decide), hs_n (by decide)]
      exact I.lot.2.1
    · simp only [hs_n, ne_eq, Nat.reduceEqDiff, not_false_eq_true]
      rw [l3, l4, l2, hno, I.ice]
      exact ⟨fm_iff.mpr ⟨v1, v2⟩, v3, v4⟩
    · have : i = j := nI_inj2 (by omega) (by omega) (ei.symm.trans ej)
      subst this
      refine ⟨rfl, h, nl, nb, nc, ?_⟩
      simp only [hs_n, ne_eq, Nat.reduceEqDiff, not_false_eq_true]
      rw [l2, l4, I.ice]
      refine ⟨?_, ?_, ?_, ?_, ?_, ?_, ?_, ?_, ?_, ?_, ?_, ?_, ?_, ?_, ?_, ?_, ?_, ?_, ?_, ?_, ?_⟩ <;> (try simp only [hs_s, hs_n, ne_eq, Nat.reduceEqDiff, not_false_eq_true, upd_s, upd_n])
      · exact I.now
      · exact I.pck
      · exact I.mea
      · exact I.coi
      · exact I.fin
      · exact I.sau
      · exact I.lot
      · exact ⟨l1, l2, l3, by trivial, l5⟩
      · obtain ⟨a1, a2, a3, a4, a5, a6⟩ := I.lin
        refine ⟨a1, a2, a3, fun k hk f => ?_, fun k hk => ?_, a6⟩
        · by_cases e : k = i
          · subst e
            exfalso
            have b := a3 k hk
            have hh := I.now.2.2
            rw [I.now.1] at v1
            unfold frB stH at f v1
            rw [if_pos v3, decide_eq_true_eq, i_le, i_nI (by omega), i_add (by rw [show (20 : Int32).toInt = 20 by decide]; omega) (by rw [show (20 : Int32).toInt = 20 by decide]; omega), show (20 : Int32).toInt = 20 by decide] at v1
            rw [upd_s, if_neg (by decide), decide_eq_false_iff_not, Decidable.not_not, i_le, i_nI (by omega), i_add (by rw [show (40 : Int32).toInt = 40 by decide]; omega) (by rw [show (40 : Int32).toInt = 40 by decide]; omega), show (40 : Int32).toInt = 40 by decide] at f
            omega
          · refine a4 k hk ?_
            unfold frB stH at f ⊢
            rw [upd_n e] at f
            exact f
        · rw [upd_n (by omega)]
          exact a5 k hk
      · exact I.knd
      · exact I.crw
      · exact I.coo
      · exact I.bnr
      · exact I.brw
      · exact I.bin
      · exact I.bkg
      · exact I.cnr
      · exact I.crr
      · exact I.cin
      · exact JP_of (by simp only [hs_n, ne_eq, Nat.reduceEqDiff, not_false_eq_true]) (by simp only [hs_n, ne_eq, Nat.reduceEqDiff, not_false_eq_true]) (by simp only [hs_n, ne_eq, Nat.reduceEqDiff, not_false_eq_true]) (by simp only [hs_n, ne_eq, Nat.reduceEqDiff, not_false_eq_true]) (by simp only [hs_n, ne_eq, Nat.reduceEqDiff, not_false_eq_true]) (by simp only [hs_n, ne_eq, Nat.reduceEqDiff, not_false_eq_true]) (by simp only [hs_n, ne_eq, Nat.reduceEqDiff, not_false_eq_true]) (by simp only [hs_n, ne_eq, Nat.reduceEqDiff, not_false_eq_true]) (by simp only [hs_n, ne_eq, Nat.reduceEqDiff, not_false_eq_true]) (by simp only [hs_n, ne_eq, Nat.reduceEqDiff, not_false_eq_true]) (by simp only [hs_n, ne_eq, Nat.reduceEqDiff, not_false_eq_true]) I.pla
end ICD
