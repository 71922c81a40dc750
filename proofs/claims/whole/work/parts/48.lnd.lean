/-! land -/
section LND
variable {μ : mm_M} {h nl nb nc : Nat}
theorem JC_lot {nl lo hi c : Nat} {kd cs dn kg fi kd' cs' dn' fi' kn : Nat → Int32} (J : JC nl lo hi c kd cs dn kg fi kd' cs' dn' fi' kn) : JC (nl + 1) lo hi c kd cs dn kg fi kd' cs' dn' fi' kn := by
  obtain ⟨h1, h2⟩ := J
  refine ⟨h1, ?_⟩
  rcases h2 with h2 | ⟨k, a1, a2, a3, a4, a5, a6, a7, a8, a9⟩
  · exact Or.inl h2
  · exact Or.inr ⟨k, a1, a2, a3, a4, a5, a6, a7, a8, fun l hl => ⟨(a9 l hl).1, (a9 l hl).2.1, fun z => (a9 l hl).2.2 (by omega)⟩⟩
theorem b_land {a b c : Int32} (I : Iv μ h nl nb nc) : Both 41 72 [.int a, .int b, .int c] μ (fun ξ => ∃ h nl nb nc, Iv ξ h nl nb nc) := by
  have hn := I.lot.2.2
  obtain ⟨l1, l2, l3, l4, l5⟩ := I.lrw
  have ho : ∀ i, i < nl → ∃ j, j < 60 ∧ μ 14 i = nI j := fun i hi => by
    obtain ⟨o, h1, h2⟩ := I.lin.2.2.2.2.2
    exact ⟨o i, by have := h2.1 i hi; omega, h1 i hi⟩
  refine c_land I.lot.1 hn ho (fun v => r_land I.lot.2.1 hn (fun w => ⟨rfl, _, _, _, _, I⟩) (fun w => absurd w v)) (fun v => ?_)
  refine r_land (n := nl) ?_ hn (fun w => absurd v w) (fun w => ⟨rfl, h, nl + 1, nb, nc, ?_⟩)
  · simp only [hs_n, ne_eq, Nat.reduceEqDiff, not_false_eq_true]
    exact I.lot.2.1
  · simp only [hs_n, ne_eq, Nat.reduceEqDiff, not_false_eq_true]
    rw [l1, l2, l3, I.now.1, I.now.2.1]
    obtain ⟨⟨v1, v2⟩, ⟨v3, v4⟩, ⟨v5, v6⟩, v7⟩ := v
    rw [i_le] at v1 v2 v3 v4 v5 v6
    rw [i_0] at v1 v5
    rw [i_1] at v3
    rw [show (2 : Int32).toInt = 2 by decide] at v2
    rw [show (5000 : Int32).toInt = 5000 by decide] at v4
    rw [show (19 : Int32).toInt = 19 by decide] at v6
    have hh := I.now.2.2
    have ec : (nI h - c).toInt = h - c.toInt := by
      rw [i_sub (by rw [i_nI (by omega)]; omega) (by rw [i_nI (by omega)]; omega), i_nI (by omega)]
    refine ⟨?_, ?_, ?_, ?_, ?_, ?_, ?_, ?_, ?_, ?_, ?_, ?_, ?_, ?_, ?_, ?_, ?_, ?_, ?_, ?_, ?_⟩ <;> (try simp only [hs_s, hs_n, ne_eq, Nat.reduceEqDiff, not_false_eq_true, upd_s, upd_n])
    · exact I.now
    · exact I.ice
    · exact I.pck
    · exact I.mea
    · exact I.coi
    · exact I.fin
    · exact I.sau
    · exact ⟨by trivial, by trivial, by omega⟩
    · exact ⟨by trivial, by trivial, by trivial, l4, l5⟩
    · obtain ⟨a1, a2, a3, a4, a5, a6⟩ := I.lin
      refine ⟨fun k hk => ?_, fun k hk => ?_, fun k hk => ?_, fun k hk f => ?_, fun k hk => a5 k (by omega), pin_ord (by omega) _ a6⟩
      · by_cases e : k = nl
        · subst e
          rw [upd_s]
          exact ⟨a.toInt.toNat, by omega, i_of v1⟩
        · rw [upd_n e]
          exact a1 k (by omega)
      · by_cases e : k = nl
        · subst e
          rw [upd_s]
          exact ⟨b.toInt.toNat, by omega, i_of (by omega)⟩
        · rw [upd_n e]
          exact a2 k (by omega)
      · by_cases e : k = nl
        · subst e
          rw [upd_s, ec]
          omega
        · rw [upd_n e]
          exact a3 k (by omega)
      · by_cases e : k = nl
        · subst e
          exfalso
          unfold frB stH at f
          rw [if_pos (a5 k (Nat.le_refl k)).1, upd_s, decide_eq_false_iff_not, Decidable.not_not, i_le, i_nI (by omega), i_add (by rw [ec, show (20 : Int32).toInt = 20 by decide]; omega) (by rw [ec, show (20 : Int32).toInt = 20 by decide]; omega), ec, show (20 : Int32).toInt = 20 by decide] at f
          omega
        · rw [upd_n e]
          refine a4 k (by omega) ?_
          unfold frB stH at f ⊢
          rw [upd_n e] at f
          exact f
    · exact I.knd
    · exact I.crw
    · exact fun c hc => JC_lot (I.coo c hc)
    · exact I.bnr
    · exact I.brw
    · exact I.bin
    · exact I.bkg
    · exact I.cnr
    · exact I.crr
    · exact I.cin
    · exact JP_of (by simp only [hs_n, ne_eq, Nat.reduceEqDiff, not_false_eq_true]) (by simp only [hs_n, ne_eq, Nat.reduceEqDiff, not_false_eq_true]) (by simp only [hs_n, ne_eq, Nat.reduceEqDiff, not_false_eq_true]) (by simp only [hs_n, ne_eq, Nat.reduceEqDiff, not_false_eq_true]) (by simp only [hs_n, ne_eq, Nat.reduceEqDiff, not_false_eq_true]) (by simp only [hs_n, ne_eq, Nat.reduceEqDiff, not_false_eq_true]) (by simp only [hs_n, ne_eq, Nat.reduceEqDiff, not_false_eq_true]) (by simp only [hs_n, ne_eq, Nat.reduceEqDiff, not_false_eq_true]) (by simp only [hs_n, ne_eq, Nat.reduceEqDiff, not_false_eq_true]) (by simp only [hs_n, ne_eq, Nat.reduceEqDiff, not_false_eq_true]) (by simp only [hs_n, ne_eq, Nat.reduceEqDiff, not_false_eq_true]) I.pla
end LND
