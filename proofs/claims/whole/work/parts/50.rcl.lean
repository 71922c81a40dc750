/-! recall -/
section RCL
variable {μ : mm_M} {h nl nb nc : Nat}
theorem b_recall {x : Int32} (I : Iv μ h nl nb nc) : Both 55 102 [.int x] μ (fun ξ => ∃ h nl nb nc, Iv ξ h nl nb nc) := by
  have hn := I.lot.2.2
  have hb := I.bnr.2.2.2
  obtain ⟨l1, l2, l3, l4, l5⟩ := I.lrw
  obtain ⟨m1, m2, m3, m4, m5, m6, m7⟩ := I.brw
  refine c_recall I.lot.1 hn I.bnr.1 hb (fun v => r_recall I.lot.2.1 hn I.bnr.2.1 hb (fun w => ⟨rfl, _, _, _, _, I⟩) (fun j hj ej w => absurd (by rw [← l5]; exact w) (v j hj ej))) (fun j hj ej v => ?_)
  refine r_recall (n := nl) (nb := nb) ?_ hn ?_ hb (fun w => absurd ?_ (w j hj ej)) (fun i hi ei w => ?_)
  · simp only [hs_n, ne_eq, Nat.reduceEqDiff, not_false_eq_true]
    exact I.lot.2.1
  · simp only [hs_n, ne_eq, Nat.reduceEqDiff, not_false_eq_true]
    exact I.bnr.2.1
  · simp only [hs_n, ne_eq, Nat.reduceEqDiff, not_false_eq_true]
    rw [l5]
    exact v
  · have : i = j := nI_inj2 (by omega) (by omega) (ei.symm.trans ej)
    subst this
    have key : ∀ b, b < nb → (¬ μ 34 (b * 60 + i) = 0 ↔ ¬ μ 34 (b * 60 + i) ≤ 0) := fun b hb => by
      have := (I.bin.1 b hb).2.2.2 i (by omega)
      rw [i_eq, i_le, i_0]
      omega
    simp only [hs_n, ne_eq, Nat.reduceEqDiff, not_false_eq_true]
    rw [l5, m5, m6, m7]
    have er : (fun b => if b < nb ∧ ¬ μ 34 (b * 60 + i) = 0 then 1 else μ 33 b) = (fun b => if b < nb ∧ ¬ μ 34 (b * 60 + i) ≤ 0 then 1 else μ 33 b) := by
      funext b
      by_cases g : b < nb
      · simp only [g, true_and, key b g]
      · rw [if_neg (fun z => g z.1), if_neg (fun z => g z.1)]
    rw [er]
    refine ⟨?_, h, nl, nb, nc, ?_⟩
    · have so_congr : ∀ n, n ≤ nb → so (fun b => if decide (¬ μ 34 (b * 60 + i) = 0) = true then μ 32 b else 0) n = so (fun b => if decide (¬ μ 34 (b * 60 + i) ≤ 0) = true then μ 32 b else 0) n := by
        intro n
        induction n with
        | zero => exact fun _ => rfl
        | succ n ih =>
          intro hnn
          unfold so
          rw [ih (by omega)]
          simp only [decide_eq_true_eq, key n (by omega)]
      exact so_congr nb (Nat.le_refl nb)
    · refine ⟨?_, ?_, ?_, ?_, ?_, ?_, ?_, ?_, ?_, ?_, ?_, ?_, ?_, ?_, ?_, ?_, ?_, ?_, ?_, ?_, ?_⟩ <;> (try simp only [hs_s, hs_n, ne_eq, Nat.reduceEqDiff, not_false_eq_true, upd_s, upd_n])
      · exact I.now
      · exact I.ice
      · exact I.pck
      · exact I.mea
      · exact I.coi
      · exact I.fin
      · exact I.sau
      · exact I.lot
      · exact ⟨l1, l2, l3, l4, by trivial⟩
      · obtain ⟨a1, a2, a3, a4, a5, a6⟩ := I.lin
        exact ⟨a1, a2, a3, a4, fun k hk => ⟨(a5 k hk).1, by rw [upd_n (by omega)]; exact (a5 k hk).2⟩, a6⟩
      · exact I.knd
      · exact I.crw
      · exact I.coo
      · exact I.bnr
      · exact ⟨m1, m2, m3, m4, by trivial, m6, m7⟩
      · obtain ⟨a1, a2⟩ := I.bin
        exact ⟨a1, fun k hk => (if_neg (fun z => by omega)).trans (a2 k hk)⟩
      · exact I.bkg
      · exact I.cnr
      · exact I.crr
      · exact I.cin
      · exact JP_of (by simp only [hs_n, ne_eq, Nat.reduceEqDiff, not_false_eq_true]) (by simp only [hs_n, ne_eq, Nat.reduceEqDiff, not_false_eq_true]) (by simp only [hs_n, ne_eq, Nat.reduceEqDiff, not_false_eq_true]) (by simp only [hs_n, ne_eq, Nat.reduceEqDiff, not_false_eq_true]) (by simp only [hs_n, ne_eq, Nat.reduceEqDiff, not_false_eq_true]) (by simp only [hs_n, ne_eq, Nat.reduceEqDiff, not_false_eq_true]) (by simp only [hs_n, ne_eq, Nat.reduceEqDiff, not_false_eq_true]) (by simp only [hs_n, ne_eq, Nat.reduceEqDiff, not_false_eq_true]) (by simp only [hs_n, ne_eq, Nat.reduceEqDiff, not_false_eq_true]) (by simp only [hs_n, ne_eq, Nat.reduceEqDiff, not_false_eq_true]) (by simp only [hs_n, ne_eq, Nat.reduceEqDiff, not_false_eq_true]) I.pla
end RCL
