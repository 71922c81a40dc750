/-! call -/
section CL
variable {μ : mm_M} {h nl nb nc : Nat}
theorem b_call {a : Int32} (I : Iv μ h nl nb nc) : Both 46 82 [.int a] μ (fun ξ => ∃ h nl nb nc, Iv ξ h nl nb nc) := by
  have go : ∀ j, j < 3 → (goB (μ 21) (μ 22) (μ 0 8) j = true ↔ μ 57 j + 8 ≤ μ 48 0) := fun j hj => by
    rw [I.now.1, I.now.2.1]
    exact go_iff I.now.2.2 (I.crw j hj)
  refine c_call (fun v => r_call (fun w => ⟨rfl, _, _, _, _, I⟩) (fun j hj ej w => absurd ((go j hj).mpr w) (v j hj ej))) (fun j hj ej v => ?_)
  have e1 : (hs (hs μ 22 (upd (μ 22) j (μ 0 8 + 3))) 21 (upd (μ 21) j 1)) 57 = μ 57 := by
    rw [hs_n (by decide), hs_n (by decide)]
  have e2 : (hs (hs μ 22 (upd (μ 22) j (μ 0 8 + 3))) 21 (upd (μ 21) j 1)) 48 0 = μ 48 0 := by
    rw [hs_n (by decide), hs_n (by decide)]
  refine r_call (fun w => absurd (by rw [e1, e2]; exact (go j hj).mp v) (w j hj ej)) (fun i hi ei w => ?_)
  have : i = j := nI_inj2 (by omega) (by omega) (ei.symm.trans ej)
  subst this
  rw [e1, e2, I.now.1, I.now.2.1]
  refine ⟨rfl, h, nl, nb, nc, ?_⟩
  refine ⟨?_, ?_, ?_, ?_, ?_, ?_, ?_, ?_, ?_, ?_, ?_, ?_, ?_, ?_, ?_, ?_, ?_, ?_, ?_, ?_, ?_⟩ <;> (try simp only [hs_s, hs_n, ne_eq, Nat.reduceEqDiff, not_false_eq_true, upd_s, upd_n])
  · exact I.now
  · exact I.ice
  · exact I.pck
  · exact I.mea
  · exact I.coi
  · exact I.fin
  · exact I.sau
  · exact I.lot
  · exact I.lrw
  · exact I.lin
  · exact I.knd
  · intro k hk
    by_cases e : k = i
    · subst e
      rw [upd_s, upd_s, upd_s]
      refine Or.inr ⟨by decide, rfl, h + 3, by have := I.now.2.2; omega, ?_⟩
      exact i_addN (b := 3)
    · rw [upd_n e, upd_n e, upd_n e]
      exact I.crw k hk
  · exact I.coo
  · exact I.bnr
  · exact I.brw
  · exact I.bin
  · exact I.bkg
  · exact I.cnr
  · exact I.crr
  · exact I.cin
  · exact JP_of (by simp only [hs_n, ne_eq, Nat.reduceEqDiff, not_false_eq_true]) (by simp only [hs_n, ne_eq, Nat.reduceEqDiff, not_false_eq_true]) (by simp only [hs_n, ne_eq, Nat.reduceEqDiff, not_false_eq_true]) (by simp only [hs_n, ne_eq, Nat.reduceEqDiff, not_false_eq_true]) (by simp only [hs_n, ne_eq, Nat.reduceEqDiff, not_false_eq_true]) (by simp only [hs_n, ne_eq, Nat.reduceEqDiff, not_false_eq_true]) (by simp only [hs_n, ne_eq, Nat.reduceEqDiff, not_false_eq_true]) (by simp only [hs_n, ne_eq, Nat.reduceEqDiff, not_false_eq_true]) (by simp only [hs_n, ne_eq, Nat.reduceEqDiff, not_false_eq_true]) (by simp only [hs_n, ne_eq, Nat.reduceEqDiff, not_false_eq_true]) (by simp only [hs_n, ne_eq, Nat.reduceEqDiff, not_false_eq_true]) I.pla
end CL
