/-! kind -/
section KD2
variable {μ : mm_M} {h nl nb nc : Nat}
theorem JC_kn {nl lo hi c : Nat} {kd cs dn kg fi kd' cs' dn' fi' kn kn2 : Nat → Int32} (hk : ∀ k, ¬ kn k = 0 → ¬ kn2 k = 0) (H : JC nl lo hi c kd cs dn kg fi kd' cs' dn' fi' kn) : JC nl lo hi c kd cs dn kg fi kd' cs' dn' fi' kn2 := by
  obtain ⟨a, b⟩ := H
  refine ⟨a, ?_⟩
  rcases b with b | ⟨k, hk4, b1, b2, b3⟩
  · exact Or.inl b
  · exact Or.inr ⟨k, hk4, b1, hk k b2, b3⟩
theorem JB_kn {h nb : Nat} {kd lf dn ba fi kn kn2 : Nat → Int32} (hk : ∀ k, ¬ kn k = 0 → ¬ kn2 k = 0) (H : JB h nb kd lf dn ba fi kn) : JB h nb kd lf dn ba fi kn2 := by
  refine ⟨fun b hb => ?_, H.2⟩
  obtain ⟨⟨k, a1, a2, a3⟩, a4⟩ := H.1 b hb
  exact ⟨⟨k, a1, a2, hk k a3⟩, a4⟩
theorem JT_kn {h nc : Nat} {kd wa wk ha ov od kn kn2 : Nat → Int32} (hk : ∀ k, ¬ kn k = 0 → ¬ kn2 k = 0) (H : JT h nc kd wa wk ha ov od kn) : JT h nc kd wa wk ha ov od kn2 := by
  refine ⟨fun b hb => ?_, H.2⟩
  obtain ⟨⟨k, a1, a2, a3⟩, a4⟩ := H.1 b hb
  exact ⟨⟨k, a1, a2, hk k a3⟩, a4⟩
theorem bits4 {f : Nat → Int32} (hf : ∀ k, k < 4 → f k = 0 ∨ f k = 1) : ∃ r, r ≤ 4 ∧ su f 4 = nI r := by
  show ∃ r, r ≤ 4 ∧ ((0 : Int32) + f 0) + f 1 + f 2 + f 3 = nI r
  refine ⟨(if f 0 = 0 then 0 else 1) + (if f 1 = 0 then 0 else 1) + (if f 2 = 0 then 0 else 1) + (if f 3 = 0 then 0 else 1), by (repeat' split) <;> decide, ?_⟩
  rcases hf 0 (by omega) with e0 | e0 <;> rcases hf 1 (by omega) with e1 | e1 <;> rcases hf 2 (by omega) with e2 | e2 <;> rcases hf 3 (by omega) with e3 | e3 <;> rw [e0, e1, e2, e3] <;> decide
theorem b_kind {a w p : Int32} (I : Iv μ h nl nb nc) : Both 44 76 [.int a, .int w, .int p] μ (fun ξ => ∃ h nl nb nc, Iv ξ h nl nb nc) := by
  have hkp : ∀ j, j < 4 → (μ 15 j = 0 ↔ ¬ 0 < μ 55 j) := fun j hj => by
    rw [Int32.not_lt]
    exact Decidable.not_iff_not.mp (I.told hj)
  have hv : Vkind (μ 15) a w p ↔ Vkm (μ 55) a w p := by
    unfold Vkind Vkm
    rw [kOK_iff]
    constructor
    · rintro ⟨⟨j, hj, ej, v2⟩, ⟨v3, v4, v5, v6, v7⟩, v8⟩
      exact ⟨⟨j, hj, ej, (hkp j hj).mp v2⟩, v3, v4, v5, v6, v7, v8⟩
    · rintro ⟨⟨j, hj, ej, v2⟩, v3, v4, v5, v6, v7, v8⟩
      exact ⟨⟨j, hj, ej, (hkp j hj).mpr v2⟩, ⟨v3, v4, v5, v6, v7⟩, v8⟩
  refine c_kind (fun v => r_kind (fun w => ⟨rfl, _, _, _, _, I⟩) (fun j hj ej w => absurd (hv.mpr w) v)) (fun j hj ej v1 v2 v3 v4 => ?_)
  have hV : Vkind (μ 15) a w p := ⟨⟨j, hj, ej, v1⟩, v2, v3, v4⟩
  refine r_kind (fun z => absurd ?_ z) (fun i hi ei z => ?_)
  · simp only [hs_n, ne_eq, Nat.reduceEqDiff, not_false_eq_true]
    exact hv.mp hV
  · have : i = j := nI_inj2 (by omega) (by omega) (ei.symm.trans ej)
    subst this
    simp only [hs_n, ne_eq, Nat.reduceEqDiff, not_false_eq_true]
    refine ⟨by trivial, h, nl, nb, nc, ?_⟩
    have hk : ∀ k, ¬ μ 15 k = 0 → ¬ upd (μ 15) i 1 k = 0 := fun k hk => by
      by_cases e : k = i
      · subst e
        rw [upd_s]
        decide
      · rw [upd_n e]
        exact hk
    have J := I.knd
    refine ⟨?_, ?_, ?_, ?_, ?_, ?_, ?_, ?_, ?_, ?_, ?_, ?_, ?_, ?_, ?_, ?_, ?_, ?_, ?_, ?_, ?_⟩ <;> (try simp only [hs_s, hs_n, ne_eq, Nat.reduceEqDiff, not_false_eq_true, upd_s, upd_n])
    · exact I.now
    · exact I.ice
    · exact I.pck
    · exact I.mea
    · exact I.coi
    · exact I.fin
    · exact I.sau
    · exact I.lot
    · exact I.lrw
    · exact I.lin
    · intro k hk
      by_cases e : k = i
      · subst e
        right
        simp only [upd_s]
        exact ⟨by trivial, v2, by trivial, by trivial, by trivial, by trivial, ⟨v3, v4⟩, by trivial⟩
      · simp only [upd_n e]
        exact J k hk
    · exact I.crw
    · exact fun c hc => JC_kn hk (I.coo c hc)
    · exact I.bnr
    · exact I.brw
    · exact JB_kn hk I.bin
    · exact I.bkg
    · exact I.cnr
    · exact I.crr
    · exact JT_kn hk I.cin
    · obtain ⟨p1, ⟨x, y, hx, hy, p2, p3, p4⟩, p5⟩ := I.pla
      have es : su (upd (μ 15) i 1) 4 = μ 2 6 + 1 := by
        rw [su_upd, if_pos hj, v1, p4]
        rfl
      have hb : ∃ r, r ≤ 4 ∧ su (upd (μ 15) i 1) 4 = nI r := bits4 (fun k hk => by
        by_cases e : k = i
        · subst e
          rw [upd_s]
          exact Or.inr rfl
        · rw [upd_n e]
          rcases J k hk with ⟨z, -⟩ | ⟨z, -⟩
          · exact Or.inl z
          · exact Or.inr z)
      have e1 : μ 2 6 + 1 = nI (y + 1) := by
        rw [p3, ← i_addN]
        rfl
      have hy4 : y + 1 ≤ 4 := by
        obtain ⟨r, hr, er⟩ := hb
        rw [es, e1] at er
        have := nI_inj2 (by omega) (by omega) er
        omega
      refine ⟨?_, ⟨x, y + 1, by omega, hy4, ?_, ?_, ?_⟩, fun z => ?_⟩ <;> (try simp only [hs_s, hs_n, ne_eq, Nat.reduceEqDiff, not_false_eq_true, upd_s, upd_n])
      · exact p1
      · exact p2
      · exact e1
      · exact es.symm
      · simp only [hs_s, hs_n, ne_eq, Nat.reduceEqDiff, not_false_eq_true, upd_s, upd_n] at z
        rw [p2, e1] at z
        have := nI_inj2 (by omega) (by omega) z
        omega
end KD2
