/-! contract -/
section CTR
variable {μ : mm_M} {h nl nb nc : Nat}
theorem Iv.told (I : Iv μ h nl nb nc) {k : Nat} (hk : k < 4) : ¬ μ 15 k = 0 ↔ ¬ μ 55 k ≤ 0 := by
  rcases I.knd k hk with ⟨a, -, -, -, -, -, -, b⟩ | ⟨a, -, -, -, -, -, ⟨p, -⟩, b⟩
  · rw [a, b]
    exact ⟨fun z => absurd rfl z, fun z => absurd (by decide) z⟩
  · rw [a, b]
    refine ⟨fun _ z => ?_, fun _ => by decide⟩
    rw [i_le] at p z
    rw [i_1] at p
    rw [i_0] at z
    omega
theorem b_contract {a b c d : Int32} (I : Iv μ h nl nb nc) : Both 53 100 [.int a, .int b, .int c, .int d] μ (fun ξ => ∃ h nl nb nc, Iv ξ h nl nb nc) := by
  have hn := I.cnr.2.2
  obtain ⟨l1, l2, l3, l4, l5, l6⟩ := I.crr
  have ho : ∀ i, i < nc → ∃ j, j < 20 ∧ μ 41 i = nI j := fun i hi => by
    obtain ⟨o, h1, h2⟩ := I.cin.2.2
    exact ⟨o i, by have := h2.1 i hi; omega, h1 i hi⟩
  have hv : Vcontract (μ 15) a b c d (μ 0 8) nc ↔ Vcm (μ 55) a b c d (μ 48 0) nc := by
    unfold Vcontract Vcm
    rw [I.now.1, I.now.2.1]
    constructor
    · rintro ⟨v1, ⟨j, hj, ej, v2⟩, v3⟩
      exact ⟨v1, ⟨j, hj, ej, (I.told hj).mp v2⟩, v3⟩
    · rintro ⟨v1, ⟨j, hj, ej, v2⟩, v3⟩
      exact ⟨v1, ⟨j, hj, ej, (I.told hj).mpr v2⟩, v3⟩
  refine c_contract I.cnr.1 hn ho (fun v => r_contract I.cnr.2.1 hn (fun w => ⟨rfl, _, _, _, _, I⟩) (fun w => absurd (hv.mpr w) v)) (fun v => ?_)
  refine r_contract (n := nc) ?_ hn (fun w => absurd ?_ w) (fun w => ⟨rfl, h, nl, nb, nc + 1, ?_⟩)
  · simp only [hs_n, ne_eq, Nat.reduceEqDiff, not_false_eq_true]
    exact I.cnr.2.1
  · simp only [hs_n, ne_eq, Nat.reduceEqDiff, not_false_eq_true]
    exact hv.mp v
  · simp only [hs_n, ne_eq, Nat.reduceEqDiff, not_false_eq_true]
    rw [l1, l2, l3, l4]
    obtain ⟨-, ⟨k0, hk0, ek0, kn0⟩, ⟨v3, v4⟩, ⟨v5, v6⟩, v7⟩ := v
    have hh := I.now.2.2
    have e5 : nI h / 168 = nI (h / 168) := div_i (d := 168) (by omega) (by omega) (by omega)
    rw [I.now.1, e5, i_le, i_nI (by omega)] at v5
    rw [i_le] at v3 v4 v6
    rw [i_1] at v3
    rw [show (500 : Int32).toInt = 500 by decide] at v4
    rw [show (29 : Int32).toInt = 29 by decide] at v6
    refine ⟨?_, ?_, ?_, ?_, ?_, ?_, ?_, ?_, ?_, ?_, ?_, ?_, ?_, ?_, ?_, ?_, ?_, ?_, ?_, ?_, ?_⟩ <;> (try simp only [hs_s, hs_n, ne_eq, Nat.reduceEqDiff, not_false_eq_true, upd_s, upd_n])
    · exact I.now
    · exact I.ice
    · exact I.pck
    · exact I.mea
    · exact I.coi
    · exact I.fin
    · exact I.sau
    · exact I.lot
    · exact I.lrw
    · exact I.lin
    · exact I.knd
    · exact I.crw
    · exact I.coo
    · exact I.bnr
    · exact I.brw
    · exact I.bin
    · exact I.bkg
    · exact ⟨by trivial, by trivial, by omega⟩
    · exact ⟨by trivial, by trivial, by trivial, by trivial, l5, l6⟩
    · obtain ⟨a1, a2, a3⟩ := I.cin
      refine ⟨fun k hk => ?_, fun k hk => a2 k (by omega), pin_ord (by omega) _ a3⟩
      by_cases e : k = nc
      · subst e
        rw [upd_s, upd_s, upd_s, (a2 k (Nat.le_refl k)).1, i_0]
        exact ⟨⟨k0, hk0, ek0, kn0⟩, ⟨by omega, by omega, by omega⟩, d.toInt.toNat, by omega, i_of (by omega), fun _ => by omega⟩
      · rw [upd_n e, upd_n e, upd_n e]
        exact a1 k (by omega)
    · exact JP_of (by simp only [hs_n, ne_eq, Nat.reduceEqDiff, not_false_eq_true]) (by simp only [hs_n, ne_eq, Nat.reduceEqDiff, not_false_eq_true]) (by simp only [hs_n, ne_eq, Nat.reduceEqDiff, not_false_eq_true]) (by simp only [hs_n, ne_eq, Nat.reduceEqDiff, not_false_eq_true]) (by simp only [hs_n, ne_eq, Nat.reduceEqDiff, not_false_eq_true]) (by simp only [hs_n, ne_eq, Nat.reduceEqDiff, not_false_eq_true]) (by simp only [hs_n, ne_eq, Nat.reduceEqDiff, not_false_eq_true]) (by simp only [hs_n, ne_eq, Nat.reduceEqDiff, not_false_eq_true]) (by simp only [hs_n, ne_eq, Nat.reduceEqDiff, not_false_eq_true]) (by simp only [hs_n, ne_eq, Nat.reduceEqDiff, not_false_eq_true]) (by simp only [hs_n, ne_eq, Nat.reduceEqDiff, not_false_eq_true]) I.pla
end CTR
