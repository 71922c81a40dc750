/-! sell -/
section SL
variable {μ : mm_M} {h nl nb nc : Nat}
theorem dl_b {kd ba dn : Nat → Int32} {k cu p t : Int32} {n : Nat} {s : dlT} (hs : ∀ b, b < n → ∃ x, x ≤ 50 ∧ s.2.2.1 b = nI x) : ∀ i, ∀ b, b < n → ∃ x, x ≤ 50 ∧ (fo (dlS kd ba dn k cu p t) i s).2.2.1 b = nI x
  | 0 => hs
  | i + 1 => by
    have ih := dl_b (kd := kd) (ba := ba) (dn := dn) (k := k) (cu := cu) (p := p) (t := t) hs i
    show ∀ b, b < n → ∃ x, x ≤ 50 ∧ (dlS kd ba dn k cu p t i (fo (dlS kd ba dn k cu p t) i s)).2.2.1 b = nI x
    revert ih
    generalize fo (dlS kd ba dn k cu p t) i s = r
    intro ih b hb
    unfold dlS
    by_cases c1 : r.1 ≤ 0
    · rw [if_pos c1]
      exact ih b hb
    · rw [if_neg c1]
      by_cases c2 : fsB kd ba k i = true ∧ ¬ r.2.2.1 i ≤ 0
      · rw [if_pos c2]
        show ∃ x, x ≤ 50 ∧ upd r.2.2.1 i (r.2.2.1 i - (if r.1 < r.2.2.1 i then r.1 else r.2.2.1 i)) b = nI x
        by_cases e : b = i
        · subst e
          rw [upd_s]
          obtain ⟨x, hx, ex⟩ := ih b hb
          rw [ex]
          rw [i_le, i_0] at c1
          by_cases c3 : r.1 < nI x
          · rw [if_pos c3]
            rw [i_lt, i_nI (by omega)] at c3
            rw [i_of (show 0 ≤ r.1.toInt by omega), sub_nI (by omega)]
            exact ⟨_, by omega, rfl⟩
          · rw [if_neg c3, sub_nI (by omega)]
            exact ⟨_, by omega, rfl⟩
        · rw [upd_n e]
          exact ih b hb
      · rw [if_neg c2]
        exact ih b hb
theorem b_sell {a b m : Int32} (I : Iv μ h nl nb nc) : Both 52 99 [.int a, .int b, .int m] μ (fun ξ => ∃ h nl nb nc, Iv ξ h nl nb nc) := by
  have hn := I.cnr.2.2
  have hb := I.bnr.2.2.2
  have ho : ∀ i, i < nc → ∃ j, j < 20 ∧ μ 41 i = nI j := fun i hi => by
    obtain ⟨o, h1, h2⟩ := I.cin.2.2
    exact ⟨o i, by have := h2.1 i hi; omega, h1 i hi⟩
  obtain ⟨l1, l2, l3, l4, l5, l6⟩ := I.crr
  obtain ⟨m1, m2, m3, m4, m5, m6, m7⟩ := I.brw
  have hlf : ∀ b, b < nb → 0 ≤ (μ 30 b).toInt := fun b hb => by
    obtain ⟨x, hx, ex⟩ := (I.bin.1 b hb).2.1
    rw [ex, i_nI (by omega)]
    omega
  refine c_sell I.bnr.1 hb I.cnr.1 hn ho (fun v => r_sell I.bnr.2.1 hb I.cnr.2.1 hn (by rw [m2]; exact hlf) (fun w => ⟨rfl, _, _, _, _, I⟩) (fun k hk ek v1 v2 v3 => ?_)) (fun k hk ek v1 v2 v3 D hD => ?_)
  · rw [m1, m2, m5] at v3
    exact absurd ⟨v2, ⟨k, hk, ek, (I.told hk).mpr v1⟩, v3⟩ v
  · refine r_sell (nb := nb) (nc := nc) ?_ hb ?_ hn ?_ (fun w => absurd ?_ w) (fun i hi ei w1 w2 w3 D' hD' => ?_)
    · simp only [hs_n, ne_eq, Nat.reduceEqDiff, not_false_eq_true]
      exact I.bnr.2.1
    · simp only [hs_n, ne_eq, Nat.reduceEqDiff, not_false_eq_true]
      exact I.cnr.2.1
    · simp only [hs_n, ne_eq, Nat.reduceEqDiff, not_false_eq_true]
      rw [m2]
      exact hlf
    · simp only [hs_n, ne_eq, Nat.reduceEqDiff, not_false_eq_true]
      rw [m1, m2, m5]
      exact ⟨v2, ⟨k, hk, ek, (I.told hk).mp v1⟩, v3⟩
    · have : i = k := nI_inj2 (by omega) (by omega) (ei.symm.trans ek)
      subst this
      simp only [hs_n, ne_eq, Nat.reduceEqDiff, not_false_eq_true] at hD' ⊢
      have ep : μ 55 i = μ 20 i := by
        rcases I.knd i hi with ⟨z, -⟩ | ⟨-, -, -, -, -, -, -, z⟩
        · exact absurd z v1
        · exact z
      rw [m1, m2, m4, m5, m6, ep, I.now.2.1, ← I.now.1, ← hD] at hD'
      cases hD'
      have hm0 : 0 ≤ m.toInt := by
        have := v3.1
        rw [i_le, i_1] at this
        omega
      obtain ⟨W, hW⟩ : ∃ W : Nat → Nat, ∀ j, j < nc → μ 38 j = nI (W j) ∧ W j < 30 := by
        refine ⟨fun j => (μ 38 j).toInt.toNat, fun j hj => ?_⟩
        obtain ⟨W, hW, eW, -⟩ := (I.cin.1 j hj).2.2
        show μ 38 j = nI (μ 38 j).toInt.toNat ∧ (μ 38 j).toInt.toNat < 30
        rw [eW, i_nI (by omega)]
        exact ⟨rfl, hW⟩
      have sv := sv_all (ov := μ 40) (cu := μ 35) (kd := μ 36) (wa := μ 37) (ha := μ 39) (a := a) (b := b) (m := m) (show nc ≤ 60 by omega) I.cin.2.2 hW ⟨hm0, fun q hq => ⟨(I.cin.1 q hq).2.1.1, (I.cin.1 q hq).2.1.2.1⟩⟩
      rw [l1, l2, l3, l4, l5, l6, ← sv.1]
      refine ⟨rfl, h, nl, nb, nc, ?_⟩
      have hL : ∀ b, b < nb → ∃ x, x ≤ 50 ∧ D.2.2.1 b = nI x := by
        rw [hD]
        exact dl_b (fun b hb => (I.bin.1 b hb).2.1) nb
      have hH := sv.2.2
      have hH2 : ∀ j, nc ≤ j → (fo (svS (μ 41) (μ 40) (μ 35) (μ 36) (μ 37) a b) nc (m, μ 39)).2 j = 0 := by
        have key : ∀ i, i ≤ nc → ∀ j, nc ≤ j → (fo (svS (μ 41) (μ 40) (μ 35) (μ 36) (μ 37) a b) i (m, μ 39)).2 j = 0 := by
          intro i
          induction i with
          | zero => exact fun _ j hj => (I.cin.2.1 j hj).1
          | succ i ih =>
            intro hi j hj
            obtain ⟨o, h1, h2⟩ := I.cin.2.2
            have ho := h2.1 i (by omega)
            have := ih (by omega) j hj
            show (svS (μ 41) (μ 40) (μ 35) (μ 36) (μ 37) a b i (fo (svS (μ 41) (μ 40) (μ 35) (μ 36) (μ 37) a b) i (m, μ 39))).2 j = 0
            unfold svS at this ⊢
            rw [h1 i (by omega), nI_cl (by omega)]
            split
            · exact this
            · split
              · exact (upd_n (by omega)).trans this
              · exact this
        exact key nc (Nat.le_refl nc)
      refine ⟨?_, ?_, ?_, ?_, ?_, ?_, ?_, ?_, ?_, ?_, ?_, ?_, ?_, ?_, ?_, ?_, ?_, ?_, ?_, ?_, ?_⟩ <;> (try simp only [hs_s, hs_n, ne_eq, Nat.reduceEqDiff, not_false_eq_true, upd_s, upd_n])
      · exact I.now
      · exact I.ice
      · exact I.pck
      · exact I.mea
      · rw [I.coi]
      · exact I.fin
      · exact I.sau
      · exact I.lot
      · exact I.lrw
      · exact I.lin
      · exact I.knd
      · exact I.crw
      · exact I.coo
      · exact I.bnr
      · exact ⟨m1, by trivial, m3, m4, m5, by trivial, m7⟩
      · obtain ⟨a1, a2⟩ := I.bin
        exact ⟨fun b hb => ⟨(a1 b hb).1, hL b hb, (a1 b hb).2.2⟩, a2⟩
      · exact I.bkg
      · exact I.cnr
      · exact ⟨l1, l2, l3, l4, by trivial, l6⟩
      · obtain ⟨a1, a2, a3⟩ := I.cin
        exact ⟨fun j hj => ⟨(a1 j hj).1, ⟨(hH j hj).1, (hH j hj).2, (a1 j hj).2.1.2.2⟩, (a1 j hj).2.2⟩, fun j hj => ⟨hH2 j hj, (a2 j hj).2⟩, a3⟩
      · exact JP_of (by simp only [hs_n, ne_eq, Nat.reduceEqDiff, not_false_eq_true]) (by simp only [hs_n, ne_eq, Nat.reduceEqDiff, not_false_eq_true]) (by simp only [hs_n, ne_eq, Nat.reduceEqDiff, not_false_eq_true]) (by simp only [hs_n, ne_eq, Nat.reduceEqDiff, not_false_eq_true]) (by simp only [hs_n, ne_eq, Nat.reduceEqDiff, not_false_eq_true]) (by simp only [hs_n, ne_eq, Nat.reduceEqDiff, not_false_eq_true]) (by simp only [hs_n, ne_eq, Nat.reduceEqDiff, not_false_eq_true]) (by simp only [hs_n, ne_eq, Nat.reduceEqDiff, not_false_eq_true]) (by simp only [hs_n, ne_eq, Nat.reduceEqDiff, not_false_eq_true]) (by simp only [hs_n, ne_eq, Nat.reduceEqDiff, not_false_eq_true]) (by simp only [hs_n, ne_eq, Nat.reduceEqDiff, not_false_eq_true]) I.pla
end SL
