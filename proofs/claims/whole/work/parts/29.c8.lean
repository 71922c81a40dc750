/-! the class's calls plan and worth -/
section C8
variable {μ : mm_M} {RI : Int32 → mm_M → Prop} {RV : mm_M → Prop} {P F T S M Z : Nat → Nat}
theorem c_plan {n : Nat} {x : Int32} (hN : μ 1 6 = nI n) (hn : n ≤ 60) (hK : KD μ P F T S) (h4 : μ 45 4 = 0) (hZ : ∀ z, z < 3 → uzI μ n z = nI (Z z) ∧ Z z ≤ 300000) (hM : ∀ s, s < 2 → μ 8 s = nI (M s) ∧ M s ≤ 1000000) (hO : μ 7 6 = μ 2 6 → SZ μ M Z → Ob μ P F T S M Z) (h0 : (∀ j, j < 4 → x = nI j → μ 15 j = 0) → RI (-1) μ) (h1 : ∀ j, j < 4 → x = nI j → ¬ μ 15 j = 0 → ∀ ν, Pl μ ν → ν 7 6 = μ 2 6 → SZ ν M Z → ν 45 4 = 0 → Ob ν P F T S M Z → RI (ν 47 j) ν) : mm_Cs hh_S 50 [.ref 0, .int x] μ RI RV := by
  refine mm_in rfl (Nat.le_of_ble_eq_true rfl) ?_
  show mm_Rn hh_S 50 RI RV 0 [some (.ref 0), some (.int x)] [] μ
  (refine mm_run ok_50 (fun t => false) 12 ?_; rw [lb_50_0, rb_50]; simp only [↓w_aload_0, ↓w_getf, ↓w_iald, ↓w_iconst, ↓w_if_ne, ↓w_iload_1, ↓w_iret, ↓li_0, ↓li_s, ↓lr_0, ↓lr_s, ↓gf_0_0, ↓gf_0_1, ↓gf_0_6, ↓gf_0_7, ↓gf_7_5, ↓rc_2, ↓rc_7, ↓ar_8, ↓ar_47, ↓w_c24, ↓w_c36, ↓wl_50_0, ↓wl_50_13, hs_wr, hs_cp, hs_s, hs_n, hs_hs, upd_s, upd_n, upd_upd, ne_eq, Nat.reduceEqDiff, c1_i, c1_r, c2_i, c2_r, ↓reduceIte, List.set_cons_zero, List.set_cons_succ, mm_cb, List.length_cons, List.length_nil, List.all_cons, List.all_nil, Nat.zero_add, Nat.reduceAdd, Nat.reduceLeDiff, Nat.zero_le, decide_true, Bool.and_self, Bool.and_true, true_and, and_true, forall_const, Bool.or_false, Bool.false_or, Bool.or_true, Bool.true_or, Bool.false_eq_true, Nat.reduceBEq, beq_self_eq_true, ha_11, ha_01, hb_10, hb_0x, imp_self, false_implies, not_true_eq_false, not_false_eq_true])
  refine q_hasKind (fun j hj e hk => ?_) (fun e => ?_)
  · subst e
    refine ⟨fun _ => ?_, fun q => absurd q (by decide)⟩
    rw [nI_cl (show j < 2147483648 by omega)]
    exact q_update hN hn hK h4 hZ hM hO (fun ν g1 g2 g3 g4 g5 => ⟨in_nI hj (by omega), h1 j hj rfl hk ν g1 g2 g3 g4 g5⟩)
  · exact ⟨fun q => absurd rfl q, fun _ => h0 e⟩
theorem c_worth {n : Nat} (hN : μ 1 6 = nI n) (hn : n ≤ 60) (hK : KD μ P F T S) (h4 : μ 45 4 = 0) (hZ : ∀ z, z < 3 → uzI μ n z = nI (Z z) ∧ Z z ≤ 300000) (hM : ∀ s, s < 2 → μ 8 s = nI (M s) ∧ M s ≤ 1000000) (hO : μ 7 6 = μ 2 6 → SZ μ M Z → Ob μ P F T S M Z) (h : ∀ ν, Pl μ ν → ν 7 6 = μ 2 6 → SZ ν M Z → ν 45 4 = 0 → Ob ν P F T S M Z → RI (ν 7 7) ν) : mm_Cs hh_S 51 [.ref 0] μ RI RV := by
  refine mm_in rfl (Nat.le_of_ble_eq_true rfl) ?_
  show mm_Rn hh_S 51 RI RV 0 [some (.ref 0)] [] μ
  (refine mm_run ok_51 (fun t => false) 12 ?_; rw [lb_51_0, rb_51]; simp only [↓w_aload_0, ↓w_getf, ↓w_iret, ↓li_0, ↓li_s, ↓lr_0, ↓lr_s, ↓gf_0_0, ↓gf_0_1, ↓gf_0_6, ↓gf_0_7, ↓gf_7_7, ↓rc_7, ↓ar_8, ↓w_c36, ↓wl_51_0, hs_wr, hs_cp, hs_s, hs_n, hs_hs, upd_s, upd_n, upd_upd, ne_eq, Nat.reduceEqDiff, c1_i, c1_r, c2_i, c2_r, ↓reduceIte, List.set_cons_zero, List.set_cons_succ, mm_cb, List.length_cons, List.length_nil, List.all_cons, List.all_nil, Nat.zero_add, Nat.reduceAdd, Nat.reduceLeDiff, Nat.zero_le, decide_true, Bool.and_self, Bool.and_true, true_and, and_true, forall_const, Bool.or_false, Bool.false_or, Bool.or_true, Bool.true_or, Bool.false_eq_true, Nat.reduceBEq, beq_self_eq_true, ha_11, ha_01, hb_10, hb_0x, imp_self, false_implies, not_true_eq_false, not_false_eq_true])
  exact q_update hN hn hK h4 hZ hM hO h
end C8
