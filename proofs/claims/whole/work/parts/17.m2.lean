/-! the reference's calls, the small ones -/
def Vkm (pr : Nat → Int32) (a w p : Int32) : Prop := (∃ j, j < 4 ∧ a = nI j ∧ ¬ 0 < pr j) ∧ ¬ w < 0 ∧ (1 ≤ w / 1000 ∧ w / 1000 ≤ 7) ∧ ¬ 1 < w / 100 - w / 100 / 10 * 10 ∧ ¬ w / 10 - w / 10 / 10 * 10 = 0 ∧ (1 ≤ w - w / 10 * 10 ∧ w - w / 10 * 10 ≤ 5) ∧ (1 ≤ p ∧ p ≤ 99)
theorem nI_eqL {n m : Nat} {x : Int32} (hx : x = nI m) (hn : n < 2147483648) (hm : m < 2147483648) : nI n = x ↔ n = m := by
  rw [hx]
  exact nI_eq (by omega) (by omega)
section M2
variable {μ : mm_M} {RI : Int32 → mm_M → Prop} {RV : mm_M → Prop}
theorem r_land {n : Nat} (hN : μ 48 1 = nI n) (hn : n ≤ 60) {a b c : Int32} (h0 : ¬ Vland a b c n → RI (-1) μ) (h1 : Vland a b c n → RI (nI n) (hs (hs (hs (hs μ 49 (upd (μ 49) n a)) 50 (upd (μ 50) n b)) 51 (upd (μ 51) n (μ 48 0 - c))) 48 (upd (μ 48) 1 (nI (n + 1))))) : mm_Cs hh_S 72 [.ref 48, .int a, .int b, .int c] μ RI RV := by
  refine mm_in rfl (Nat.le_of_ble_eq_true rfl) ?_
  show mm_Rn hh_S 72 RI RV 0 [some (.ref 48), some (.int a), some (.int b), some (.int c)] [] μ
  (refine mm_run ok_72 (fun t => false) 9 ?_; rw [lb_72_0, rb_72]; simp only [↓w_aload_0, ↓w_bipush, ↓w_dup, ↓w_fall, ↓w_getf, ↓w_iadd, ↓w_iast, ↓w_ic_ne, ↓w_iconst, ↓w_if_eq, ↓w_iload_1, ↓w_iload_2, ↓w_iload_3, ↓w_iret, ↓w_isub, ↓w_putf, ↓w_sipush, ↓li_0, ↓li_s, ↓lr_0, ↓lr_s, ↓gf_48_0, ↓gf_48_1, ↓gf_48_2, ↓gf_48_3, ↓gf_48_4, ↓pf_48_1, ↓ar_49, ↓ar_50, ↓ar_51, ↓w_c68, ↓wl_72_0, ↓wl_72_39, ↓wl_72_41, hs_wr, hs_cp, hs_s, hs_n, hs_hs, upd_s, upd_n, upd_upd, ne_eq, Nat.reduceEqDiff, c1_i, c1_r, c2_i, c2_r, ↓reduceIte, List.set_cons_zero, List.set_cons_succ, mm_cb, List.length_cons, List.length_nil, List.all_cons, List.all_nil, Nat.zero_add, Nat.reduceAdd, Nat.reduceLeDiff, Nat.zero_le, decide_true, Bool.and_self, Bool.and_true, true_and, and_true, forall_const, Bool.or_false, Bool.false_or, Bool.or_true, Bool.true_or, Bool.false_eq_true, Nat.reduceBEq, beq_self_eq_true, ha_11, ha_01, hb_10, hb_0x, imp_self, false_implies, not_true_eq_false, not_false_eq_true])
  refine q_in (fun a1 a2 => br1 ?_) (fun h => br0 (h0 (fun z => h z.1)))
  refine q_in (fun b1 b2 => br1 ?_) (fun h => br0 (h0 (fun z => h z.2.1)))
  refine q_in (fun c1 c2 => br1 ?_) (fun h => br0 (h0 (fun z => h z.2.2.1)))
  rw [hN, nI_cl (by omega), nI_eqL (n := n) (x := 60) (m := 60) rfl (by omega) (by omega), nI_1, nI_pred]
  refine ⟨fun d => ?_, fun d => h0 (fun z => by have := z.2.2.2; omega)⟩
  have hi := in_nI (show n < 60 by omega) (by omega)
  exact ⟨hi, hi, hi, h1 ⟨⟨a1, a2⟩, ⟨b1, b2⟩, ⟨c1, c2⟩, by omega⟩⟩
theorem r_ice {x : Int32} (h0 : ¬ Vice x (μ 48 7) → RI (-1) μ) (h1 : Vice x (μ 48 7) → RI (μ 48 7 + x) (hs μ 48 (upd (μ 48) 7 (μ 48 7 + x)))) : mm_Cs hh_S 73 [.ref 48, .int x] μ RI RV := by
  refine mm_in rfl (Nat.le_of_ble_eq_true rfl) ?_
  show mm_Rn hh_S 73 RI RV 0 [some (.ref 48), some (.int x)] [] μ
  (refine mm_run ok_73 (fun t => false) 9 ?_; rw [lb_73_0, rb_73]; simp only [↓w_aload_0, ↓w_dup, ↓w_fall, ↓w_getf, ↓w_iadd, ↓w_ic_le, ↓w_iconst, ↓w_if_eq, ↓w_iload_1, ↓w_iret, ↓w_ldc, ↓w_putf, ↓li_0, ↓li_s, ↓lr_0, ↓lr_s, ↓gf_48_7, ↓pf_48_7, ↓w_c68, ↓wl_73_0, ↓wl_73_21, ↓wl_73_23, hs_wr, hs_cp, hs_s, hs_n, hs_hs, upd_s, upd_n, upd_upd, ne_eq, Nat.reduceEqDiff, c1_i, c1_r, c2_i, c2_r, ↓reduceIte, List.set_cons_zero, List.set_cons_succ, mm_cb, List.length_cons, List.length_nil, List.all_cons, List.all_nil, Nat.zero_add, Nat.reduceAdd, Nat.reduceLeDiff, Nat.zero_le, decide_true, Bool.and_self, Bool.and_true, true_and, and_true, forall_const, Bool.or_false, Bool.false_or, Bool.or_true, Bool.true_or, Bool.false_eq_true, Nat.reduceBEq, beq_self_eq_true, ha_11, ha_01, hb_10, hb_0x, imp_self, false_implies, not_true_eq_false, not_false_eq_true])
  exact q_in (fun a b => br1 ⟨fun c => h1 ⟨⟨a, b⟩, c⟩, fun c => h0 (fun z => c z.2)⟩) (fun h => br0 (h0 (fun z => h z.1)))
theorem r_iced {n : Nat} (hN : μ 48 1 = nI n) (hn : n ≤ 60) {x : Int32} (h0 : (∀ j, j < n → x = nI j → ¬ (fmB (μ 51) (μ 52) (μ 50) (μ 48 0) j = true ∧ μ 52 j = 0 ∧ μ 50 j ≤ μ 48 7)) → RI 0 μ) (h1 : ∀ j, j < n → x = nI j → fmB (μ 51) (μ 52) (μ 50) (μ 48 0) j = true → μ 52 j = 0 → μ 50 j ≤ μ 48 7 → RI 1 (hs (hs μ 48 (upd (μ 48) 7 (μ 48 7 - μ 50 j))) 52 (upd (μ 52) j 1))) : mm_Cs hh_S 74 [.ref 48, .int x] μ RI RV := by
  refine mm_in rfl (Nat.le_of_ble_eq_true rfl) ?_
  show mm_Rn hh_S 74 RI RV 0 [some (.ref 48), some (.int x)] [] μ
  (refine mm_run ok_74 (fun t => false) 9 ?_; rw [lb_74_0, rb_74]; simp only [↓w_aload_0, ↓w_bald, ↓w_bast, ↓w_dup, ↓w_fall, ↓w_getf, ↓w_iald, ↓w_ic_ge, ↓w_iconst, ↓w_if_eq, ↓w_if_ne, ↓w_iload_1, ↓w_iret, ↓w_isub, ↓w_putf, ↓li_0, ↓li_s, ↓lr_0, ↓lr_s, ↓gf_48_3, ↓gf_48_5, ↓gf_48_7, ↓pf_48_7, ↓rc_48, ↓ar_50, ↓ar_52, ↓w_c69, ↓w_c71, ↓wl_74_0, ↓wl_74_38, ↓wl_74_40, hs_wr, hs_cp, hs_s, hs_n, hs_hs, upd_s, upd_n, upd_upd, ne_eq, Nat.reduceEqDiff, c1_i, c1_r, c2_i, c2_r, ↓reduceIte, List.set_cons_zero, List.set_cons_succ, mm_cb, List.length_cons, List.length_nil, List.all_cons, List.all_nil, Nat.zero_add, Nat.reduceAdd, Nat.reduceLeDiff, Nat.zero_le, decide_true, Bool.and_self, Bool.and_true, true_and, and_true, forall_const, Bool.or_false, Bool.false_or, Bool.or_true, Bool.true_or, Bool.false_eq_true, Nat.reduceBEq, beq_self_eq_true, ha_11, ha_01, hb_10, hb_0x, imp_self, false_implies, not_true_eq_false, not_false_eq_true])
  refine q_isLot hN hn (fun j hj e => br1 ?_) (fun h => br0 (h0 (fun j hj e => absurd e (h j hj))))
  have hf : ¬ (fmB (μ 51) (μ 52) (μ 50) (μ 48 0) j = true ∧ μ 52 j = 0 ∧ μ 50 j ≤ μ 48 7) → RI 0 μ := fun z => h0 (fun i hi e2 => by
    have : i = j := (nI_eq (by omega) (by omega)).mp (e2.symm.trans e)
    subst this
    exact z)
  have hi := in_nI (show j < 60 by omega) (by omega)
  subst e
  rw [nI_cl (by omega)]
  exact r_isFresh (by omega) (fun u => br1 ⟨hi, fun b => hf (fun z => b z.2.1), fun b => ⟨hi, fun c => ⟨hi, hi, h1 j hj rfl u b c⟩, fun c => hf (fun z => c z.2.2)⟩⟩) (fun u => br0 (hf (fun z => u z.1)))
theorem r_kind {a w p : Int32} (h0 : ¬ Vkm (μ 55) a w p → RI 0 μ) (h1 : ∀ j, j < 4 → a = nI j → Vkm (μ 55) a w p → RI 1 (hs (hs μ 54 (upd (μ 54) j w)) 55 (upd (μ 55) j p))) : mm_Cs hh_S 76 [.ref 48, .int a, .int w, .int p] μ RI RV := by
  refine mm_in rfl (Nat.le_of_ble_eq_true rfl) ?_
  show mm_Rn hh_S 76 RI RV 0 [some (.ref 48), some (.int a), some (.int w), some (.int p)] [] μ
  (refine mm_run ok_76 (fun t => false) 12 ?_; rw [lb_76_0, rb_76]; simp only [↓w_aload_0, ↓w_bipush, ↓w_fall, ↓w_getf, ↓w_iald, ↓w_iast, ↓w_ic_gt, ↓w_iconst, ↓w_idiv, ↓w_if_eq, ↓w_if_gt, ↓w_if_lt, ↓w_if_ne, ↓w_iload_1, ↓w_iload_2, ↓w_iload_3, ↓w_irem, ↓w_iret, ↓w_sipush, ↓li_0, ↓li_s, ↓lr_0, ↓lr_s, ↓gf_48_8, ↓gf_48_9, ↓ar_54, ↓ar_55, ↓w_c68, ↓w_c75, ↓wl_76_0, ↓wl_76_77, ↓wl_76_79, hs_wr, hs_cp, hs_s, hs_n, hs_hs, upd_s, upd_n, upd_upd, ne_eq, Nat.reduceEqDiff, c1_i, c1_r, c2_i, c2_r, ↓reduceIte, List.set_cons_zero, List.set_cons_succ, mm_cb, List.length_cons, List.length_nil, List.all_cons, List.all_nil, Nat.zero_add, Nat.reduceAdd, Nat.reduceLeDiff, Nat.zero_le, decide_true, Bool.and_self, Bool.and_true, true_and, and_true, forall_const, Bool.or_false, Bool.false_or, Bool.or_true, Bool.true_or, Bool.false_eq_true, Nat.reduceBEq, beq_self_eq_true, ha_11, ha_01, hb_10, hb_0x, imp_self, false_implies, not_true_eq_false, not_false_eq_true])
  refine q_isKindNumber (fun j hj e => br1 ?_) (fun h => br0 (h0 (fun z => by
    obtain ⟨j, hj, e, -⟩ := z.1
    exact h j hj e)))
  subst e
  have hi := in_nI hj (by omega)
  rw [nI_cl (by omega)]
  refine ⟨hi, fun b => h0 (fun z => ?_), fun b => ⟨fun c => h0 (fun z => z.2.1 c), fun c => ⟨by decide, ?_⟩⟩⟩
  · obtain ⟨i, hi, e, hk⟩ := z.1
    have : j = i := (nI_eq (by omega) (by omega)).mp e
    subst this
    exact hk b
  · refine q_in (fun d1 d2 => br1 ⟨by decide, by decide, fun f => h0 (fun z => z.2.2.2.1 f), fun f => ⟨by decide, by decide, fun g => h0 (fun z => z.2.2.2.2.1 g), fun g => ⟨by decide, ?_⟩⟩⟩) (fun d => br0 (h0 (fun z => d z.2.2.1)))
    refine q_in (fun k1 k2 => br1 ?_) (fun d => br0 (h0 (fun z => d z.2.2.2.2.2.1)))
    refine q_in (fun l1 l2 => br1n ⟨hi, hi, ?_⟩) (fun d => br0n (h0 (fun z => d z.2.2.2.2.2.2)))
    exact h1 j hj rfl ⟨⟨j, hj, rfl, b⟩, c, ⟨d1, d2⟩, f, g, ⟨k1, k2⟩, ⟨l1, l2⟩⟩
theorem r_sauce {a b : Int32} (h0 : ¬ Vsauce (μ 56) a b → RI (-1) μ) (h1 : ∀ j, j < 2 → a = nI j → Vsauce (μ 56) a b → RI (μ 56 j + b) (hs μ 56 (upd (μ 56) j (μ 56 j + b)))) : mm_Cs hh_S 81 [.ref 48, .int a, .int b] μ RI RV := by
  refine mm_in rfl (Nat.le_of_ble_eq_true rfl) ?_
  show mm_Rn hh_S 81 RI RV 0 [some (.ref 48), some (.int a), some (.int b)] [] μ
  (refine mm_run ok_81 (fun t => false) 12 ?_; rw [lb_81_0, rb_81]; simp only [↓w_aload_0, ↓w_dup2, ↓w_fall, ↓w_getf, ↓w_iadd, ↓w_iald, ↓w_iast, ↓w_ic_le, ↓w_iconst, ↓w_if_eq, ↓w_iload_1, ↓w_iload_2, ↓w_iret, ↓w_ldc, ↓w_sipush, ↓li_0, ↓li_s, ↓lr_0, ↓lr_s, ↓gf_48_10, ↓ar_56, ↓w_c68, ↓wl_81_0, ↓wl_81_33, ↓wl_81_35, hs_wr, hs_cp, hs_s, hs_n, hs_hs, upd_s, upd_n, upd_upd, ne_eq, Nat.reduceEqDiff, c1_i, c1_r, c2_i, c2_r, ↓reduceIte, List.set_cons_zero, List.set_cons_succ, mm_cb, List.length_cons, List.length_nil, List.all_cons, List.all_nil, Nat.zero_add, Nat.reduceAdd, Nat.reduceLeDiff, Nat.zero_le, decide_true, Bool.and_self, Bool.and_true, true_and, and_true, forall_const, Bool.or_false, Bool.false_or, Bool.or_true, Bool.true_or, Bool.false_eq_true, Nat.reduceBEq, beq_self_eq_true, ha_11, ha_01, hb_10, hb_0x, imp_self, false_implies, not_true_eq_false, not_false_eq_true])
  refine q_in (fun a1 a2 => br1 ?_) (fun h => br0 (h0 (fun z => by
    obtain ⟨j, hj, e, -⟩ := z.1
    exact ix_nlit (n := 2) i_0 (by decide) h j hj e)))
  obtain ⟨j, hj, rfl⟩ := ix_lit (n := 2) i_0 (by decide) a1 a2
  have hi := in_nI hj (by omega)
  rw [nI_cl (by omega)]
  refine q_in (fun b1 b2 => br1 ⟨hi, fun c => ⟨hi, hi, hi, ?_⟩, fun c => h0 (fun z => ?_)⟩) (fun h => br0 (h0 (fun z => h z.2)))
  · exact h1 j hj rfl ⟨⟨j, hj, rfl, c⟩, b1, b2⟩
  · obtain ⟨i, hi, e, hk⟩ := z.1
    have : j = i := (nI_eq (by omega) (by omega)).mp e
    subst this
    exact c hk
theorem r_call {a : Int32} (h0 : (∀ j, j < 3 → a = nI j → ¬ μ 57 j + 8 ≤ μ 48 0) → RI (-1) μ) (h1 : ∀ j, j < 3 → a = nI j → μ 57 j + 8 ≤ μ 48 0 → RI (μ 48 0 + 3) (hs μ 57 (upd (μ 57) j (μ 48 0 + 3)))) : mm_Cs hh_S 82 [.ref 48, .int a] μ RI RV := by
  refine mm_in rfl (Nat.le_of_ble_eq_true rfl) ?_
  show mm_Rn hh_S 82 RI RV 0 [some (.ref 48), some (.int a)] [] μ
  (refine mm_run ok_82 (fun t => false) 12 ?_; rw [lb_82_0, rb_82]; simp only [↓w_aload_0, ↓w_bipush, ↓w_fall, ↓w_getf, ↓w_iadd, ↓w_iald, ↓w_iast, ↓w_ic_ge, ↓w_iconst, ↓w_if_eq, ↓w_iload_1, ↓w_iret, ↓li_0, ↓li_s, ↓lr_0, ↓lr_s, ↓gf_48_0, ↓gf_48_11, ↓ar_57, ↓w_c68, ↓wl_82_0, ↓wl_82_25, ↓wl_82_27, hs_wr, hs_cp, hs_s, hs_n, hs_hs, upd_s, upd_n, upd_upd, ne_eq, Nat.reduceEqDiff, c1_i, c1_r, c2_i, c2_r, ↓reduceIte, List.set_cons_zero, List.set_cons_succ, mm_cb, List.length_cons, List.length_nil, List.all_cons, List.all_nil, Nat.zero_add, Nat.reduceAdd, Nat.reduceLeDiff, Nat.zero_le, decide_true, Bool.and_self, Bool.and_true, true_and, and_true, forall_const, Bool.or_false, Bool.false_or, Bool.or_true, Bool.true_or, Bool.false_eq_true, Nat.reduceBEq, beq_self_eq_true, ha_11, ha_01, hb_10, hb_0x, imp_self, false_implies, not_true_eq_false, not_false_eq_true])
  refine q_in (fun a1 a2 => br1 ?_) (fun h => br0 (h0 (fun j hj e => absurd e (ix_nlit (n := 3) i_0 (by decide) h j hj))))
  obtain ⟨j, hj, rfl⟩ := ix_lit (n := 3) i_0 (by decide) a1 a2
  have hi := in_nI hj (by omega)
  rw [nI_cl (by omega)]
  refine ⟨hi, fun u => ⟨hi, hi, h1 j hj rfl u⟩, fun u => h0 (fun i hi e => ?_)⟩
  have : j = i := (nI_eq (by omega) (by omega)).mp e
  subst this
  exact u
theorem r_fail {a : Int32} (h0 : (∀ j, j < 3 → a = nI j → μ 58 j = -1) → RI (-1) μ) (h1 : ∀ j, j < 3 → a = nI j → ¬ μ 58 j = -1 → RI (su (fun l => μ 61 (j * 60 + l)) 60) (hs (hs μ 48 (upd (μ 48) 17 (μ 48 17 + su (fun l => μ 61 (j * 60 + l)) 60))) 58 (upd (μ 58) j (-1)))) : mm_Cs hh_S 89 [.ref 48, .int a] μ RI RV := by
  refine mm_in rfl (Nat.le_of_ble_eq_true rfl) ?_
  show mm_Rn hh_S 89 RI RV 0 [some (.ref 48), some (.int a), none] [] μ
  (refine mm_run ok_89 (fun t => false) 12 ?_; rw [lb_89_0, rb_89]; simp only [↓w_aload_0, ↓w_dup, ↓w_fall, ↓w_getf, ↓w_iadd, ↓w_iald, ↓w_iast, ↓w_ic_ne, ↓w_iconst, ↓w_if_eq, ↓w_iload_1, ↓w_iload_2, ↓w_iret, ↓w_istore_2, ↓w_putf, ↓li_0, ↓li_s, ↓lr_0, ↓lr_s, ↓gf_48_13, ↓gf_48_17, ↓pf_48_17, ↓rc_48, ↓ar_58, ↓w_c68, ↓w_c88, ↓wl_89_0, ↓wl_89_19, ↓wl_89_21, hs_wr, hs_cp, hs_s, hs_n, hs_hs, upd_s, upd_n, upd_upd, ne_eq, Nat.reduceEqDiff, c1_i, c1_r, c2_i, c2_r, ↓reduceIte, List.set_cons_zero, List.set_cons_succ, mm_cb, List.length_cons, List.length_nil, List.all_cons, List.all_nil, Nat.zero_add, Nat.reduceAdd, Nat.reduceLeDiff, Nat.zero_le, decide_true, Bool.and_self, Bool.and_true, true_and, and_true, forall_const, Bool.or_false, Bool.false_or, Bool.or_true, Bool.true_or, Bool.false_eq_true, Nat.reduceBEq, beq_self_eq_true, ha_11, ha_01, hb_10, hb_0x, imp_self, false_implies, not_true_eq_false, not_false_eq_true])
  refine q_in (fun a1 a2 => br1 ?_) (fun h => br0 (h0 (fun j hj e => absurd e (ix_nlit (n := 3) i_0 (by decide) h j hj))))
  obtain ⟨j, hj, rfl⟩ := ix_lit (n := 3) i_0 (by decide) a1 a2
  have hi := in_nI hj (by omega)
  rw [nI_cl (by omega)]
  refine ⟨hi, fun u => r_kgIn hj ⟨hi, ?_⟩, fun u => h0 (fun i hi e => ?_)⟩
  · rw [if_neg u]
    exact h1 j hj rfl u
  · have : j = i := (nI_eq (by omega) (by omega)).mp e
    subst this
    exact u
def Vcm (pr : Nat → Int32) (a b c d t : Int32) (n : Nat) : Prop := (0 ≤ a ∧ a ≤ 5) ∧ (∃ j, j < 4 ∧ b = nI j ∧ ¬ pr j ≤ 0) ∧ (1 ≤ c ∧ c ≤ 500) ∧ (t / 168 ≤ d ∧ d ≤ 29) ∧ n < 20
theorem r_contract {n : Nat} (hN : μ 48 27 = nI n) (hn : n ≤ 20) {a b c d : Int32} (h0 : ¬ Vcm (μ 55) a b c d (μ 48 0) n → RI (-1) μ) (h1 : Vcm (μ 55) a b c d (μ 48 0) n → RI (nI n) (hs (hs (hs (hs (hs μ 69 (upd (μ 69) n a)) 70 (upd (μ 70) n b)) 71 (upd (μ 71) n c)) 72 (upd (μ 72) n d)) 48 (upd (μ 48) 27 (nI (n + 1))))) : mm_Cs hh_S 100 [.ref 48, .int a, .int b, .int c, .int d] μ RI RV := by
  refine mm_in rfl (Nat.le_of_ble_eq_true rfl) ?_
  show mm_Rn hh_S 100 RI RV 0 [some (.ref 48), some (.int a), some (.int b), some (.int c), some (.int d)] [] μ
  (refine mm_run ok_100 (fun t => false) 12 ?_; rw [lb_100_0, rb_100]; simp only [↓w_aload_0, ↓w_bipush, ↓w_dup, ↓w_fall, ↓w_getf, ↓w_iadd, ↓w_iast, ↓w_ic_ne, ↓w_iconst, ↓w_idiv, ↓w_if_eq, ↓w_iload, ↓w_iload_1, ↓w_iload_2, ↓w_iload_3, ↓w_iret, ↓w_isub, ↓w_putf, ↓w_sipush, ↓li_0, ↓li_s, ↓lr_0, ↓lr_s, ↓gf_48_0, ↓gf_48_27, ↓gf_48_28, ↓gf_48_29, ↓gf_48_30, ↓gf_48_31, ↓pf_48_27, ↓rc_48, ↓ar_69, ↓ar_70, ↓ar_71, ↓ar_72, ↓w_c68, ↓w_c77, ↓wl_100_0, ↓wl_100_55, ↓wl_100_57, hs_wr, hs_cp, hs_s, hs_n, hs_hs, upd_s, upd_n, upd_upd, ne_eq, Nat.reduceEqDiff, c1_i, c1_r, c2_i, c2_r, ↓reduceIte, List.set_cons_zero, List.set_cons_succ, mm_cb, List.length_cons, List.length_nil, List.all_cons, List.all_nil, Nat.zero_add, Nat.reduceAdd, Nat.reduceLeDiff, Nat.zero_le, decide_true, Bool.and_self, Bool.and_true, true_and, and_true, forall_const, Bool.or_false, Bool.false_or, Bool.or_true, Bool.true_or, Bool.false_eq_true, Nat.reduceBEq, beq_self_eq_true, ha_11, ha_01, hb_10, hb_0x, imp_self, false_implies, not_true_eq_false, not_false_eq_true])
  refine q_in (fun a1 a2 => br1 ?_) (fun h => br0 (h0 (fun z => h z.1)))
  refine r_isTold (fun j hj eb hk => br1 ?_) (fun h => br0 (h0 (fun z => by
    obtain ⟨j, hj, e, hk⟩ := z.2.1
    exact hk (h j hj e))))
  refine q_in (fun c1 c2 => br1 ⟨by decide, ?_⟩) (fun h => br0 (h0 (fun z => h z.2.2.1)))
  refine q_in (fun d1 d2 => br1 ?_) (fun h => br0 (h0 (fun z => h z.2.2.2.1)))
  rw [hN, nI_cl (by omega), nI_eqL (n := n) (x := 20) (m := 20) rfl (by omega) (by omega), nI_1, nI_pred]
  refine ⟨fun d => ?_, fun d => h0 (fun z => by have := z.2.2.2.2; omega)⟩
  have hi := in_nI (show n < 20 by omega) (by omega)
  exact ⟨hi, hi, hi, hi, h1 ⟨⟨a1, a2⟩, ⟨j, hj, eb, hk⟩, ⟨c1, c2⟩, ⟨d1, d2⟩, by omega⟩⟩
theorem r_recall {n nb : Nat} (hN : μ 48 1 = nI n) (hn : n ≤ 60) (hB : μ 48 18 = nI nb) (hb : nb ≤ 100) {x : Int32} (h0 : (∀ j, j < n → x = nI j → ¬ μ 53 j = 0) → RI (-1) μ) (h1 : ∀ j, j < n → x = nI j → μ 53 j = 0 → RI (so (fun b => if decide (¬ μ 68 (b * 60 + j) = 0) = true then μ 67 b else 0) nb) (hs (hs μ 53 (upd (μ 53) j 1)) 66 (fun b => if b < nb ∧ ¬ μ 68 (b * 60 + j) = 0 then 1 else μ 66 b))) : mm_Cs hh_S 102 [.ref 48, .int x] μ RI RV := by
  refine mm_in rfl (Nat.le_of_ble_eq_true rfl) ?_
  show mm_Rn hh_S 102 RI RV 0 [some (.ref 48), some (.int x), none, none] [] μ
  (refine mm_run ok_102 (fun t => t == 30) 12 ?_; rw [lb_102_0, rb_102]; simp only [↓w_aload_0, ↓w_bald, ↓w_bast, ↓w_bipush, ↓w_fall, ↓w_getf, ↓w_goto, ↓w_iadd, ↓w_iald, ↓w_ic_ge, ↓w_iconst, ↓w_if_eq, ↓w_if_ne, ↓w_iinc, ↓w_iload_1, ↓w_iload_2, ↓w_iload_3, ↓w_imul, ↓w_ior, ↓w_iret, ↓w_istore_2, ↓w_istore_3, ↓li_0, ↓li_s, ↓lr_0, ↓lr_s, ↓gf_48_18, ↓gf_48_23, ↓gf_48_24, ↓gf_48_25, ↓gf_48_6, ↓rc_48, ↓ar_53, ↓ar_66, ↓ar_67, ↓ar_68, ↓w_c69, ↓wl_102_0, ↓wl_102_17, ↓wl_102_19, ↓wl_102_30, ↓wl_102_55, ↓wl_102_71, ↓wl_102_77, hs_wr, hs_cp, hs_s, hs_n, hs_hs, upd_s, upd_n, upd_upd, ne_eq, Nat.reduceEqDiff, c1_i, c1_r, c2_i, c2_r, ↓reduceIte, List.set_cons_zero, List.set_cons_succ, mm_cb, List.length_cons, List.length_nil, List.all_cons, List.all_nil, Nat.zero_add, Nat.reduceAdd, Nat.reduceLeDiff, Nat.zero_le, decide_true, Bool.and_self, Bool.and_true, true_and, and_true, forall_const, Bool.or_false, Bool.false_or, Bool.or_true, Bool.true_or, Bool.false_eq_true, Nat.reduceBEq, beq_self_eq_true, ha_11, ha_01, hb_10, hb_0x, imp_self, false_implies, not_true_eq_false, not_false_eq_true])
  refine q_isLot hN hn (fun j hj e => br1 ?_) (fun h => br0 (h0 (fun j hj e => absurd e (h j hj))))
  have hi := in_nI (show j < 60 by omega) (by omega)
  subst e
  rw [nI_cl (by omega)]
  refine ⟨hi, fun u => ⟨hi, ?_⟩, fun u => h0 (fun i hi e => ?_)⟩
  · have g1 := h1 j hj rfl u
    have e1 : μ 68 = hs μ 53 (upd (μ 53) j 1) 68 := by simp only [hs_n, ne_eq, Nat.reduceEqDiff, not_false_eq_true]
    have e2 : μ 67 = hs μ 53 (upd (μ 53) j 1) 67 := by simp only [hs_n, ne_eq, Nat.reduceEqDiff, not_false_eq_true]
    have e3 : μ 66 = hs μ 53 (upd (μ 53) j 1) 66 := by simp only [hs_n, ne_eq, Nat.reduceEqDiff, not_false_eq_true]
    have e4 : hs μ 53 (upd (μ 53) j 1) 48 18 = nI nb := by simp only [hs_n, ne_eq, Nat.reduceEqDiff, not_false_eq_true]; exact hB
    rw [e1, e2, e3] at g1
    clear e1 e2 e3
    generalize hs μ 53 (upd (μ 53) j 1) = ν at g1 e4 ⊢
    have lp := up_ind (n := nb) (P := fun i => mm_Rn hh_S 102 RI RV 30 [some (.ref 48), some (.int (nI j)), some (.int (so (fun b => if decide (¬ ν 68 (b * 60 + j) = 0) = true then ν 67 b else 0) i)), some (.int (nI i))] [] (hs ν 66 (fun b => if b < i ∧ ¬ ν 68 (b * 60 + j) = 0 then 1 else ν 66 b))) (fun i hi ih => by
      (refine mm_run ok_102 (fun t => t == 30) 9 ?_; rw [lb_102_30, rb_102]; simp only [↓w_aload_0, ↓w_bald, ↓w_bast, ↓w_bipush, ↓w_fall, ↓w_getf, ↓w_goto, ↓w_iadd, ↓w_iald, ↓w_ic_ge, ↓w_iconst, ↓w_if_eq, ↓w_if_ne, ↓w_iinc, ↓w_iload_1, ↓w_iload_2, ↓w_iload_3, ↓w_imul, ↓w_ior, ↓w_iret, ↓w_istore_2, ↓w_istore_3, ↓li_0, ↓li_s, ↓lr_0, ↓lr_s, ↓gf_48_18, ↓gf_48_23, ↓gf_48_24, ↓gf_48_25, ↓gf_48_6, ↓rc_48, ↓ar_53, ↓ar_66, ↓ar_67, ↓ar_68, ↓w_c69, ↓wl_102_0, ↓wl_102_17, ↓wl_102_19, ↓wl_102_30, ↓wl_102_55, ↓wl_102_71, ↓wl_102_77, hs_wr, hs_cp, hs_s, hs_n, hs_hs, upd_s, upd_n, upd_upd, ne_eq, Nat.reduceEqDiff, c1_i, c1_r, c2_i, c2_r, ↓reduceIte, List.set_cons_zero, List.set_cons_succ, mm_cb, List.length_cons, List.length_nil, List.all_cons, List.all_nil, Nat.zero_add, Nat.reduceAdd, Nat.reduceLeDiff, Nat.zero_le, decide_true, Bool.and_self, Bool.and_true, true_and, and_true, forall_const, Bool.or_false, Bool.false_or, Bool.or_true, Bool.true_or, Bool.false_eq_true, Nat.reduceBEq, beq_self_eq_true, ha_11, ha_01, hb_10, hb_0x, imp_self, false_implies, not_true_eq_false, not_false_eq_true])
      rw [e4, nI_cl (by omega), nI_1, ixm2]
      refine ⟨fun c => ?_, fun c => ?_⟩
      · have := le_nI (by omega) (by omega) c
        rw [show i = nb by omega]
        exact g1
      · have := nle_nI (by omega) (by omega) c
        have ih := ih (i + 1) (by omega) (by omega)
        rw [nI_cl (by omega)]
        refine ⟨in_nI (by omega) (by omega), fun q => ⟨in_nI (by omega) (by omega), in_nI (by omega) (by omega), ?_⟩, fun q => ?_⟩
        · rw [so_if_t (f := ν 67) (p := fun b => decide (¬ ν 68 (b * 60 + j) = 0)) (by simp [q])] at ih
          have e : upd (fun b => if b < i ∧ ¬ ν 68 (b * 60 + j) = 0 then (1 : Int32) else ν 66 b) i 1 = (fun b => if b < i + 1 ∧ ¬ ν 68 (b * 60 + j) = 0 then 1 else ν 66 b) := by
            funext b
            unfold upd
            by_cases hj : b = i
            · subst hj
              rw [if_pos rfl, if_pos ⟨by omega, q⟩]
            · simp only [hj, if_false, show (b < i + 1) = (b < i) by apply propext; omega]
          rw [e]
          exact ih
        · rw [so_if_f (f := ν 67) (p := fun b => decide (¬ ν 68 (b * 60 + j) = 0)) (by simp [q])] at ih
          have e : (fun b => if b < i + 1 ∧ ¬ ν 68 (b * 60 + j) = 0 then (1 : Int32) else ν 66 b) = (fun b => if b < i ∧ ¬ ν 68 (b * 60 + j) = 0 then 1 else ν 66 b) := by
            funext b
            by_cases hj : b = i
            · subst hj
              simp [q]
            · simp only [show (b < i + 1) = (b < i) by apply propext; omega]
          rw [e] at ih
          exact ih)
    have := lp 0 (Nat.zero_le _)
    have e : (fun b => if b < 0 ∧ ¬ ν 68 (b * 60 + j) = 0 then (1 : Int32) else ν 66 b) = ν 66 := by
      funext b
      simp
    rw [e, hs_id] at this
    exact this
  · have : j = i := (nI_eq (by omega) (by omega)).mp e
    subst this
    exact u
theorem r_lot {n : Nat} (hN : μ 48 1 = nI n) (hn : n ≤ 60) {x w : Int32} (h0 : (∀ j, j < n → ¬ x = nI j) → RI (-1) μ) (h1 : ∀ j, j < n → x = nI j → RI (swV w 0 [μ 49 j, μ 50 j, stH (μ 51) (μ 52) j, if μ 52 j = 0 then 0 else 1, if μ 53 j = 0 then 0 else 1]) μ) : mm_Cs hh_S 103 [.ref 48, .int x, .int w] μ RI RV := by
  refine mm_in rfl (Nat.le_of_ble_eq_true rfl) ?_
  show mm_Rn hh_S 103 RI RV 0 [some (.ref 48), some (.int x), some (.int w)] [] μ
  (refine mm_run ok_103 (fun t => false) 12 ?_; rw [lb_103_0, rb_103]; simp only [↓w_aload_0, ↓w_bald, ↓w_fall, ↓w_getf, ↓w_goto, ↓w_iald, ↓w_iconst, ↓w_if_eq, ↓w_if_ne, ↓w_iload_1, ↓w_iload_2, ↓w_iret, ↓w_table, ↓sw_n, ↓sw_c, ↓li_0, ↓li_s, ↓lr_0, ↓lr_s, ↓gf_48_2, ↓gf_48_3, ↓gf_48_5, ↓gf_48_6, ↓rc_48, ↓ar_49, ↓ar_50, ↓ar_52, ↓ar_53, ↓w_c69, ↓w_c70, ↓wl_103_0, ↓wl_103_10, ↓wl_103_44, ↓wl_103_51, ↓wl_103_58, ↓wl_103_64, ↓wl_103_77, ↓wl_103_78, ↓wl_103_79, ↓wl_103_92, ↓wl_103_93, ↓wl_103_94, hs_wr, hs_cp, hs_s, hs_n, hs_hs, upd_s, upd_n, upd_upd, ne_eq, Nat.reduceEqDiff, c1_i, c1_r, c2_i, c2_r, ↓reduceIte, List.set_cons_zero, List.set_cons_succ, mm_cb, List.length_cons, List.length_nil, List.all_cons, List.all_nil, Nat.zero_add, Nat.reduceAdd, Nat.reduceLeDiff, Nat.zero_le, decide_true, Bool.and_self, Bool.and_true, true_and, and_true, forall_const, Bool.or_false, Bool.false_or, Bool.or_true, Bool.true_or, Bool.false_eq_true, Nat.reduceBEq, beq_self_eq_true, ha_11, ha_01, hb_10, hb_0x, imp_self, false_implies, not_true_eq_false, not_false_eq_true])
  refine q_isLot hN hn (fun j hj e => br1n ?_) (fun h => br0n (h0 h))
  have hi := in_nI (show j < 60 by omega) (by omega)
  have g1 := h1 j hj e
  clear h1 h0
  subst e
  rw [nI_cl (by omega)]
  refine ⟨fun o => ?_, fun e => ?_, fun e => ?_, fun e => ?_, fun e => ?_, fun e => ?_⟩
  · exact swO g1 o (by simp)
  · subst e; exact ⟨hi, g1⟩
  · subst e; exact ⟨hi, g1⟩
  · subst e; exact r_freshTill (by omega) g1
  · subst e
    have g1 : RI (if μ 52 j = 0 then 0 else 1) μ := g1
    refine ⟨hi, fun z => ?_, fun z => ?_⟩
    · rw [if_pos z] at g1; exact g1
    · rw [if_neg z] at g1; exact g1
  · subst e
    have g1 : RI (if μ 53 j = 0 then 0 else 1) μ := g1
    refine ⟨hi, fun z => ?_, fun z => ?_⟩
    · rw [if_pos z] at g1; exact g1
    · rw [if_neg z] at g1; exact g1
theorem r_batch {n : Nat} (hN : μ 48 18 = nI n) (hn : n ≤ 100) (hk : ∀ b, b < n → ∃ k, k < 4 ∧ μ 62 b = nI k) {x w : Int32} (h0 : (∀ j, j < n → ¬ x = nI j) → RI (-1) μ) (h1 : ∀ j k, j < n → x = nI j → k < 4 → μ 62 j = nI k → RI (swV w 0 [μ 62 j, μ 63 j, μ 65 j, if μ 66 j = 0 then 0 else 1, μ 64 j, cw (μ 55 k) (μ 65 j) (μ 48 0)]) μ) : mm_Cs hh_S 104 [.ref 48, .int x, .int w] μ RI RV := by
  refine mm_in rfl (Nat.le_of_ble_eq_true rfl) ?_
  show mm_Rn hh_S 104 RI RV 0 [some (.ref 48), some (.int x), some (.int w)] [] μ
  (refine mm_run ok_104 (fun t => false) 12 ?_; rw [lb_104_0, rb_104]; simp only [↓w_aload_0, ↓w_bald, ↓w_fall, ↓w_getf, ↓w_goto, ↓w_iald, ↓w_iconst, ↓w_if_eq, ↓w_if_ne, ↓w_iload_1, ↓w_iload_2, ↓w_iret, ↓w_isub, ↓w_table, ↓sw_n, ↓sw_c, ↓li_0, ↓li_s, ↓lr_0, ↓lr_s, ↓gf_48_18, ↓gf_48_19, ↓gf_48_20, ↓gf_48_21, ↓gf_48_22, ↓gf_48_23, ↓rc_48, ↓ar_62, ↓ar_63, ↓ar_64, ↓ar_65, ↓ar_66, ↓w_c68, ↓w_c97, ↓wl_104_0, ↓wl_104_16, ↓wl_104_56, ↓wl_104_63, ↓wl_104_70, ↓wl_104_77, ↓wl_104_90, ↓wl_104_91, ↓wl_104_92, ↓wl_104_99, ↓wl_104_105, hs_wr, hs_cp, hs_s, hs_n, hs_hs, upd_s, upd_n, upd_upd, ne_eq, Nat.reduceEqDiff, c1_i, c1_r, c2_i, c2_r, ↓reduceIte, List.set_cons_zero, List.set_cons_succ, mm_cb, List.length_cons, List.length_nil, List.all_cons, List.all_nil, Nat.zero_add, Nat.reduceAdd, Nat.reduceLeDiff, Nat.zero_le, decide_true, Bool.and_self, Bool.and_true, true_and, and_true, forall_const, Bool.or_false, Bool.false_or, Bool.or_true, Bool.true_or, Bool.false_eq_true, Nat.reduceBEq, beq_self_eq_true, ha_11, ha_01, hb_10, hb_0x, imp_self, false_implies, not_true_eq_false, not_false_eq_true])
  rw [hN]
  refine q_in (fun a1 a2 => br1n ?_) (fun h => br0n (h0 (ix_no (by omega) h)))
  obtain ⟨j, hj, e⟩ := ix_of (by omega) a1 a2
  have hi := in_nI (show j < 100 by omega) (by omega)
  obtain ⟨k, hk4, ek⟩ := hk j hj
  have g1 := h1 j k hj e hk4 ek
  clear h1 h0
  subst e
  rw [nI_cl (by omega)]
  refine ⟨fun o => ?_, fun e => ?_, fun e => ?_, fun e => ?_, fun e => ?_, fun e => ?_, fun e => ?_⟩
  · exact swO g1 o (by simp)
  · subst e; exact ⟨hi, g1⟩
  · subst e; exact ⟨hi, g1⟩
  · subst e; exact ⟨hi, g1⟩
  · subst e
    have g1 : RI (if μ 66 j = 0 then 0 else 1) μ := g1
    refine ⟨hi, fun z => ?_, fun z => ?_⟩
    · rw [if_pos z] at g1; exact g1
    · rw [if_neg z] at g1; exact g1
  · subst e; exact ⟨hi, g1⟩
  · subst e; exact r_worthOf (by omega) hk4 ek g1
theorem r_of {n nb : Nat} (hN : μ 48 1 = nI n) (hn : n ≤ 60) (hB : μ 48 18 = nI nb) (hb : nb ≤ 100) {x y : Int32} (h0 : (∀ b j, b < nb → j < n → x = nI b → ¬ y = nI j) → RI (-1) μ) (h1 : ∀ b j, b < nb → j < n → x = nI b → y = nI j → RI (μ 68 (b * 60 + j)) μ) : mm_Cs hh_S 105 [.ref 48, .int x, .int y] μ RI RV := by
  refine mm_in rfl (Nat.le_of_ble_eq_true rfl) ?_
  show mm_Rn hh_S 105 RI RV 0 [some (.ref 48), some (.int x), some (.int y)] [] μ
  (refine mm_run ok_105 (fun t => false) 12 ?_; rw [lb_105_0, rb_105]; simp only [↓w_aload_0, ↓w_bipush, ↓w_fall, ↓w_getf, ↓w_goto, ↓w_iadd, ↓w_iald, ↓w_iconst, ↓w_if_eq, ↓w_iload_1, ↓w_iload_2, ↓w_imul, ↓w_iret, ↓w_isub, ↓li_0, ↓li_s, ↓lr_0, ↓lr_s, ↓gf_48_18, ↓gf_48_25, ↓rc_48, ↓ar_68, ↓w_c68, ↓w_c69, ↓wl_105_0, ↓wl_105_36, ↓wl_105_37, hs_wr, hs_cp, hs_s, hs_n, hs_hs, upd_s, upd_n, upd_upd, ne_eq, Nat.reduceEqDiff, c1_i, c1_r, c2_i, c2_r, ↓reduceIte, List.set_cons_zero, List.set_cons_succ, mm_cb, List.length_cons, List.length_nil, List.all_cons, List.all_nil, Nat.zero_add, Nat.reduceAdd, Nat.reduceLeDiff, Nat.zero_le, decide_true, Bool.and_self, Bool.and_true, true_and, and_true, forall_const, Bool.or_false, Bool.false_or, Bool.or_true, Bool.true_or, Bool.false_eq_true, Nat.reduceBEq, beq_self_eq_true, ha_11, ha_01, hb_10, hb_0x, imp_self, false_implies, not_true_eq_false, not_false_eq_true])
  rw [hB]
  refine q_in (fun a1 a2 => br1 ?_) (fun h => br0 (h0 (fun b j hb hj e => absurd e (ix_no (by omega) h b hb))))
  obtain ⟨b, hb2, e⟩ := ix_of (by omega) a1 a2
  refine q_isLot hN hn (fun j hj e2 => br1 ?_) (fun h => br0 (h0 (fun b j hb hj e => h j hj)))
  subst e
  subst e2
  rw [ixm2, nI_cl (by omega)]
  exact ⟨in_nI (by omega) (by omega), h1 b j hb2 hj rfl rfl⟩
theorem r_cooker {x w : Int32} (h0 : (∀ j, j < 3 → ¬ x = nI j) → RI (-1) μ) (h1 : ∀ j, j < 3 → x = nI j → RI (swV w 0 [μ 58 j, if μ 58 j = -1 then 0 else μ 59 j, if μ 58 j = -1 then -1 else μ 60 j]) μ) : mm_Cs hh_S 106 [.ref 48, .int x, .int w] μ RI RV := by
  refine mm_in rfl (Nat.le_of_ble_eq_true rfl) ?_
  show mm_Rn hh_S 106 RI RV 0 [some (.ref 48), some (.int x), some (.int w), none] [] μ
  (refine mm_run ok_106 (fun t => false) 12 ?_; rw [lb_106_0, rb_106]; simp only [↓w_aload_0, ↓w_fall, ↓w_getf, ↓w_goto, ↓w_iald, ↓w_ic_eq, ↓w_iconst, ↓w_if_eq, ↓w_if_ne, ↓w_iload_1, ↓w_iload_2, ↓w_iload_3, ↓w_iret, ↓w_istore_3, ↓w_table, ↓sw_n, ↓sw_c, ↓li_0, ↓li_s, ↓lr_0, ↓lr_s, ↓gf_48_13, ↓gf_48_14, ↓gf_48_15, ↓ar_58, ↓ar_59, ↓ar_60, ↓w_c68, ↓wl_106_0, ↓wl_106_11, ↓wl_106_25, ↓wl_106_26, ↓wl_106_56, ↓wl_106_63, ↓wl_106_76, ↓wl_106_77, ↓wl_106_78, ↓wl_106_91, ↓wl_106_92, ↓wl_106_93, hs_wr, hs_cp, hs_s, hs_n, hs_hs, upd_s, upd_n, upd_upd, ne_eq, Nat.reduceEqDiff, c1_i, c1_r, c2_i, c2_r, ↓reduceIte, List.set_cons_zero, List.set_cons_succ, mm_cb, List.length_cons, List.length_nil, List.all_cons, List.all_nil, Nat.zero_add, Nat.reduceAdd, Nat.reduceLeDiff, Nat.zero_le, decide_true, Bool.and_self, Bool.and_true, true_and, and_true, forall_const, Bool.or_false, Bool.false_or, Bool.or_true, Bool.true_or, Bool.false_eq_true, Nat.reduceBEq, beq_self_eq_true, ha_11, ha_01, hb_10, hb_0x, imp_self, false_implies, not_true_eq_false, not_false_eq_true])
  refine q_in (fun a1 a2 => br1n ?_) (fun h => br0n (h0 (ix_nlit (n := 3) i_0 (by decide) h)))
  obtain ⟨j, hj, e⟩ := ix_lit (n := 3) i_0 (by decide) a1 a2
  have hi := in_nI hj (by omega)
  have g1 := h1 j hj e
  clear h1 h0
  subst e
  rw [nI_cl (by omega)]
  refine ⟨hi, fun k => ?_, fun k => ?_⟩
  · rw [if_pos k, if_pos k] at g1
    refine ⟨fun o => ?_, fun e => ?_, fun e => ?_, fun e => ?_⟩
    · exact swO g1 o (by simp)
    · subst e; exact ⟨hi, g1⟩
    · subst e; exact g1
    · subst e; exact g1
  · rw [if_neg k, if_neg k] at g1
    refine ⟨fun o => ?_, fun e => ?_, fun e => ?_, fun e => ?_⟩
    · exact swO g1 o (by simp)
    · subst e; exact ⟨hi, g1⟩
    · subst e; exact ⟨hi, g1⟩
    · subst e; exact ⟨hi, g1⟩
theorem r_told {n : Nat} (hN : μ 48 27 = nI n) (hn : n ≤ 20) {x w : Int32} (h0 : (∀ j, j < n → ¬ x = nI j) → RI (-1) μ) (h1 : ∀ j, j < n → x = nI j → RI (swV w 0 [μ 69 j, μ 70 j, μ 71 j, μ 72 j, μ 73 j, if μ 74 j = 0 then 0 else 1]) μ) : mm_Cs hh_S 107 [.ref 48, .int x, .int w] μ RI RV := by
  refine mm_in rfl (Nat.le_of_ble_eq_true rfl) ?_
  show mm_Rn hh_S 107 RI RV 0 [some (.ref 48), some (.int x), some (.int w)] [] μ
  (refine mm_run ok_107 (fun t => false) 12 ?_; rw [lb_107_0, rb_107]; simp only [↓w_aload_0, ↓w_bald, ↓w_fall, ↓w_getf, ↓w_goto, ↓w_iald, ↓w_iconst, ↓w_if_eq, ↓w_if_ne, ↓w_iload_1, ↓w_iload_2, ↓w_iret, ↓w_isub, ↓w_table, ↓sw_n, ↓sw_c, ↓li_0, ↓li_s, ↓lr_0, ↓lr_s, ↓gf_48_27, ↓gf_48_28, ↓gf_48_29, ↓gf_48_30, ↓gf_48_31, ↓gf_48_32, ↓gf_48_33, ↓ar_69, ↓ar_70, ↓ar_71, ↓ar_72, ↓ar_73, ↓ar_74, ↓w_c68, ↓wl_107_0, ↓wl_107_16, ↓wl_107_56, ↓wl_107_63, ↓wl_107_70, ↓wl_107_77, ↓wl_107_84, ↓wl_107_91, ↓wl_107_104, ↓wl_107_105, ↓wl_107_106, hs_wr, hs_cp, hs_s, hs_n, hs_hs, upd_s, upd_n, upd_upd, ne_eq, Nat.reduceEqDiff, c1_i, c1_r, c2_i, c2_r, ↓reduceIte, List.set_cons_zero, List.set_cons_succ, mm_cb, List.length_cons, List.length_nil, List.all_cons, List.all_nil, Nat.zero_add, Nat.reduceAdd, Nat.reduceLeDiff, Nat.zero_le, decide_true, Bool.and_self, Bool.and_true, true_and, and_true, forall_const, Bool.or_false, Bool.false_or, Bool.or_true, Bool.true_or, Bool.false_eq_true, Nat.reduceBEq, beq_self_eq_true, ha_11, ha_01, hb_10, hb_0x, imp_self, false_implies, not_true_eq_false, not_false_eq_true])
  rw [hN]
  refine q_in (fun a1 a2 => br1n ?_) (fun h => br0n (h0 (ix_no (by omega) h)))
  obtain ⟨j, hj, e⟩ := ix_of (by omega) a1 a2
  have hi := in_nI (show j < 20 by omega) (by omega)
  have g1 := h1 j hj e
  clear h1 h0
  subst e
  rw [nI_cl (by omega)]
  refine ⟨fun o => ?_, fun e => ?_, fun e => ?_, fun e => ?_, fun e => ?_, fun e => ?_, fun e => ?_⟩
  · exact swO g1 o (by simp)
  · subst e; exact ⟨hi, g1⟩
  · subst e; exact ⟨hi, g1⟩
  · subst e; exact ⟨hi, g1⟩
  · subst e; exact ⟨hi, g1⟩
  · subst e; exact ⟨hi, g1⟩
  · subst e
    have g1 : RI (if μ 74 j = 0 then 0 else 1) μ := g1
    refine ⟨hi, fun z => ?_, fun z => ?_⟩
    · rw [if_pos z] at g1; exact g1
    · rw [if_neg z] at g1; exact g1
theorem r_count {n nb : Nat} (hN : μ 48 1 = nI n) (hn : n ≤ 60) (hB : μ 48 18 = nI nb) (hb : nb ≤ 100) {w : Int32} (g1 : RI (swV w 0 [μ 48 0, μ 48 1, su (μ 50) n, su (fun c => if μ 58 c = -1 then 0 else su (fun l => μ 61 (c * 60 + l)) 60) 3, su (μ 68) (nb * 60), μ 48 17, μ 48 18, su (fun j => if tmB (μ 57) (μ 48 0) j = true then 1 else 0) 3, μ 48 12, μ 48 26, μ 48 34, μ 48 7, μ 56 0, μ 56 1]) μ) : mm_Cs hh_S 108 [.ref 48, .int w] μ RI RV := by
  refine mm_in rfl (Nat.le_of_ble_eq_true rfl) ?_
  show mm_Rn hh_S 108 RI RV 0 [some (.ref 48), some (.int w), none, none] [] μ
  (refine mm_run ok_108 (fun t => t == 84 || t == 111 || t == 134) 12 ?_; rw [lb_108_0, rb_108]; simp only [↓w_aload_0, ↓w_bipush, ↓w_fall, ↓w_getf, ↓w_goto, ↓w_iadd, ↓w_iald, ↓w_ic_ge, ↓w_iconst, ↓w_iinc, ↓w_iload_1, ↓w_iload_2, ↓w_iload_3, ↓w_imul, ↓w_iret, ↓w_istore_2, ↓w_istore_3, ↓w_table, ↓sw_n, ↓sw_c, ↓li_0, ↓li_s, ↓lr_0, ↓lr_s, ↓gf_48_0, ↓gf_48_1, ↓gf_48_10, ↓gf_48_12, ↓gf_48_17, ↓gf_48_18, ↓gf_48_25, ↓gf_48_26, ↓gf_48_3, ↓gf_48_34, ↓gf_48_7, ↓rc_48, ↓ar_50, ↓ar_56, ↓ar_68, ↓w_c83, ↓w_c88, ↓wl_108_0, ↓wl_108_72, ↓wl_108_77, ↓wl_108_82, ↓wl_108_84, ↓wl_108_107, ↓wl_108_109, ↓wl_108_111, ↓wl_108_130, ↓wl_108_132, ↓wl_108_134, ↓wl_108_160, ↓wl_108_162, ↓wl_108_167, ↓wl_108_172, ↓wl_108_177, ↓wl_108_182, ↓wl_108_187, ↓wl_108_192, ↓wl_108_197, ↓wl_108_204, ↓wl_108_211, hs_wr, hs_cp, hs_s, hs_n, hs_hs, upd_s, upd_n, upd_upd, ne_eq, Nat.reduceEqDiff, c1_i, c1_r, c2_i, c2_r, ↓reduceIte, List.set_cons_zero, List.set_cons_succ, mm_cb, List.length_cons, List.length_nil, List.all_cons, List.all_nil, Nat.zero_add, Nat.reduceAdd, Nat.reduceLeDiff, Nat.zero_le, decide_true, Bool.and_self, Bool.and_true, true_and, and_true, forall_const, Bool.or_false, Bool.false_or, Bool.or_true, Bool.true_or, Bool.false_eq_true, Nat.reduceBEq, beq_self_eq_true, ha_11, ha_01, hb_10, hb_0x, imp_self, false_implies, not_true_eq_false, not_false_eq_true])
  refine ⟨fun o => ?_, fun e => ?_, fun e => ?_, fun e => ?_, fun e => ?_, fun e => ?_, fun e => ?_, fun e => ?_, fun e => ?_, fun e => ?_, fun e => ?_, fun e => ?_, fun e => ?_, fun e => ?_, fun e => ?_⟩
  · exact swO g1 o (by simp)
  · subst e; exact g1
  · subst e; exact g1
  · subst e
    have g1 : RI (su (μ 50) n) μ := g1
    have lp := up_ind (n := n) (P := fun i => mm_Rn hh_S 108 RI RV 84 [some (.ref 48), some (.int (Int32.ofNat 2)), some (.int (su (μ 50) i)), some (.int (nI i))] [] μ) (fun i hi ih => by
      (refine mm_run ok_108 (fun t => t == 84 || t == 111 || t == 134) 9 ?_; rw [lb_108_84, rb_108]; simp only [↓w_aload_0, ↓w_bipush, ↓w_fall, ↓w_getf, ↓w_goto, ↓w_iadd, ↓w_iald, ↓w_ic_ge, ↓w_iconst, ↓w_iinc, ↓w_iload_1, ↓w_iload_2, ↓w_iload_3, ↓w_imul, ↓w_iret, ↓w_istore_2, ↓w_istore_3, ↓w_table, ↓sw_n, ↓sw_c, ↓li_0, ↓li_s, ↓lr_0, ↓lr_s, ↓gf_48_0, ↓gf_48_1, ↓gf_48_10, ↓gf_48_12, ↓gf_48_17, ↓gf_48_18, ↓gf_48_25, ↓gf_48_26, ↓gf_48_3, ↓gf_48_34, ↓gf_48_7, ↓rc_48, ↓ar_50, ↓ar_56, ↓ar_68, ↓w_c83, ↓w_c88, ↓wl_108_0, ↓wl_108_72, ↓wl_108_77, ↓wl_108_82, ↓wl_108_84, ↓wl_108_107, ↓wl_108_109, ↓wl_108_111, ↓wl_108_130, ↓wl_108_132, ↓wl_108_134, ↓wl_108_160, ↓wl_108_162, ↓wl_108_167, ↓wl_108_172, ↓wl_108_177, ↓wl_108_182, ↓wl_108_187, ↓wl_108_192, ↓wl_108_197, ↓wl_108_204, ↓wl_108_211, hs_wr, hs_cp, hs_s, hs_n, hs_hs, upd_s, upd_n, upd_upd, ne_eq, Nat.reduceEqDiff, c1_i, c1_r, c2_i, c2_r, ↓reduceIte, List.set_cons_zero, List.set_cons_succ, mm_cb, List.length_cons, List.length_nil, List.all_cons, List.all_nil, Nat.zero_add, Nat.reduceAdd, Nat.reduceLeDiff, Nat.zero_le, decide_true, Bool.and_self, Bool.and_true, true_and, and_true, forall_const, Bool.or_false, Bool.false_or, Bool.or_true, Bool.true_or, Bool.false_eq_true, Nat.reduceBEq, beq_self_eq_true, ha_11, ha_01, hb_10, hb_0x, imp_self, false_implies, not_true_eq_false, not_false_eq_true])
      rw [hN, nI_cl (by omega), nI_1]
      refine ⟨fun c => ?_, fun c => ?_⟩
      · have := le_nI (by omega) (by omega) c
        rw [show i = n by omega]
        exact g1
      · have := nle_nI (by omega) (by omega) c
        exact ⟨in_nI (by omega) (by omega), ih (i + 1) (by omega) (by omega)⟩)
    exact lp 0 (Nat.zero_le _)
  · subst e
    have g1 : RI (su (fun c => if μ 58 c = -1 then 0 else su (fun l => μ 61 (c * 60 + l)) 60) 3) μ := g1
    have lp := up_ind (n := 3) (P := fun i => mm_Rn hh_S 108 RI RV 111 [some (.ref 48), some (.int (Int32.ofNat 3)), some (.int (su (fun c => if μ 58 c = -1 then 0 else su (fun l => μ 61 (c * 60 + l)) 60) i)), some (.int (nI i))] [] μ) (fun i hi ih => by
      (refine mm_run ok_108 (fun t => t == 84 || t == 111 || t == 134) 9 ?_; rw [lb_108_111, rb_108]; simp only [↓w_aload_0, ↓w_bipush, ↓w_fall, ↓w_getf, ↓w_goto, ↓w_iadd, ↓w_iald, ↓w_ic_ge, ↓w_iconst, ↓w_iinc, ↓w_iload_1, ↓w_iload_2, ↓w_iload_3, ↓w_imul, ↓w_iret, ↓w_istore_2, ↓w_istore_3, ↓w_table, ↓sw_n, ↓sw_c, ↓li_0, ↓li_s, ↓lr_0, ↓lr_s, ↓gf_48_0, ↓gf_48_1, ↓gf_48_10, ↓gf_48_12, ↓gf_48_17, ↓gf_48_18, ↓gf_48_25, ↓gf_48_26, ↓gf_48_3, ↓gf_48_34, ↓gf_48_7, ↓rc_48, ↓ar_50, ↓ar_56, ↓ar_68, ↓w_c83, ↓w_c88, ↓wl_108_0, ↓wl_108_72, ↓wl_108_77, ↓wl_108_82, ↓wl_108_84, ↓wl_108_107, ↓wl_108_109, ↓wl_108_111, ↓wl_108_130, ↓wl_108_132, ↓wl_108_134, ↓wl_108_160, ↓wl_108_162, ↓wl_108_167, ↓wl_108_172, ↓wl_108_177, ↓wl_108_182, ↓wl_108_187, ↓wl_108_192, ↓wl_108_197, ↓wl_108_204, ↓wl_108_211, hs_wr, hs_cp, hs_s, hs_n, hs_hs, upd_s, upd_n, upd_upd, ne_eq, Nat.reduceEqDiff, c1_i, c1_r, c2_i, c2_r, ↓reduceIte, List.set_cons_zero, List.set_cons_succ, mm_cb, List.length_cons, List.length_nil, List.all_cons, List.all_nil, Nat.zero_add, Nat.reduceAdd, Nat.reduceLeDiff, Nat.zero_le, decide_true, Bool.and_self, Bool.and_true, true_and, and_true, forall_const, Bool.or_false, Bool.false_or, Bool.or_true, Bool.true_or, Bool.false_eq_true, Nat.reduceBEq, beq_self_eq_true, ha_11, ha_01, hb_10, hb_0x, imp_self, false_implies, not_true_eq_false, not_false_eq_true])
      rw [nI_1, show (3 : Int32) = nI 3 from rfl]
      refine ⟨fun c => ?_, fun c => ?_⟩
      · have := le_nI (by omega) (by omega) c
        rw [show i = 3 by omega]
        exact g1
      · have := nle_nI (by omega) (by omega) c
        exact r_kgIn (by omega) (ih (i + 1) (by omega) (by omega)))
    exact lp 0 (Nat.zero_le _)
  · subst e
    have g1 : RI (su (μ 68) (nb * 60)) μ := g1
    have lp := up_ind (n := nb * 60) (P := fun i => mm_Rn hh_S 108 RI RV 134 [some (.ref 48), some (.int (Int32.ofNat 4)), some (.int (su (μ 68) i)), some (.int (nI i))] [] μ) (fun i hi ih => by
      (refine mm_run ok_108 (fun t => t == 84 || t == 111 || t == 134) 9 ?_; rw [lb_108_134, rb_108]; simp only [↓w_aload_0, ↓w_bipush, ↓w_fall, ↓w_getf, ↓w_goto, ↓w_iadd, ↓w_iald, ↓w_ic_ge, ↓w_iconst, ↓w_iinc, ↓w_iload_1, ↓w_iload_2, ↓w_iload_3, ↓w_imul, ↓w_iret, ↓w_istore_2, ↓w_istore_3, ↓w_table, ↓sw_n, ↓sw_c, ↓li_0, ↓li_s, ↓lr_0, ↓lr_s, ↓gf_48_0, ↓gf_48_1, ↓gf_48_10, ↓gf_48_12, ↓gf_48_17, ↓gf_48_18, ↓gf_48_25, ↓gf_48_26, ↓gf_48_3, ↓gf_48_34, ↓gf_48_7, ↓rc_48, ↓ar_50, ↓ar_56, ↓ar_68, ↓w_c83, ↓w_c88, ↓wl_108_0, ↓wl_108_72, ↓wl_108_77, ↓wl_108_82, ↓wl_108_84, ↓wl_108_107, ↓wl_108_109, ↓wl_108_111, ↓wl_108_130, ↓wl_108_132, ↓wl_108_134, ↓wl_108_160, ↓wl_108_162, ↓wl_108_167, ↓wl_108_172, ↓wl_108_177, ↓wl_108_182, ↓wl_108_187, ↓wl_108_192, ↓wl_108_197, ↓wl_108_204, ↓wl_108_211, hs_wr, hs_cp, hs_s, hs_n, hs_hs, upd_s, upd_n, upd_upd, ne_eq, Nat.reduceEqDiff, c1_i, c1_r, c2_i, c2_r, ↓reduceIte, List.set_cons_zero, List.set_cons_succ, mm_cb, List.length_cons, List.length_nil, List.all_cons, List.all_nil, Nat.zero_add, Nat.reduceAdd, Nat.reduceLeDiff, Nat.zero_le, decide_true, Bool.and_self, Bool.and_true, true_and, and_true, forall_const, Bool.or_false, Bool.false_or, Bool.or_true, Bool.true_or, Bool.false_eq_true, Nat.reduceBEq, beq_self_eq_true, ha_11, ha_01, hb_10, hb_0x, imp_self, false_implies, not_true_eq_false, not_false_eq_true])
      rw [hB, m60, nI_cl (by omega), nI_1]
      refine ⟨fun c => ?_, fun c => ?_⟩
      · have := le_nI (by omega) (by omega) c
        rw [show i = nb * 60 by omega]
        exact g1
      · have := nle_nI (by omega) (by omega) c
        exact ⟨in_nI (by omega) (by omega), ih (i + 1) (by omega) (by omega)⟩)
    exact lp 0 (Nat.zero_le _)
  · subst e; exact g1
  · subst e; exact g1
  · subst e; exact r_crewsThere g1
  · subst e; exact g1
  · subst e; exact g1
  · subst e; exact g1
  · subst e; exact g1
  · subst e; exact ⟨in_nI (i := 0) (by decide) (by decide), g1⟩
  · subst e; exact ⟨in_nI (i := 1) (by decide) (by decide), g1⟩
end M2
