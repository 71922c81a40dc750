/-! the cookers alone -/
def hh_C : List mm_C := [.inr (2, [some 1, some 2, some 3, some 4, some 5]), .inl (false, 3), .inl (false, 3), .inl (false, 3), .inl (false, 3), .inl (false, 180)]
theorem rC_0 {l : List Value} : mm_rc hh_C 2 (.ref 0 :: l) = True := eq_true rfl
theorem gC_0 {μ : mm_M} {F : Value → Prop} : mm_gf hh_C μ 0 2 0 F = F (.ref 1) := propext ⟨fun h => h.2, fun h => ⟨rfl, h⟩⟩
theorem aC_1 {i : Int32} {F : Prop} : mm_ar hh_C 1 false i F = (vp_in i 3 ∧ F) := propext ⟨fun h => h.2, fun h => ⟨rfl, h⟩⟩
theorem gC_1 {μ : mm_M} {F : Value → Prop} : mm_gf hh_C μ 0 2 1 F = F (.ref 2) := propext ⟨fun h => h.2, fun h => ⟨rfl, h⟩⟩
theorem aC_2 {i : Int32} {F : Prop} : mm_ar hh_C 2 false i F = (vp_in i 3 ∧ F) := propext ⟨fun h => h.2, fun h => ⟨rfl, h⟩⟩
theorem gC_2 {μ : mm_M} {F : Value → Prop} : mm_gf hh_C μ 0 2 2 F = F (.ref 3) := propext ⟨fun h => h.2, fun h => ⟨rfl, h⟩⟩
theorem aC_3 {i : Int32} {F : Prop} : mm_ar hh_C 3 false i F = (vp_in i 3 ∧ F) := propext ⟨fun h => h.2, fun h => ⟨rfl, h⟩⟩
theorem gC_3 {μ : mm_M} {F : Value → Prop} : mm_gf hh_C μ 0 2 3 F = F (.ref 4) := propext ⟨fun h => h.2, fun h => ⟨rfl, h⟩⟩
theorem aC_4 {i : Int32} {F : Prop} : mm_ar hh_C 4 false i F = (vp_in i 3 ∧ F) := propext ⟨fun h => h.2, fun h => ⟨rfl, h⟩⟩
theorem gC_4 {μ : mm_M} {F : Value → Prop} : mm_gf hh_C μ 0 2 4 F = F (.ref 5) := propext ⟨fun h => h.2, fun h => ⟨rfl, h⟩⟩
theorem aC_5 {i : Int32} {F : Prop} : mm_ar hh_C 5 false i F = (vp_in i 180 ∧ F) := propext ⟨fun h => h.2, fun h => ⟨rfl, h⟩⟩
section KC
variable {μ : mm_M} {RI : Int32 → mm_M → Prop} {RV : mm_M → Prop}
theorem k_fill {j : Nat} (hj : j < 3) {a b c d : Int32} (h : RV (hs (hs (hs (hs μ 1 (upd (μ 1) j a)) 2 (upd (μ 2) j b)) 4 (upd (μ 4) j c)) 3 (upd (μ 3) j d))) : mm_Cs hh_C 15 [.ref 0, .int (nI j), .int a, .int b, .int c, .int d] μ RI RV := by
  have hi := in_nI hj (by omega)
  refine mm_in rfl (Nat.le_of_ble_eq_true rfl) ?_
  show mm_Rn hh_C 15 RI RV 0 [some (.ref 0), some (.int (nI j)), some (.int a), some (.int b), some (.int c), some (.int d)] [] μ
  (refine mm_run ok_15 (fun t => false) 9 ?_; rw [lb_15_0, rb_15]; simp only [↓w_aload_0, ↓w_getf, ↓w_iast, ↓w_iload, ↓w_iload_1, ↓w_iload_2, ↓w_iload_3, ↓w_vret, ↓li_0, ↓li_s, ↓lr_0, ↓lr_s, ↓gC_0, ↓gC_1, ↓gC_2, ↓gC_3, ↓aC_1, ↓aC_2, ↓aC_3, ↓aC_4, ↓wl_15_0, hs_wr, hs_cp, hs_s, hs_n, hs_hs, upd_s, upd_n, upd_upd, ne_eq, Nat.reduceEqDiff, c1_i, c1_r, c2_i, c2_r, ↓reduceIte, List.set_cons_zero, List.set_cons_succ, mm_cb, List.length_cons, List.length_nil, List.all_cons, List.all_nil, Nat.zero_add, Nat.reduceAdd, Nat.reduceLeDiff, Nat.zero_le, decide_true, Bool.and_self, Bool.and_true, true_and, and_true, forall_const, Bool.or_false, Bool.false_or, Bool.or_true, Bool.true_or, Bool.false_eq_true, Nat.reduceBEq, beq_self_eq_true, ha_11, ha_01, hb_10, hb_0x, imp_self, false_implies, not_true_eq_false, not_false_eq_true])
  rw [nI_cl (by omega)]
  exact ⟨hi, hi, hi, hi, h⟩
theorem k_empty {j : Nat} (hj : j < 3) (h : RV (hs (hs (hs (hs (hs μ 1 (upd (μ 1) j (-1))) 2 (upd (μ 2) j 0)) 4 (upd (μ 4) j 0)) 3 (upd (μ 3) j (-1))) 5 (rw0 (μ 5) j 60))) : mm_Cs hh_C 16 [.ref 0, .int (nI j)] μ RI RV := by
  refine mm_in rfl (Nat.le_of_ble_eq_true rfl) ?_
  show mm_Rn hh_C 16 RI RV 0 [some (.ref 0), some (.int (nI j)), none] [] μ
  (refine mm_run ok_16 (fun t => t == 11) 9 ?_; rw [lb_16_0, rb_16]; simp only [↓w_aload_0, ↓w_bipush, ↓w_fall, ↓w_getf, ↓w_goto, ↓w_iadd, ↓w_iast, ↓w_ic_ge, ↓w_iconst, ↓w_iinc, ↓w_iload_1, ↓w_iload_2, ↓w_imul, ↓w_istore_2, ↓w_vret, ↓li_0, ↓li_s, ↓lr_0, ↓lr_s, ↓gC_4, ↓rC_0, ↓aC_5, ↓w_c15, ↓wl_16_0, ↓wl_16_11, ↓wl_16_35, hs_wr, hs_cp, hs_s, hs_n, hs_hs, upd_s, upd_n, upd_upd, ne_eq, Nat.reduceEqDiff, c1_i, c1_r, c2_i, c2_r, ↓reduceIte, List.set_cons_zero, List.set_cons_succ, mm_cb, List.length_cons, List.length_nil, List.all_cons, List.all_nil, Nat.zero_add, Nat.reduceAdd, Nat.reduceLeDiff, Nat.zero_le, decide_true, Bool.and_self, Bool.and_true, true_and, and_true, forall_const, Bool.or_false, Bool.false_or, Bool.or_true, Bool.true_or, Bool.false_eq_true, Nat.reduceBEq, beq_self_eq_true, ha_11, ha_01, hb_10, hb_0x, imp_self, false_implies, not_true_eq_false, not_false_eq_true])
  refine k_fill hj ?_
  have hf : μ 5 = (hs (hs (hs (hs μ 1 (upd (μ 1) j (-1))) 2 (upd (μ 2) j 0)) 4 (upd (μ 4) j 0)) 3 (upd (μ 3) j (-1))) 5 := by
    simp only [hs_n, ne_eq, Nat.reduceEqDiff, not_false_eq_true]
  rw [hf] at h
  generalize (hs (hs (hs (hs μ 1 (upd (μ 1) j (-1))) 2 (upd (μ 2) j 0)) 4 (upd (μ 4) j 0)) 3 (upd (μ 3) j (-1))) = ν at h ⊢
  have lp := up_ind (n := 60) (P := fun i => mm_Rn hh_C 16 RI RV 11 [some (.ref 0), some (.int (nI j)), some (.int (nI i))] [] (hs ν 5 (rw0 (ν 5) j i))) (fun i hi ih => by
    (refine mm_run ok_16 (fun t => t == 11) 9 ?_; rw [lb_16_11, rb_16]; simp only [↓w_aload_0, ↓w_bipush, ↓w_fall, ↓w_getf, ↓w_goto, ↓w_iadd, ↓w_iast, ↓w_ic_ge, ↓w_iconst, ↓w_iinc, ↓w_iload_1, ↓w_iload_2, ↓w_imul, ↓w_istore_2, ↓w_vret, ↓li_0, ↓li_s, ↓lr_0, ↓lr_s, ↓gC_4, ↓rC_0, ↓aC_5, ↓w_c15, ↓wl_16_0, ↓wl_16_11, ↓wl_16_35, hs_wr, hs_cp, hs_s, hs_n, hs_hs, upd_s, upd_n, upd_upd, ne_eq, Nat.reduceEqDiff, c1_i, c1_r, c2_i, c2_r, ↓reduceIte, List.set_cons_zero, List.set_cons_succ, mm_cb, List.length_cons, List.length_nil, List.all_cons, List.all_nil, Nat.zero_add, Nat.reduceAdd, Nat.reduceLeDiff, Nat.zero_le, decide_true, Bool.and_self, Bool.and_true, true_and, and_true, forall_const, Bool.or_false, Bool.false_or, Bool.or_true, Bool.true_or, Bool.false_eq_true, Nat.reduceBEq, beq_self_eq_true, ha_11, ha_01, hb_10, hb_0x, imp_self, false_implies, not_true_eq_false, not_false_eq_true])
    rw [ixm, nI_cl (by omega), nI_1, rw0_s, show (60 : Int32) = nI 60 from rfl]
    refine ⟨fun c => ?_, fun c => ?_⟩
    · have := le_nI (by omega) (by omega) c
      rw [show i = 60 by omega]
      exact h
    · have := nle_nI (by omega) (by omega) c
      exact ⟨in_nI (by omega) (by omega), ih (i + 1) (by omega) (by omega)⟩)
  have := lp 0 (Nat.zero_le _)
  rw [rw0_0, hs_id] at this
  exact this
end KC
