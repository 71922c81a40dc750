/-! orders, contracts, the taking of fish -/
abbrev tkT : Type := Int32 × (Nat → Int32) × (Nat → Int32)
def tkS (od re sz : Nat → Int32) (t : Int32) (f0 : Nat) (i : Nat) (s : tkT) : tkT :=
  if s.1 ≤ 0 then s else if usB re sz t (od i).toNatClampNeg = true then
    (s.1 - (if s.1 < s.2.1 (od i).toNatClampNeg then s.1 else s.2.1 (od i).toNatClampNeg), upd s.2.1 (od i).toNatClampNeg (s.2.1 (od i).toNatClampNeg - (if s.1 < s.2.1 (od i).toNatClampNeg then s.1 else s.2.1 (od i).toNatClampNeg)), upd s.2.2 (f0 + (od i).toNatClampNeg) (if s.1 < s.2.1 (od i).toNatClampNeg then s.1 else s.2.1 (od i).toNatClampNeg))
  else s
section C4
variable {μ : mm_M} {RI : Int32 → mm_M → Prop} {RV : mm_M → Prop}
theorem q_putL {n : Nat} (hn : n < 60) (ho : ∀ i, i < n → ∃ j, j < 60 ∧ μ 14 i = nI j) (h : RV (hs μ 14 (pin (μ 11) (nI n) n (μ 14)))) : mm_Cs hh_S 67 [.ref 14, .ref 11, .int (nI n)] μ RI RV := by
  have lp : ∀ a, a ≤ n → ∀ o : Nat → Int32, (∀ i, i < a → ∃ j, j < 60 ∧ o i = nI j) → RV (hs μ 14 (pin (μ 11) (nI n) a o)) → mm_Rn hh_S 67 RI RV 2 [some (.ref 14), some (.ref 11), some (.int (nI n)), some (.int (nI a))] [] (hs μ 14 o) := by
    intro a
    induction a with
    | zero =>
      intro ha o ho h
      (refine mm_run ok_67 (fun t => t == 2) 9 ?_; rw [lb_67_2, rb_67]; simp only [↓w_aload_0, ↓w_aload_1, ↓w_fall, ↓w_goto, ↓w_iald, ↓w_iast, ↓w_ic_le, ↓w_iconst, ↓w_if_le, ↓w_iinc, ↓w_iload_2, ↓w_iload_3, ↓w_istore_3, ↓w_isub, ↓w_vret, ↓li_0, ↓li_s, ↓lr_0, ↓lr_s, ↓ar_11, ↓ar_14, ↓ar_38, ↓ar_41, ↓wl_67_0, ↓wl_67_2, ↓wl_67_33, hs_wr, hs_cp, hs_s, hs_n, hs_hs, upd_s, upd_n, upd_upd, ne_eq, Nat.reduceEqDiff, c1_i, c1_r, c2_i, c2_r, ↓reduceIte, List.set_cons_zero, List.set_cons_succ, mm_cb, List.length_cons, List.length_nil, List.all_cons, List.all_nil, Nat.zero_add, Nat.reduceAdd, Nat.reduceLeDiff, Nat.zero_le, decide_true, Bool.and_self, Bool.and_true, true_and, and_true, forall_const, Bool.or_false, Bool.false_or, Bool.or_true, Bool.true_or, Bool.false_eq_true, Nat.reduceBEq, beq_self_eq_true, ha_11, ha_01, hb_10, hb_0x, imp_self, false_implies, not_true_eq_false, not_false_eq_true])
      rw [show (nI 0).toNatClampNeg = 0 by decide]
      exact ⟨fun _ => ⟨in_nI (by omega) (by omega), h⟩, fun c => absurd (by decide) c⟩
    | succ a ih =>
      intro ha o ho h
      (refine mm_run ok_67 (fun t => t == 2) 9 ?_; rw [lb_67_2, rb_67]; simp only [↓w_aload_0, ↓w_aload_1, ↓w_fall, ↓w_goto, ↓w_iald, ↓w_iast, ↓w_ic_le, ↓w_iconst, ↓w_if_le, ↓w_iinc, ↓w_iload_2, ↓w_iload_3, ↓w_istore_3, ↓w_isub, ↓w_vret, ↓li_0, ↓li_s, ↓lr_0, ↓lr_s, ↓ar_11, ↓ar_14, ↓ar_38, ↓ar_41, ↓wl_67_0, ↓wl_67_2, ↓wl_67_33, hs_wr, hs_cp, hs_s, hs_n, hs_hs, upd_s, upd_n, upd_upd, ne_eq, Nat.reduceEqDiff, c1_i, c1_r, c2_i, c2_r, ↓reduceIte, List.set_cons_zero, List.set_cons_succ, mm_cb, List.length_cons, List.length_nil, List.all_cons, List.all_nil, Nat.zero_add, Nat.reduceAdd, Nat.reduceLeDiff, Nat.zero_le, decide_true, Bool.and_self, Bool.and_true, true_and, and_true, forall_const, Bool.or_false, Bool.false_or, Bool.or_true, Bool.true_or, Bool.false_eq_true, Nat.reduceBEq, beq_self_eq_true, ha_11, ha_01, hb_10, hb_0x, imp_self, false_implies, not_true_eq_false, not_false_eq_true])
      obtain ⟨j, hj, ej⟩ := ho a (by omega)
      rw [nI_pred, pk_m1, nI_cl (show a + 1 < 2147483648 by omega), nI_cl (show a < 2147483648 by omega), nI_cl (show n < 2147483648 by omega), ej, nI_cl (show j < 2147483648 by omega)]
      unfold pin at h
      rw [ej, nI_cl (show j < 2147483648 by omega), nI_cl (show n < 2147483648 by omega)] at h
      refine ⟨fun c => absurd c (nI_nle (by omega) (by omega)), fun c => ?_⟩
      refine ⟨in_nI (by omega) (by omega), in_nI hj (by omega), in_nI (by omega) (by omega), fun q => ⟨in_nI (by omega) (by omega), ?_⟩, fun q => ⟨in_nI (by omega) (by omega), in_nI (by omega) (by omega), ?_⟩⟩
      · rw [if_neg (by simp only [i_le, i_lt] at *; omega)] at h
        exact h
      · rw [if_pos (by simp only [i_le, i_lt] at *; omega)] at h
        exact ih (by omega) _ (fun i hi => by rw [upd_n (by omega)]; exact ho i (by omega)) h
  refine mm_in rfl (Nat.le_of_ble_eq_true rfl) ?_
  show mm_Rn hh_S 67 RI RV 0 [some (.ref 14), some (.ref 11), some (.int (nI n)), none] [] μ
  (refine mm_run ok_67 (fun t => t == 2) 9 ?_; rw [lb_67_0, rb_67]; simp only [↓w_aload_0, ↓w_aload_1, ↓w_fall, ↓w_goto, ↓w_iald, ↓w_iast, ↓w_ic_le, ↓w_iconst, ↓w_if_le, ↓w_iinc, ↓w_iload_2, ↓w_iload_3, ↓w_istore_3, ↓w_isub, ↓w_vret, ↓li_0, ↓li_s, ↓lr_0, ↓lr_s, ↓ar_11, ↓ar_14, ↓ar_38, ↓ar_41, ↓wl_67_0, ↓wl_67_2, ↓wl_67_33, hs_wr, hs_cp, hs_s, hs_n, hs_hs, upd_s, upd_n, upd_upd, ne_eq, Nat.reduceEqDiff, c1_i, c1_r, c2_i, c2_r, ↓reduceIte, List.set_cons_zero, List.set_cons_succ, mm_cb, List.length_cons, List.length_nil, List.all_cons, List.all_nil, Nat.zero_add, Nat.reduceAdd, Nat.reduceLeDiff, Nat.zero_le, decide_true, Bool.and_self, Bool.and_true, true_and, and_true, forall_const, Bool.or_false, Bool.false_or, Bool.or_true, Bool.true_or, Bool.false_eq_true, Nat.reduceBEq, beq_self_eq_true, ha_11, ha_01, hb_10, hb_0x, imp_self, false_implies, not_true_eq_false, not_false_eq_true])
  have := lp n (Nat.le_refl n) (μ 14) ho h
  rw [hs_id] at this
  exact this
theorem q_putC {n : Nat} (hn : n < 20) (ho : ∀ i, i < n → ∃ j, j < 20 ∧ μ 41 i = nI j) (h : RV (hs μ 41 (pin (μ 38) (nI n) n (μ 41)))) : mm_Cs hh_S 67 [.ref 41, .ref 38, .int (nI n)] μ RI RV := by
  have lp : ∀ a, a ≤ n → ∀ o : Nat → Int32, (∀ i, i < a → ∃ j, j < 20 ∧ o i = nI j) → RV (hs μ 41 (pin (μ 38) (nI n) a o)) → mm_Rn hh_S 67 RI RV 2 [some (.ref 41), some (.ref 38), some (.int (nI n)), some (.int (nI a))] [] (hs μ 41 o) := by
    intro a
    induction a with
    | zero =>
      intro ha o ho h
      (refine mm_run ok_67 (fun t => t == 2) 9 ?_; rw [lb_67_2, rb_67]; simp only [↓w_aload_0, ↓w_aload_1, ↓w_fall, ↓w_goto, ↓w_iald, ↓w_iast, ↓w_ic_le, ↓w_iconst, ↓w_if_le, ↓w_iinc, ↓w_iload_2, ↓w_iload_3, ↓w_istore_3, ↓w_isub, ↓w_vret, ↓li_0, ↓li_s, ↓lr_0, ↓lr_s, ↓ar_11, ↓ar_14, ↓ar_38, ↓ar_41, ↓wl_67_0, ↓wl_67_2, ↓wl_67_33, hs_wr, hs_cp, hs_s, hs_n, hs_hs, upd_s, upd_n, upd_upd, ne_eq, Nat.reduceEqDiff, c1_i, c1_r, c2_i, c2_r, ↓reduceIte, List.set_cons_zero, List.set_cons_succ, mm_cb, List.length_cons, List.length_nil, List.all_cons, List.all_nil, Nat.zero_add, Nat.reduceAdd, Nat.reduceLeDiff, Nat.zero_le, decide_true, Bool.and_self, Bool.and_true, true_and, and_true, forall_const, Bool.or_false, Bool.false_or, Bool.or_true, Bool.true_or, Bool.false_eq_true, Nat.reduceBEq, beq_self_eq_true, ha_11, ha_01, hb_10, hb_0x, imp_self, false_implies, not_true_eq_false, not_false_eq_true])
      rw [show (nI 0).toNatClampNeg = 0 by decide]
      exact ⟨fun _ => ⟨in_nI (by omega) (by omega), h⟩, fun c => absurd (by decide) c⟩
    | succ a ih =>
      intro ha o ho h
      (refine mm_run ok_67 (fun t => t == 2) 9 ?_; rw [lb_67_2, rb_67]; simp only [↓w_aload_0, ↓w_aload_1, ↓w_fall, ↓w_goto, ↓w_iald, ↓w_iast, ↓w_ic_le, ↓w_iconst, ↓w_if_le, ↓w_iinc, ↓w_iload_2, ↓w_iload_3, ↓w_istore_3, ↓w_isub, ↓w_vret, ↓li_0, ↓li_s, ↓lr_0, ↓lr_s, ↓ar_11, ↓ar_14, ↓ar_38, ↓ar_41, ↓wl_67_0, ↓wl_67_2, ↓wl_67_33, hs_wr, hs_cp, hs_s, hs_n, hs_hs, upd_s, upd_n, upd_upd, ne_eq, Nat.reduceEqDiff, c1_i, c1_r, c2_i, c2_r, ↓reduceIte, List.set_cons_zero, List.set_cons_succ, mm_cb, List.length_cons, List.length_nil, List.all_cons, List.all_nil, Nat.zero_add, Nat.reduceAdd, Nat.reduceLeDiff, Nat.zero_le, decide_true, Bool.and_self, Bool.and_true, true_and, and_true, forall_const, Bool.or_false, Bool.false_or, Bool.or_true, Bool.true_or, Bool.false_eq_true, Nat.reduceBEq, beq_self_eq_true, ha_11, ha_01, hb_10, hb_0x, imp_self, false_implies, not_true_eq_false, not_false_eq_true])
      obtain ⟨j, hj, ej⟩ := ho a (by omega)
      rw [nI_pred, pk_m1, nI_cl (show a + 1 < 2147483648 by omega), nI_cl (show a < 2147483648 by omega), nI_cl (show n < 2147483648 by omega), ej, nI_cl (show j < 2147483648 by omega)]
      unfold pin at h
      rw [ej, nI_cl (show j < 2147483648 by omega), nI_cl (show n < 2147483648 by omega)] at h
      refine ⟨fun c => absurd c (nI_nle (by omega) (by omega)), fun c => ?_⟩
      refine ⟨in_nI (by omega) (by omega), in_nI hj (by omega), in_nI (by omega) (by omega), fun q => ⟨in_nI (by omega) (by omega), ?_⟩, fun q => ⟨in_nI (by omega) (by omega), in_nI (by omega) (by omega), ?_⟩⟩
      · rw [if_neg (by simp only [i_le, i_lt] at *; omega)] at h
        exact h
      · rw [if_pos (by simp only [i_le, i_lt] at *; omega)] at h
        exact ih (by omega) _ (fun i hi => by rw [upd_n (by omega)]; exact ho i (by omega)) h
  refine mm_in rfl (Nat.le_of_ble_eq_true rfl) ?_
  show mm_Rn hh_S 67 RI RV 0 [some (.ref 41), some (.ref 38), some (.int (nI n)), none] [] μ
  (refine mm_run ok_67 (fun t => t == 2) 9 ?_; rw [lb_67_0, rb_67]; simp only [↓w_aload_0, ↓w_aload_1, ↓w_fall, ↓w_goto, ↓w_iald, ↓w_iast, ↓w_ic_le, ↓w_iconst, ↓w_if_le, ↓w_iinc, ↓w_iload_2, ↓w_iload_3, ↓w_istore_3, ↓w_isub, ↓w_vret, ↓li_0, ↓li_s, ↓lr_0, ↓lr_s, ↓ar_11, ↓ar_14, ↓ar_38, ↓ar_41, ↓wl_67_0, ↓wl_67_2, ↓wl_67_33, hs_wr, hs_cp, hs_s, hs_n, hs_hs, upd_s, upd_n, upd_upd, ne_eq, Nat.reduceEqDiff, c1_i, c1_r, c2_i, c2_r, ↓reduceIte, List.set_cons_zero, List.set_cons_succ, mm_cb, List.length_cons, List.length_nil, List.all_cons, List.all_nil, Nat.zero_add, Nat.reduceAdd, Nat.reduceLeDiff, Nat.zero_le, decide_true, Bool.and_self, Bool.and_true, true_and, and_true, forall_const, Bool.or_false, Bool.false_or, Bool.or_true, Bool.true_or, Bool.false_eq_true, Nat.reduceBEq, beq_self_eq_true, ha_11, ha_01, hb_10, hb_0x, imp_self, false_implies, not_true_eq_false, not_false_eq_true])
  have := lp n (Nat.le_refl n) (μ 41) ho h
  rw [hs_id] at this
  exact this
theorem lt_lit {n m : Nat} {x : Int32} (hx : x.toInt = m) (hn : n < 2147483648) : nI n < x ↔ n < m := by
  rw [i_lt, i_nI hn, hx]
  omega
theorem q_addL {n : Nat} (hN : μ 1 6 = nI n) (hn : n ≤ 60) (ho : ∀ i, i < n → ∃ j, j < 60 ∧ μ 14 i = nI j) {a b c : Int32} (h0 : n = 60 → RI (-1) μ) (h1 : n < 60 → RI (nI n) (hs (hs (hs (hs (hs μ 9 (upd (μ 9) n a)) 10 (upd (μ 10) n b)) 11 (upd (μ 11) n c)) 14 (pin (upd (μ 11) n c) (nI n) n (μ 14))) 1 (upd (μ 1) 6 (nI (n + 1))))) : mm_Cs hh_S 27 [.ref 1, .int a, .int b, .int c] μ RI RV := by
  refine mm_in rfl (Nat.le_of_ble_eq_true rfl) ?_
  show mm_Rn hh_S 27 RI RV 0 [some (.ref 1), some (.int a), some (.int b), some (.int c), none] [] μ
  (refine mm_run ok_27 (fun t => false) 9 ?_; rw [lb_27_0, rb_27]; simp only [↓w_aload_0, ↓w_bipush, ↓w_dup, ↓w_getf, ↓w_iadd, ↓w_iast, ↓w_ic_lt, ↓w_iconst, ↓w_iload, ↓w_iload_1, ↓w_iload_2, ↓w_iload_3, ↓w_iret, ↓w_istore, ↓w_putf, ↓li_0, ↓li_s, ↓lr_0, ↓lr_s, ↓gf_1_0, ↓gf_1_1, ↓gf_1_2, ↓gf_1_5, ↓gf_1_6, ↓pf_1_6, ↓ar_9, ↓ar_10, ↓ar_11, ↓ar_14, ↓w_c67, ↓wl_27_0, ↓wl_27_11, hs_wr, hs_cp, hs_s, hs_n, hs_hs, upd_s, upd_n, upd_upd, ne_eq, Nat.reduceEqDiff, c1_i, c1_r, c2_i, c2_r, ↓reduceIte, List.set_cons_zero, List.set_cons_succ, mm_cb, List.length_cons, List.length_nil, List.all_cons, List.all_nil, Nat.zero_add, Nat.reduceAdd, Nat.reduceLeDiff, Nat.zero_le, decide_true, Bool.and_self, Bool.and_true, true_and, and_true, forall_const, Bool.or_false, Bool.false_or, Bool.or_true, Bool.true_or, Bool.false_eq_true, Nat.reduceBEq, beq_self_eq_true, ha_11, ha_01, hb_10, hb_0x, imp_self, false_implies, not_true_eq_false, not_false_eq_true])
  rw [hN, nI_cl (by omega), lt_lit (m := 60) (by decide) (by omega)]
  refine ⟨fun c => ⟨in_nI c (by omega), in_nI c (by omega), in_nI c (by omega), ?_⟩, fun c => h0 (by omega)⟩
  refine q_putL c (fun i hi => ?_) ?_
  · simp only [hs_n, ne_eq, Nat.reduceEqDiff, not_false_eq_true]
    exact ho i hi
  · simp only [hs_s, hs_n, ne_eq, Nat.reduceEqDiff, not_false_eq_true, hN, nI_1]
    exact h1 c
theorem q_addC {n : Nat} (hN : μ 6 7 = nI n) (hn : n ≤ 20) (ho : ∀ i, i < n → ∃ j, j < 20 ∧ μ 41 i = nI j) {a b c d : Int32} (h0 : n = 20 → RI (-1) μ) (h1 : n < 20 → RI (nI n) (hs (hs (hs (hs (hs (hs μ 35 (upd (μ 35) n a)) 36 (upd (μ 36) n b)) 37 (upd (μ 37) n c)) 38 (upd (μ 38) n d)) 41 (pin (upd (μ 38) n d) (nI n) n (μ 41))) 6 (upd (μ 6) 7 (nI (n + 1))))) : mm_Cs hh_S 8 [.ref 6, .int a, .int b, .int c, .int d] μ RI RV := by
  refine mm_in rfl (Nat.le_of_ble_eq_true rfl) ?_
  show mm_Rn hh_S 8 RI RV 0 [some (.ref 6), some (.int a), some (.int b), some (.int c), some (.int d), none] [] μ
  (refine mm_run ok_8 (fun t => false) 9 ?_; rw [lb_8_0, rb_8]; simp only [↓w_aload_0, ↓w_bipush, ↓w_dup, ↓w_getf, ↓w_iadd, ↓w_iast, ↓w_ic_lt, ↓w_iconst, ↓w_iload, ↓w_iload_1, ↓w_iload_2, ↓w_iload_3, ↓w_iret, ↓w_istore, ↓w_putf, ↓li_0, ↓li_s, ↓lr_0, ↓lr_s, ↓gf_6_0, ↓gf_6_1, ↓gf_6_2, ↓gf_6_3, ↓gf_6_6, ↓gf_6_7, ↓pf_6_7, ↓ar_35, ↓ar_36, ↓ar_37, ↓ar_38, ↓ar_41, ↓w_c67, ↓wl_8_0, ↓wl_8_11, hs_wr, hs_cp, hs_s, hs_n, hs_hs, upd_s, upd_n, upd_upd, ne_eq, Nat.reduceEqDiff, c1_i, c1_r, c2_i, c2_r, ↓reduceIte, List.set_cons_zero, List.set_cons_succ, mm_cb, List.length_cons, List.length_nil, List.all_cons, List.all_nil, Nat.zero_add, Nat.reduceAdd, Nat.reduceLeDiff, Nat.zero_le, decide_true, Bool.and_self, Bool.and_true, true_and, and_true, forall_const, Bool.or_false, Bool.false_or, Bool.or_true, Bool.true_or, Bool.false_eq_true, Nat.reduceBEq, beq_self_eq_true, ha_11, ha_01, hb_10, hb_0x, imp_self, false_implies, not_true_eq_false, not_false_eq_true])
  rw [hN, nI_cl (by omega), lt_lit (m := 20) (by decide) (by omega)]
  refine ⟨fun c => ⟨in_nI c (by omega), in_nI c (by omega), in_nI c (by omega), in_nI c (by omega), ?_⟩, fun c => h0 (by omega)⟩
  refine q_putC c (fun i hi => ?_) ?_
  · simp only [hs_n, ne_eq, Nat.reduceEqDiff, not_false_eq_true]
    exact ho i hi
  · simp only [hs_s, hs_n, ne_eq, Nat.reduceEqDiff, not_false_eq_true, hN, nI_1]
    exact h1 c
theorem q_serve {n : Nat} (hN : μ 6 7 = nI n) (hn : n ≤ 20) (ho : ∀ i, i < n → ∃ j, j < 20 ∧ μ 41 i = nI j) {c k m : Int32} (h : RV (hs μ 39 (fo (svS (μ 41) (μ 40) (μ 35) (μ 36) (μ 37) c k) n (m, μ 39)).2)) : mm_Cs hh_S 9 [.ref 6, .int c, .int k, .int m] μ RI RV := by
  generalize hF : svS (μ 41) (μ 40) (μ 35) (μ 36) (μ 37) c k = F at h
  generalize hs0 : (m, μ 39) = s0 at h
  have hstop : ∀ j s, s.1 ≤ 0 → F j s = s := by
    intro j s hs
    rw [← hF]
    unfold svS
    rw [if_pos hs]
  have lp := up_ind (n := n) (P := fun i => ∀ o6 o7, mm_Rn hh_S 9 RI RV 6 [some (.ref 6), some (.int c), some (.int k), some (.int m), some (.int (fo F i s0).1), some (.int (nI i)), o6, o7] [] (hs μ 39 (fo F i s0).2)) (fun i hi ih => by
    intro o6 o7
    have ih := ih (i + 1) (by omega)
    have e1 : fo F (i + 1) s0 = F i (fo F i s0) := rfl
    have est := fo_stop (stop := fun s => s.1 ≤ 0) hstop (i := i) (s := s0)
    rw [e1] at ih
    generalize hS : fo F i s0 = s at ih est ⊢
    obtain ⟨r, hd⟩ := s
    rw [← hF] at ih
    unfold svS at ih
    dsimp only at ih est ⊢
    (refine mm_run ok_9 (fun t => t == 6) 9 ?_; rw [lb_9_6, rb_9]; simp only [↓w_aload_0, ↓w_bald, ↓w_dup2, ↓w_fall, ↓w_getf, ↓w_goto, ↓w_iadd, ↓w_iald, ↓w_iast, ↓w_ic_ge, ↓w_ic_ne, ↓w_iconst, ↓w_if_le, ↓w_if_ne, ↓w_iinc, ↓w_iload, ↓w_iload_1, ↓w_iload_2, ↓w_iload_3, ↓w_istore, ↓w_isub, ↓w_min, ↓w_vret, ↓li_0, ↓li_s, ↓lr_0, ↓lr_s, ↓gf_6_0, ↓gf_6_1, ↓gf_6_2, ↓gf_6_4, ↓gf_6_5, ↓gf_6_6, ↓gf_6_7, ↓ar_35, ↓ar_36, ↓ar_37, ↓ar_39, ↓ar_40, ↓ar_41, ↓wl_9_0, ↓wl_9_6, ↓wl_9_102, ↓wl_9_108, hs_wr, hs_cp, hs_s, hs_n, hs_hs, upd_s, upd_n, upd_upd, ne_eq, Nat.reduceEqDiff, c1_i, c1_r, c2_i, c2_r, ↓reduceIte, List.set_cons_zero, List.set_cons_succ, mm_cb, List.length_cons, List.length_nil, List.all_cons, List.all_nil, Nat.zero_add, Nat.reduceAdd, Nat.reduceLeDiff, Nat.zero_le, decide_true, Bool.and_self, Bool.and_true, true_and, and_true, forall_const, Bool.or_false, Bool.false_or, Bool.or_true, Bool.true_or, Bool.false_eq_true, Nat.reduceBEq, beq_self_eq_true, ha_11, ha_01, hb_10, hb_0x, imp_self, false_implies, not_true_eq_false, not_false_eq_true])
    rw [hN, nI_cl (by omega), nI_1]
    refine ⟨fun c => ?_, fun c => ?_⟩
    · have := le_nI (by omega) (by omega) c
      have e : i = n := by omega
      rw [e] at hS
      rw [hS] at h
      exact h
    · have := nle_nI (by omega) (by omega) c
      have ih := ih (by omega)
      obtain ⟨j, hj, ej⟩ := ho i (by omega)
      rw [ej, nI_cl (show j < 2147483648 by omega)] at ih ⊢
      refine ⟨fun q => ?_, fun q => ⟨in_nI (by omega) (by omega), in_nI hj (by omega), ?_⟩⟩
      · rw [est q n (by omega)] at h
        exact h
      · rw [if_neg q] at ih
        unfold svC at ih
        simp only [Bool.and_eq_true, decide_eq_true_eq] at ih
        refine ⟨fun u => ?_, fun u => ⟨in_nI hj (by omega), fun v => ?_, fun v => ⟨in_nI hj (by omega), fun w => ?_, fun w => ⟨in_nI hj (by omega), in_nI hj (by omega), in_nI hj (by omega), in_nI hj (by omega), ?_⟩⟩⟩⟩
        · rw [if_neg (fun z => u z.1.1)] at ih
          exact ih _ _
        · rw [if_neg (fun z => v z.1.2)] at ih
          exact ih _ _
        · rw [if_neg (fun z => w z.2)] at ih
          exact ih _ _
        · rw [if_pos ⟨⟨u, v⟩, w⟩] at ih
          exact ih _ _)
  refine mm_in rfl (Nat.le_of_ble_eq_true rfl) ?_
  show mm_Rn hh_S 9 RI RV 0 [some (.ref 6), some (.int c), some (.int k), some (.int m), none, none, none, none] [] μ
  (refine mm_run ok_9 (fun t => t == 6) 9 ?_; rw [lb_9_0, rb_9]; simp only [↓w_aload_0, ↓w_bald, ↓w_dup2, ↓w_fall, ↓w_getf, ↓w_goto, ↓w_iadd, ↓w_iald, ↓w_iast, ↓w_ic_ge, ↓w_ic_ne, ↓w_iconst, ↓w_if_le, ↓w_if_ne, ↓w_iinc, ↓w_iload, ↓w_iload_1, ↓w_iload_2, ↓w_iload_3, ↓w_istore, ↓w_isub, ↓w_min, ↓w_vret, ↓li_0, ↓li_s, ↓lr_0, ↓lr_s, ↓gf_6_0, ↓gf_6_1, ↓gf_6_2, ↓gf_6_4, ↓gf_6_5, ↓gf_6_6, ↓gf_6_7, ↓ar_35, ↓ar_36, ↓ar_37, ↓ar_39, ↓ar_40, ↓ar_41, ↓wl_9_0, ↓wl_9_6, ↓wl_9_102, ↓wl_9_108, hs_wr, hs_cp, hs_s, hs_n, hs_hs, upd_s, upd_n, upd_upd, ne_eq, Nat.reduceEqDiff, c1_i, c1_r, c2_i, c2_r, ↓reduceIte, List.set_cons_zero, List.set_cons_succ, mm_cb, List.length_cons, List.length_nil, List.all_cons, List.all_nil, Nat.zero_add, Nat.reduceAdd, Nat.reduceLeDiff, Nat.zero_le, decide_true, Bool.and_self, Bool.and_true, true_and, and_true, forall_const, Bool.or_false, Bool.false_or, Bool.or_true, Bool.true_or, Bool.false_eq_true, Nat.reduceBEq, beq_self_eq_true, ha_11, ha_01, hb_10, hb_0x, imp_self, false_implies, not_true_eq_false, not_false_eq_true])
  have := lp 0 (Nat.zero_le _) none none
  rw [← hs0] at this
  simp only [fo, hs_id] at this
  exact this
theorem q_shortOf {n x q : Nat} (hN : μ 6 7 = nI n) (hn : n ≤ 20) (ho : ∀ i, i < n → ∃ j, j < 20 ∧ μ 41 i = nI j) (hq : q < n) (hx : x < 20) (hqx : μ 41 q = nI x) (hb : ∀ i, i < q → ¬ μ 41 i = nI x) {st : Int32} (h : RI (if 0 < μ 37 x - μ 39 x - fo (shS (μ 41) (μ 40) (μ 36) (μ 37) (μ 39) (μ 36 x)) q st then μ 37 x - μ 39 x - fo (shS (μ 41) (μ 40) (μ 36) (μ 37) (μ 39) (μ 36 x)) q st else 0) μ) : mm_Cs hh_S 10 [.ref 6, .int (nI x), .int st] μ RI RV := by
  generalize hF : shS (μ 41) (μ 40) (μ 36) (μ 37) (μ 39) (μ 36 x) = F at h
  have lp := up_ind (n := q) (P := fun i => ∀ o5, mm_Rn hh_S 10 RI RV 5 [some (.ref 6), some (.int (nI x)), some (.int st), some (.int (fo F i st)), some (.int (nI i)), o5] [] μ) (fun i hi ih => by
    intro o5
    have ih := ih (i + 1) (by omega)
    have e1 : fo F (i + 1) st = F i (fo F i st) := rfl
    rw [e1] at ih
    generalize hV : fo F i st = v at ih ⊢
    rw [← hF] at ih
    unfold shS at ih
    (refine mm_run ok_10 (fun t => t == 5) 9 ?_; rw [lb_10_5, rb_10]; simp only [↓w_aload_0, ↓w_bald, ↓w_fall, ↓w_getf, ↓w_goto, ↓w_iald, ↓w_ic_eq, ↓w_ic_ge, ↓w_ic_ne, ↓w_iconst, ↓w_if_ne, ↓w_iinc, ↓w_iload, ↓w_iload_1, ↓w_iload_2, ↓w_iload_3, ↓w_iret, ↓w_istore, ↓w_istore_3, ↓w_isub, ↓w_max, ↓w_min, ↓li_0, ↓li_s, ↓lr_0, ↓lr_s, ↓gf_6_1, ↓gf_6_2, ↓gf_6_4, ↓gf_6_5, ↓gf_6_6, ↓gf_6_7, ↓ar_36, ↓ar_37, ↓ar_39, ↓ar_40, ↓ar_41, ↓wl_10_0, ↓wl_10_5, ↓wl_10_82, ↓wl_10_88, hs_wr, hs_cp, hs_s, hs_n, hs_hs, upd_s, upd_n, upd_upd, ne_eq, Nat.reduceEqDiff, c1_i, c1_r, c2_i, c2_r, ↓reduceIte, List.set_cons_zero, List.set_cons_succ, mm_cb, List.length_cons, List.length_nil, List.all_cons, List.all_nil, Nat.zero_add, Nat.reduceAdd, Nat.reduceLeDiff, Nat.zero_le, decide_true, Bool.and_self, Bool.and_true, true_and, and_true, forall_const, Bool.or_false, Bool.false_or, Bool.or_true, Bool.true_or, Bool.false_eq_true, Nat.reduceBEq, beq_self_eq_true, ha_11, ha_01, hb_10, hb_0x, imp_self, false_implies, not_true_eq_false, not_false_eq_true])
    rw [hN, nI_cl (show i < 2147483648 by omega), nI_1, nI_cl (show x < 2147483648 by omega)]
    refine ⟨fun c => ?_, fun c => ?_⟩
    · have := le_nI (by omega) (by omega) c
      omega
    · have := nle_nI (by omega) (by omega) c
      obtain ⟨j, hj, ej⟩ := ho i (by omega)
      have hix := in_nI hx (by omega)
      refine ⟨in_nI (by omega) (by omega), fun u => ?_, fun u => ?_⟩
      · have e : i = q := by
          by_cases hiq : i < q
          · exact absurd u (hb i hiq)
          · omega
        rw [e] at hV
        rw [hV] at h
        exact ⟨hix, hix, h⟩
      · have hiq : i < q := by
          by_cases hiq : i = q
          · rw [hiq] at u; exact absurd hqx u
          · omega
        have ih := ih (by omega)
        rw [ej, nI_cl (show j < 2147483648 by omega)] at ih ⊢
        refine ⟨in_nI (by omega) (by omega), in_nI hj (by omega), fun v => ?_, fun v => ⟨in_nI hj (by omega), hix, fun w => ?_, fun w => ⟨in_nI hj (by omega), in_nI hj (by omega), ?_⟩⟩⟩
        · rw [if_neg (fun z => v z.1)] at ih
          exact ih _
        · rw [if_neg (fun z => w z.2)] at ih
          exact ih _
        · rw [if_pos ⟨v, w⟩] at ih
          exact ih _)
  refine mm_in rfl (Nat.le_of_ble_eq_true rfl) ?_
  show mm_Rn hh_S 10 RI RV 0 [some (.ref 6), some (.int (nI x)), some (.int st), none, none, none] [] μ
  (refine mm_run ok_10 (fun t => t == 5) 9 ?_; rw [lb_10_0, rb_10]; simp only [↓w_aload_0, ↓w_bald, ↓w_fall, ↓w_getf, ↓w_goto, ↓w_iald, ↓w_ic_eq, ↓w_ic_ge, ↓w_ic_ne, ↓w_iconst, ↓w_if_ne, ↓w_iinc, ↓w_iload, ↓w_iload_1, ↓w_iload_2, ↓w_iload_3, ↓w_iret, ↓w_istore, ↓w_istore_3, ↓w_isub, ↓w_max, ↓w_min, ↓li_0, ↓li_s, ↓lr_0, ↓lr_s, ↓gf_6_1, ↓gf_6_2, ↓gf_6_4, ↓gf_6_5, ↓gf_6_6, ↓gf_6_7, ↓ar_36, ↓ar_37, ↓ar_39, ↓ar_40, ↓ar_41, ↓wl_10_0, ↓wl_10_5, ↓wl_10_82, ↓wl_10_88, hs_wr, hs_cp, hs_s, hs_n, hs_hs, upd_s, upd_n, upd_upd, ne_eq, Nat.reduceEqDiff, c1_i, c1_r, c2_i, c2_r, ↓reduceIte, List.set_cons_zero, List.set_cons_succ, mm_cb, List.length_cons, List.length_nil, List.all_cons, List.all_nil, Nat.zero_add, Nat.reduceAdd, Nat.reduceLeDiff, Nat.zero_le, decide_true, Bool.and_self, Bool.and_true, true_and, and_true, forall_const, Bool.or_false, Bool.false_or, Bool.or_true, Bool.true_or, Bool.false_eq_true, Nat.reduceBEq, beq_self_eq_true, ha_11, ha_01, hb_10, hb_0x, imp_self, false_implies, not_true_eq_false, not_false_eq_true])
  exact lp 0 (Nat.zero_le _) none
theorem q_close {n : Nat} (hN : μ 6 7 = nI n) (hn : n ≤ 20) (hk : ∀ i, i < n → ∃ j, j < 4 ∧ μ 36 i = nI j) {w : Int32} (h : RI (su (fun j => if clB (μ 38) (μ 40) w j = true then (μ 37 j - μ 39 j) * 2 * μ 20 (μ 36 j).toNatClampNeg else 0) n) (hs μ 40 (fun j => if j < n ∧ clB (μ 38) (μ 40) w j = true then 1 else μ 40 j))) : mm_Cs hh_S 11 [.ref 6, .int w, .ref 20] μ RI RV := by
  have lp := up_ind (n := n) (P := fun i => mm_Rn hh_S 11 RI RV 5 [some (.ref 6), some (.int w), some (.ref 20), some (.int (su (fun j => if clB (μ 38) (μ 40) w j = true then (μ 37 j - μ 39 j) * 2 * μ 20 (μ 36 j).toNatClampNeg else 0) i)), some (.int (nI i))] [] (hs μ 40 (fun j => if j < i ∧ clB (μ 38) (μ 40) w j = true then 1 else μ 40 j))) (fun i hi ih => by
    (refine mm_run ok_11 (fun t => t == 5) 9 ?_; rw [lb_11_5, rb_11]; simp only [↓w_aload_0, ↓w_aload_2, ↓w_bald, ↓w_bast, ↓w_fall, ↓w_getf, ↓w_goto, ↓w_iadd, ↓w_iald, ↓w_ic_ge, ↓w_ic_ne, ↓w_iconst, ↓w_if_ne, ↓w_iinc, ↓w_iload, ↓w_iload_1, ↓w_iload_3, ↓w_imul, ↓w_iret, ↓w_istore, ↓w_istore_3, ↓w_isub, ↓li_0, ↓li_s, ↓lr_0, ↓lr_s, ↓gf_6_1, ↓gf_6_2, ↓gf_6_3, ↓gf_6_4, ↓gf_6_5, ↓gf_6_7, ↓ar_20, ↓ar_36, ↓ar_37, ↓ar_38, ↓ar_39, ↓ar_40, ↓wl_11_0, ↓wl_11_5, ↓wl_11_73, ↓wl_11_79, hs_wr, hs_cp, hs_s, hs_n, hs_hs, upd_s, upd_n, upd_upd, ne_eq, Nat.reduceEqDiff, c1_i, c1_r, c2_i, c2_r, ↓reduceIte, List.set_cons_zero, List.set_cons_succ, mm_cb, List.length_cons, List.length_nil, List.all_cons, List.all_nil, Nat.zero_add, Nat.reduceAdd, Nat.reduceLeDiff, Nat.zero_le, decide_true, Bool.and_self, Bool.and_true, true_and, and_true, forall_const, Bool.or_false, Bool.false_or, Bool.or_true, Bool.true_or, Bool.false_eq_true, Nat.reduceBEq, beq_self_eq_true, ha_11, ha_01, hb_10, hb_0x, imp_self, false_implies, not_true_eq_false, not_false_eq_true])
    rw [hN, nI_cl (by omega), nI_1]
    refine ⟨fun c => ?_, fun c => ?_⟩
    · have := le_nI (by omega) (by omega) c
      rw [show i = n by omega]
      exact h
    · have := nle_nI (by omega) (by omega) c
      have ih := ih (i + 1) (by omega) (by omega)
      have hii := in_nI (show i < 20 by omega) (by omega)
      obtain ⟨j, hj, ej⟩ := hk i (by omega)
      have hf : ¬ clB (μ 38) (μ 40) w i = true → mm_Rn hh_S 11 RI RV 5 [some (.ref 6), some (.int w), some (.ref 20), some (.int (su (fun j => if clB (μ 38) (μ 40) w j = true then (μ 37 j - μ 39 j) * 2 * μ 20 (μ 36 j).toNatClampNeg else 0) i)), some (.int (nI (i + 1)))] [] (hs μ 40 (fun j => if j < i ∧ clB (μ 38) (μ 40) w j = true then 1 else μ 40 j)) := by
        intro u
        rw [su_if_f (f := fun j => (μ 37 j - μ 39 j) * 2 * μ 20 (μ 36 j).toNatClampNeg) u] at ih
        have e : (fun j => if j < i + 1 ∧ clB (μ 38) (μ 40) w j = true then (1 : Int32) else μ 40 j) = (fun j => if j < i ∧ clB (μ 38) (μ 40) w j = true then 1 else μ 40 j) := by
          funext j
          by_cases hj : j = i
          · subst hj
            simp [u]
          · simp only [show (j < i + 1) = (j < i) by apply propext; omega]
        rw [e] at ih
        exact ih
      have hcl : clB (μ 38) (μ 40) w i = true ↔ μ 38 i = w ∧ μ 40 i = 0 := by
        unfold clB
        simp only [Bool.and_eq_true, decide_eq_true_eq]
      simp only [show ¬ (i < i ∧ clB (μ 38) (μ 40) w i = true) from fun z => absurd z.1 (by omega), if_false]
      refine ⟨hii, fun u => hf (fun z => u (hcl.mp z).1), fun u => ⟨hii, fun v => hf (fun z => v (hcl.mp z).2), fun v => ?_⟩⟩
      have u2 := hcl.mpr ⟨u, v⟩
      rw [su_if_t (f := fun j => (μ 37 j - μ 39 j) * 2 * μ 20 (μ 36 j).toNatClampNeg) u2] at ih
      have e : upd (fun j => if j < i ∧ clB (μ 38) (μ 40) w j = true then (1 : Int32) else μ 40 j) i 1 = (fun j => if j < i + 1 ∧ clB (μ 38) (μ 40) w j = true then 1 else μ 40 j) := by
        funext j
        unfold upd
        by_cases hj : j = i
        · subst hj
          rw [if_pos rfl, if_pos ⟨by omega, u2⟩]
        · simp only [hj, if_false, show (j < i + 1) = (j < i) by apply propext; omega]
      rw [e]
      refine ⟨hii, hii, hii, ?_, hii, ih⟩
      rw [ej]
      exact in_nI hj (by omega))
  refine mm_in rfl (Nat.le_of_ble_eq_true rfl) ?_
  show mm_Rn hh_S 11 RI RV 0 [some (.ref 6), some (.int w), some (.ref 20), none, none] [] μ
  (refine mm_run ok_11 (fun t => t == 5) 9 ?_; rw [lb_11_0, rb_11]; simp only [↓w_aload_0, ↓w_aload_2, ↓w_bald, ↓w_bast, ↓w_fall, ↓w_getf, ↓w_goto, ↓w_iadd, ↓w_iald, ↓w_ic_ge, ↓w_ic_ne, ↓w_iconst, ↓w_if_ne, ↓w_iinc, ↓w_iload, ↓w_iload_1, ↓w_iload_3, ↓w_imul, ↓w_iret, ↓w_istore, ↓w_istore_3, ↓w_isub, ↓li_0, ↓li_s, ↓lr_0, ↓lr_s, ↓gf_6_1, ↓gf_6_2, ↓gf_6_3, ↓gf_6_4, ↓gf_6_5, ↓gf_6_7, ↓ar_20, ↓ar_36, ↓ar_37, ↓ar_38, ↓ar_39, ↓ar_40, ↓wl_11_0, ↓wl_11_5, ↓wl_11_73, ↓wl_11_79, hs_wr, hs_cp, hs_s, hs_n, hs_hs, upd_s, upd_n, upd_upd, ne_eq, Nat.reduceEqDiff, c1_i, c1_r, c2_i, c2_r, ↓reduceIte, List.set_cons_zero, List.set_cons_succ, mm_cb, List.length_cons, List.length_nil, List.all_cons, List.all_nil, Nat.zero_add, Nat.reduceAdd, Nat.reduceLeDiff, Nat.zero_le, decide_true, Bool.and_self, Bool.and_true, true_and, and_true, forall_const, Bool.or_false, Bool.false_or, Bool.or_true, Bool.true_or, Bool.false_eq_true, Nat.reduceBEq, beq_self_eq_true, ha_11, ha_01, hb_10, hb_0x, imp_self, false_implies, not_true_eq_false, not_false_eq_true])
  have := lp 0 (Nat.zero_le _)
  have e : (fun j => if j < 0 ∧ clB (μ 38) (μ 40) w j = true then (1 : Int32) else μ 40 j) = μ 40 := by
    funext j
    simp
  rw [e, hs_id] at this
  exact this
theorem q_take {n c : Nat} (hN : μ 1 6 = nI n) (hn : n ≤ 60) (hc : c < 3) (ho : ∀ i, i < n → ∃ j, j < 60 ∧ μ 14 i = nI j) {t m : Int32} (h : RV (hs (hs μ 10 (fo (tkS (μ 14) (μ 13) (μ 9) t (c * 60)) n (m, μ 10, μ 27)).2.1) 27 (fo (tkS (μ 14) (μ 13) (μ 9) t (c * 60)) n (m, μ 10, μ 27)).2.2)) : mm_Cs hh_S 33 [.ref 1, .int t, .int m, .ref 27, .int (nI c * 60)] μ RI RV := by
  generalize hF : tkS (μ 14) (μ 13) (μ 9) t (c * 60) = F at h
  generalize hs0 : (m, μ 10, μ 27) = s0 at h
  have hstop : ∀ j s, s.1 ≤ 0 → F j s = s := by
    intro j s hs
    rw [← hF]
    unfold tkS
    rw [if_pos hs]
  have lp := up_ind (n := n) (P := fun i => ∀ o7 o8, mm_Rn hh_S 33 RI RV 6 [some (.ref 1), some (.int t), some (.int m), some (.ref 27), some (.int (nI c * 60)), some (.int (fo F i s0).1), some (.int (nI i)), o7, o8] [] (hs (hs μ 10 (fo F i s0).2.1) 27 (fo F i s0).2.2)) (fun i hi ih => by
    intro o7 o8
    have ih := ih (i + 1) (by omega)
    have e1 : fo F (i + 1) s0 = F i (fo F i s0) := rfl
    have est := fo_stop (stop := fun s => s.1 ≤ 0) hstop (i := i) (s := s0)
    rw [e1] at ih
    generalize hS : fo F i s0 = s at ih est ⊢
    obtain ⟨r, lf, fi⟩ := s
    rw [← hF] at ih
    unfold tkS at ih
    dsimp only at ih est ⊢
    (refine mm_run ok_33 (fun t => t == 6) 9 ?_; rw [lb_33_6, rb_33]; simp only [↓w_aload_0, ↓w_aload_3, ↓w_dup2, ↓w_fall, ↓w_getf, ↓w_goto, ↓w_iadd, ↓w_iald, ↓w_iast, ↓w_ic_ge, ↓w_iconst, ↓w_if_eq, ↓w_if_le, ↓w_iinc, ↓w_iload, ↓w_iload_1, ↓w_iload_2, ↓w_istore, ↓w_isub, ↓w_min, ↓w_vret, ↓li_0, ↓li_s, ↓lr_0, ↓lr_s, ↓gf_1_1, ↓gf_1_5, ↓gf_1_6, ↓rc_1, ↓ar_10, ↓ar_14, ↓ar_27, ↓w_c31, ↓wl_33_0, ↓wl_33_6, ↓wl_33_81, ↓wl_33_87, hs_wr, hs_cp, hs_s, hs_n, hs_hs, upd_s, upd_n, upd_upd, ne_eq, Nat.reduceEqDiff, c1_i, c1_r, c2_i, c2_r, ↓reduceIte, List.set_cons_zero, List.set_cons_succ, mm_cb, List.length_cons, List.length_nil, List.all_cons, List.all_nil, Nat.zero_add, Nat.reduceAdd, Nat.reduceLeDiff, Nat.zero_le, decide_true, Bool.and_self, Bool.and_true, true_and, and_true, forall_const, Bool.or_false, Bool.false_or, Bool.or_true, Bool.true_or, Bool.false_eq_true, Nat.reduceBEq, beq_self_eq_true, ha_11, ha_01, hb_10, hb_0x, imp_self, false_implies, not_true_eq_false, not_false_eq_true])
    rw [hN, nI_cl (by omega), nI_1]
    refine ⟨fun c => ?_, fun c => ?_⟩
    · have := le_nI (by omega) (by omega) c
      have e : i = n := by omega
      rw [e] at hS
      rw [hS] at h
      exact h
    · have := nle_nI (by omega) (by omega) c
      have ih := ih (by omega)
      obtain ⟨j, hj, ej⟩ := ho i (by omega)
      rw [ej, nI_cl (show j < 2147483648 by omega)] at ih
      rw [ej, ixm, nI_cl (show j < 2147483648 by omega)]
      refine ⟨fun q => ?_, fun q => ⟨in_nI (by omega) (by omega), ?_⟩⟩
      · rw [est q n (by omega)] at h
        exact h
      · rw [if_neg q] at ih
        refine q_isUsable hj (fun u => br1 ⟨in_nI hj (by omega), in_nI hj (by omega), in_nI hj (by omega), in_nI (by omega) (by omega), ?_⟩) (fun u => br0 ?_)
        · simp only [hs_s, hs_n, ne_eq, Nat.reduceEqDiff, not_false_eq_true] at u ⊢
          rw [if_pos u] at ih
          rw [hs_aba (by decide), hs_aba (by decide), nI_cl (show _ * 60 + j < 2147483648 by omega)]
          exact ih _ _
        · simp only [hs_s, hs_n, ne_eq, Nat.reduceEqDiff, not_false_eq_true] at u
          rw [if_neg u] at ih
          exact ih _ _)
  refine mm_in rfl (Nat.le_of_ble_eq_true rfl) ?_
  show mm_Rn hh_S 33 RI RV 0 [some (.ref 1), some (.int t), some (.int m), some (.ref 27), some (.int (nI c * 60)), none, none, none, none] [] μ
  (refine mm_run ok_33 (fun t => t == 6) 9 ?_; rw [lb_33_0, rb_33]; simp only [↓w_aload_0, ↓w_aload_3, ↓w_dup2, ↓w_fall, ↓w_getf, ↓w_goto, ↓w_iadd, ↓w_iald, ↓w_iast, ↓w_ic_ge, ↓w_iconst, ↓w_if_eq, ↓w_if_le, ↓w_iinc, ↓w_iload, ↓w_iload_1, ↓w_iload_2, ↓w_istore, ↓w_isub, ↓w_min, ↓w_vret, ↓li_0, ↓li_s, ↓lr_0, ↓lr_s, ↓gf_1_1, ↓gf_1_5, ↓gf_1_6, ↓rc_1, ↓ar_10, ↓ar_14, ↓ar_27, ↓w_c31, ↓wl_33_0, ↓wl_33_6, ↓wl_33_81, ↓wl_33_87, hs_wr, hs_cp, hs_s, hs_n, hs_hs, upd_s, upd_n, upd_upd, ne_eq, Nat.reduceEqDiff, c1_i, c1_r, c2_i, c2_r, ↓reduceIte, List.set_cons_zero, List.set_cons_succ, mm_cb, List.length_cons, List.length_nil, List.all_cons, List.all_nil, Nat.zero_add, Nat.reduceAdd, Nat.reduceLeDiff, Nat.zero_le, decide_true, Bool.and_self, Bool.and_true, true_and, and_true, forall_const, Bool.or_false, Bool.false_or, Bool.or_true, Bool.true_or, Bool.false_eq_true, Nat.reduceBEq, beq_self_eq_true, ha_11, ha_01, hb_10, hb_0x, imp_self, false_implies, not_true_eq_false, not_false_eq_true])
  have := lp 0 (Nat.zero_le _) none none
  rw [← hs0] at this
  simp only [fo, hs_id] at this
  exact this
end C4
