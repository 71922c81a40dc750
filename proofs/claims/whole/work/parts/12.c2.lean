/-! lots, crews, cookers: reads -/
def stH (ca ic : Nat → Int32) (j : Nat) : Int32 := if ic j = 0 then ca j + 20 else ca j + 40
def usB (re sz : Nat → Int32) (t : Int32) (j : Nat) : Bool := decide (re j = 0) && decide ((t >>> (sz j &&& 31)) &&& 1 = 1)
def frB (ca ic : Nat → Int32) (h : Int32) (j : Nat) : Bool := decide (¬ stH ca ic j ≤ h)
theorem ixm (b j : Nat) : nI b * 60 + nI j = nI (b * 60 + j) := by
  rw [show (60 : Int32) = nI 60 from rfl, pk_mul, nI_add]
theorem su_if_t {f : Nat → Int32} {p : Nat → Bool} {i : Nat} (h : p i = true) : su (fun j => if p j = true then f j else 0) (i + 1) = su (fun j => if p j = true then f j else 0) i + f i := by
  show su _ i + (if p i = true then f i else 0) = _
  rw [if_pos h]
theorem su_if_f {f : Nat → Int32} {p : Nat → Bool} {i : Nat} (h : ¬ p i = true) : su (fun j => if p j = true then f j else 0) (i + 1) = su (fun j => if p j = true then f j else 0) i := by
  show su _ i + (if p i = true then f i else 0) = _
  rw [if_neg h, Int32.add_zero]
section C2
variable {μ : mm_M} {RI : Int32 → mm_M → Prop} {RV : mm_M → Prop}
theorem q_stale {j : Nat} (hj : j < 60) (h : RI (stH (μ 11) (μ 12) j) μ) : mm_Cs hh_S 28 [.ref 1, .int (nI j)] μ RI RV := by
  have hi := in_nI hj (by omega)
  refine mm_in rfl (Nat.le_of_ble_eq_true rfl) ?_
  show mm_Rn hh_S 28 RI RV 0 [some (.ref 1), some (.int (nI j))] [] μ
  (refine mm_run ok_28 (fun t => false) 9 ?_; rw [lb_28_0, rb_28]; simp only [↓w_aload_0, ↓w_bald, ↓w_bipush, ↓w_fall, ↓w_getf, ↓w_goto, ↓w_iadd, ↓w_iald, ↓w_if_eq, ↓w_iload_1, ↓w_iret, ↓li_0, ↓li_s, ↓lr_0, ↓lr_s, ↓gf_1_2, ↓gf_1_3, ↓ar_11, ↓ar_12, ↓wl_28_0, ↓wl_28_20, ↓wl_28_22, hs_wr, hs_cp, hs_s, hs_n, hs_hs, upd_s, upd_n, upd_upd, ne_eq, Nat.reduceEqDiff, c1_i, c1_r, c2_i, c2_r, ↓reduceIte, List.set_cons_zero, List.set_cons_succ, mm_cb, List.length_cons, List.length_nil, List.all_cons, List.all_nil, Nat.zero_add, Nat.reduceAdd, Nat.reduceLeDiff, Nat.zero_le, decide_true, Bool.and_self, Bool.and_true, true_and, and_true, forall_const, Bool.or_false, Bool.false_or, Bool.or_true, Bool.true_or, Bool.false_eq_true, Nat.reduceBEq, beq_self_eq_true, ha_11, ha_01, hb_10, hb_0x, imp_self, false_implies, not_true_eq_false, not_false_eq_true])
  rw [nI_cl (by omega)]
  unfold stH at h
  refine ⟨hi, hi, fun q => ?_, fun q => ?_⟩
  · rw [if_pos q] at h; exact h
  · rw [if_neg q] at h; exact h
theorem q_isFreshC {j : Nat} (hj : j < 60) {t : Int32} (h1 : frB (μ 11) (μ 12) t j = true → RI 1 μ) (h0 : ¬ frB (μ 11) (μ 12) t j = true → RI 0 μ) : mm_Cs hh_S 29 [.ref 1, .int (nI j), .int t] μ RI RV := by
  refine mm_in rfl (Nat.le_of_ble_eq_true rfl) ?_
  show mm_Rn hh_S 29 RI RV 0 [some (.ref 1), some (.int (nI j)), some (.int t)] [] μ
  (refine mm_run ok_29 (fun t => false) 9 ?_; rw [lb_29_0, rb_29]; simp only [↓w_aload_0, ↓w_fall, ↓w_goto, ↓w_ic_ge, ↓w_iconst, ↓w_iload_1, ↓w_iload_2, ↓w_iret, ↓li_0, ↓li_s, ↓lr_0, ↓lr_s, ↓rc_1, ↓w_c28, ↓wl_29_0, ↓wl_29_13, ↓wl_29_14, hs_wr, hs_cp, hs_s, hs_n, hs_hs, upd_s, upd_n, upd_upd, ne_eq, Nat.reduceEqDiff, c1_i, c1_r, c2_i, c2_r, ↓reduceIte, List.set_cons_zero, List.set_cons_succ, mm_cb, List.length_cons, List.length_nil, List.all_cons, List.all_nil, Nat.zero_add, Nat.reduceAdd, Nat.reduceLeDiff, Nat.zero_le, decide_true, Bool.and_self, Bool.and_true, true_and, and_true, forall_const, Bool.or_false, Bool.false_or, Bool.or_true, Bool.true_or, Bool.false_eq_true, Nat.reduceBEq, beq_self_eq_true, ha_11, ha_01, hb_10, hb_0x, imp_self, false_implies, not_true_eq_false, not_false_eq_true])
  unfold frB at h1 h0
  simp only [decide_eq_true_eq] at h1 h0
  exact q_stale hj ⟨fun q => h0 (fun z => z q), fun q => h1 q⟩
theorem q_kilograms {n : Nat} (hN : μ 1 6 = nI n) (hn : n ≤ 60) (h : RI (su (μ 10) n) μ) : mm_Cs hh_S 30 [.ref 1] μ RI RV := by
  have lp := up_ind (n := n) (P := fun i => mm_Rn hh_S 30 RI RV 4 [some (.ref 1), some (.int (su (μ 10) i)), some (.int (nI i))] [] μ) (fun i hi ih => by
    (refine mm_run ok_30 (fun t => t == 4) 9 ?_; rw [lb_30_4, rb_30]; simp only [↓w_aload_0, ↓w_fall, ↓w_getf, ↓w_goto, ↓w_iadd, ↓w_iald, ↓w_ic_ge, ↓w_iconst, ↓w_iinc, ↓w_iload_1, ↓w_iload_2, ↓w_iret, ↓w_istore_1, ↓w_istore_2, ↓li_0, ↓li_s, ↓lr_0, ↓lr_s, ↓gf_1_1, ↓gf_1_6, ↓ar_10, ↓wl_30_0, ↓wl_30_4, ↓wl_30_27, hs_wr, hs_cp, hs_s, hs_n, hs_hs, upd_s, upd_n, upd_upd, ne_eq, Nat.reduceEqDiff, c1_i, c1_r, c2_i, c2_r, ↓reduceIte, List.set_cons_zero, List.set_cons_succ, mm_cb, List.length_cons, List.length_nil, List.all_cons, List.all_nil, Nat.zero_add, Nat.reduceAdd, Nat.reduceLeDiff, Nat.zero_le, decide_true, Bool.and_self, Bool.and_true, true_and, and_true, forall_const, Bool.or_false, Bool.false_or, Bool.or_true, Bool.true_or, Bool.false_eq_true, Nat.reduceBEq, beq_self_eq_true, ha_11, ha_01, hb_10, hb_0x, imp_self, false_implies, not_true_eq_false, not_false_eq_true])
    rw [hN, nI_cl (by omega), nI_1]
    refine ⟨fun c => ?_, fun c => ?_⟩
    · have := le_nI (by omega) (by omega) c
      rw [show i = n by omega]
      exact h
    · have := nle_nI (by omega) (by omega) c
      exact ⟨in_nI (by omega) (by omega), ih (i + 1) (by omega) (by omega)⟩)
  refine mm_in rfl (Nat.le_of_ble_eq_true rfl) ?_
  show mm_Rn hh_S 30 RI RV 0 [some (.ref 1), none, none] [] μ
  (refine mm_run ok_30 (fun t => t == 4) 9 ?_; rw [lb_30_0, rb_30]; simp only [↓w_aload_0, ↓w_fall, ↓w_getf, ↓w_goto, ↓w_iadd, ↓w_iald, ↓w_ic_ge, ↓w_iconst, ↓w_iinc, ↓w_iload_1, ↓w_iload_2, ↓w_iret, ↓w_istore_1, ↓w_istore_2, ↓li_0, ↓li_s, ↓lr_0, ↓lr_s, ↓gf_1_1, ↓gf_1_6, ↓ar_10, ↓wl_30_0, ↓wl_30_4, ↓wl_30_27, hs_wr, hs_cp, hs_s, hs_n, hs_hs, upd_s, upd_n, upd_upd, ne_eq, Nat.reduceEqDiff, c1_i, c1_r, c2_i, c2_r, ↓reduceIte, List.set_cons_zero, List.set_cons_succ, mm_cb, List.length_cons, List.length_nil, List.all_cons, List.all_nil, Nat.zero_add, Nat.reduceAdd, Nat.reduceLeDiff, Nat.zero_le, decide_true, Bool.and_self, Bool.and_true, true_and, and_true, forall_const, Bool.or_false, Bool.false_or, Bool.or_true, Bool.true_or, Bool.false_eq_true, Nat.reduceBEq, beq_self_eq_true, ha_11, ha_01, hb_10, hb_0x, imp_self, false_implies, not_true_eq_false, not_false_eq_true])
  exact lp 0 (Nat.zero_le _)
theorem q_isUsable {j : Nat} (hj : j < 60) {t : Int32} (h1 : usB (μ 13) (μ 9) t j = true → RI 1 μ) (h0 : ¬ usB (μ 13) (μ 9) t j = true → RI 0 μ) : mm_Cs hh_S 31 [.ref 1, .int (nI j), .int t] μ RI RV := by
  have hi := in_nI hj (by omega)
  refine mm_in rfl (Nat.le_of_ble_eq_true rfl) ?_
  show mm_Rn hh_S 31 RI RV 0 [some (.ref 1), some (.int (nI j)), some (.int t)] [] μ
  (refine mm_run ok_31 (fun t => false) 9 ?_; rw [lb_31_0, rb_31]; simp only [↓w_aload_0, ↓w_bald, ↓w_fall, ↓w_getf, ↓w_goto, ↓w_iald, ↓w_iand, ↓w_ic_ne, ↓w_iconst, ↓w_if_ne, ↓w_iload_1, ↓w_iload_2, ↓w_iret, ↓w_ishr, ↓li_0, ↓li_s, ↓lr_0, ↓lr_s, ↓gf_1_0, ↓gf_1_4, ↓ar_9, ↓ar_13, ↓wl_31_0, ↓wl_31_27, ↓wl_31_28, hs_wr, hs_cp, hs_s, hs_n, hs_hs, upd_s, upd_n, upd_upd, ne_eq, Nat.reduceEqDiff, c1_i, c1_r, c2_i, c2_r, ↓reduceIte, List.set_cons_zero, List.set_cons_succ, mm_cb, List.length_cons, List.length_nil, List.all_cons, List.all_nil, Nat.zero_add, Nat.reduceAdd, Nat.reduceLeDiff, Nat.zero_le, decide_true, Bool.and_self, Bool.and_true, true_and, and_true, forall_const, Bool.or_false, Bool.false_or, Bool.or_true, Bool.true_or, Bool.false_eq_true, Nat.reduceBEq, beq_self_eq_true, ha_11, ha_01, hb_10, hb_0x, imp_self, false_implies, not_true_eq_false, not_false_eq_true])
  rw [nI_cl (by omega)]
  unfold usB at h1 h0
  simp only [Bool.and_eq_true, decide_eq_true_eq] at h1 h0
  exact ⟨hi, fun q => h0 (fun z => q z.1), fun q => ⟨hi, fun r => h0 (fun z => r z.2), fun r => h1 ⟨q, r⟩⟩⟩
theorem q_usable {n : Nat} (hN : μ 1 6 = nI n) (hn : n ≤ 60) {t : Int32} (h : RI (su (fun j => if usB (μ 13) (μ 9) t j = true then μ 10 j else 0) n) μ) : mm_Cs hh_S 32 [.ref 1, .int t] μ RI RV := by
  have lp := up_ind (n := n) (P := fun i => mm_Rn hh_S 32 RI RV 4 [some (.ref 1), some (.int t), some (.int (su (fun j => if usB (μ 13) (μ 9) t j = true then μ 10 j else 0) i)), some (.int (nI i))] [] μ) (fun i hi ih => by
    (refine mm_run ok_32 (fun t => t == 4) 9 ?_; rw [lb_32_4, rb_32]; simp only [↓w_aload_0, ↓w_fall, ↓w_getf, ↓w_goto, ↓w_iadd, ↓w_iald, ↓w_ic_ge, ↓w_iconst, ↓w_if_eq, ↓w_iinc, ↓w_iload_1, ↓w_iload_2, ↓w_iload_3, ↓w_iret, ↓w_istore_2, ↓w_istore_3, ↓li_0, ↓li_s, ↓lr_0, ↓lr_s, ↓gf_1_1, ↓gf_1_6, ↓rc_1, ↓ar_10, ↓w_c31, ↓wl_32_0, ↓wl_32_4, ↓wl_32_30, ↓wl_32_36, hs_wr, hs_cp, hs_s, hs_n, hs_hs, upd_s, upd_n, upd_upd, ne_eq, Nat.reduceEqDiff, c1_i, c1_r, c2_i, c2_r, ↓reduceIte, List.set_cons_zero, List.set_cons_succ, mm_cb, List.length_cons, List.length_nil, List.all_cons, List.all_nil, Nat.zero_add, Nat.reduceAdd, Nat.reduceLeDiff, Nat.zero_le, decide_true, Bool.and_self, Bool.and_true, true_and, and_true, forall_const, Bool.or_false, Bool.false_or, Bool.or_true, Bool.true_or, Bool.false_eq_true, Nat.reduceBEq, beq_self_eq_true, ha_11, ha_01, hb_10, hb_0x, imp_self, false_implies, not_true_eq_false, not_false_eq_true])
    rw [hN, nI_cl (by omega), nI_1]
    refine ⟨fun c => ?_, fun c => ?_⟩
    · have := le_nI (by omega) (by omega) c
      rw [show i = n by omega]
      exact h
    · have := nle_nI (by omega) (by omega) c
      refine q_isUsable (by omega) (fun u => br1 ?_) (fun u => br0 ?_)
      · rw [← su_if_t u]
        exact ⟨in_nI (by omega) (by omega), ih (i + 1) (by omega) (by omega)⟩
      · rw [← su_if_f (f := μ 10) u]
        exact ih (i + 1) (by omega) (by omega))
  refine mm_in rfl (Nat.le_of_ble_eq_true rfl) ?_
  show mm_Rn hh_S 32 RI RV 0 [some (.ref 1), some (.int t), none, none] [] μ
  (refine mm_run ok_32 (fun t => t == 4) 9 ?_; rw [lb_32_0, rb_32]; simp only [↓w_aload_0, ↓w_fall, ↓w_getf, ↓w_goto, ↓w_iadd, ↓w_iald, ↓w_ic_ge, ↓w_iconst, ↓w_if_eq, ↓w_iinc, ↓w_iload_1, ↓w_iload_2, ↓w_iload_3, ↓w_iret, ↓w_istore_2, ↓w_istore_3, ↓li_0, ↓li_s, ↓lr_0, ↓lr_s, ↓gf_1_1, ↓gf_1_6, ↓rc_1, ↓ar_10, ↓w_c31, ↓wl_32_0, ↓wl_32_4, ↓wl_32_30, ↓wl_32_36, hs_wr, hs_cp, hs_s, hs_n, hs_hs, upd_s, upd_n, upd_upd, ne_eq, Nat.reduceEqDiff, c1_i, c1_r, c2_i, c2_r, ↓reduceIte, List.set_cons_zero, List.set_cons_succ, mm_cb, List.length_cons, List.length_nil, List.all_cons, List.all_nil, Nat.zero_add, Nat.reduceAdd, Nat.reduceLeDiff, Nat.zero_le, decide_true, Bool.and_self, Bool.and_true, true_and, and_true, forall_const, Bool.or_false, Bool.false_or, Bool.or_true, Bool.true_or, Bool.false_eq_true, Nat.reduceBEq, beq_self_eq_true, ha_11, ha_01, hb_10, hb_0x, imp_self, false_implies, not_true_eq_false, not_false_eq_true])
  exact lp 0 (Nat.zero_le _)
theorem q_spoil {n : Nat} (hN : μ 1 6 = nI n) (hn : n ≤ 60) {t : Int32} (h : RI (su (fun j => if (!frB (μ 11) (μ 12) t j) = true then μ 10 j else 0) n) (hs μ 10 (fun j => if j < n ∧ (!frB (μ 11) (μ 12) t j) = true then 0 else μ 10 j))) : mm_Cs hh_S 35 [.ref 1, .int t] μ RI RV := by
  have lp := up_ind (n := n) (P := fun i => mm_Rn hh_S 35 RI RV 4 [some (.ref 1), some (.int t), some (.int (su (fun j => if (!frB (μ 11) (μ 12) t j) = true then μ 10 j else 0) i)), some (.int (nI i))] [] (hs μ 10 (fun j => if j < i ∧ (!frB (μ 11) (μ 12) t j) = true then 0 else μ 10 j))) (fun i hi ih => by
    (refine mm_run ok_35 (fun t => t == 4) 9 ?_; rw [lb_35_4, rb_35]; simp only [↓w_aload_0, ↓w_fall, ↓w_getf, ↓w_goto, ↓w_iadd, ↓w_iald, ↓w_iast, ↓w_ic_ge, ↓w_iconst, ↓w_if_ne, ↓w_iinc, ↓w_iload_1, ↓w_iload_2, ↓w_iload_3, ↓w_iret, ↓w_istore_2, ↓w_istore_3, ↓li_0, ↓li_s, ↓lr_0, ↓lr_s, ↓gf_1_1, ↓gf_1_6, ↓rc_1, ↓ar_10, ↓w_c29, ↓wl_35_0, ↓wl_35_4, ↓wl_35_37, ↓wl_35_43, hs_wr, hs_cp, hs_s, hs_n, hs_hs, upd_s, upd_n, upd_upd, ne_eq, Nat.reduceEqDiff, c1_i, c1_r, c2_i, c2_r, ↓reduceIte, List.set_cons_zero, List.set_cons_succ, mm_cb, List.length_cons, List.length_nil, List.all_cons, List.all_nil, Nat.zero_add, Nat.reduceAdd, Nat.reduceLeDiff, Nat.zero_le, decide_true, Bool.and_self, Bool.and_true, true_and, and_true, forall_const, Bool.or_false, Bool.false_or, Bool.or_true, Bool.true_or, Bool.false_eq_true, Nat.reduceBEq, beq_self_eq_true, ha_11, ha_01, hb_10, hb_0x, imp_self, false_implies, not_true_eq_false, not_false_eq_true])
    rw [hN, nI_cl (by omega), nI_1]
    refine ⟨fun c => ?_, fun c => ?_⟩
    · have := le_nI (by omega) (by omega) c
      rw [show i = n by omega]
      exact h
    · have := nle_nI (by omega) (by omega) c
      refine q_isFreshC (by omega) (fun u => br1n ?_) (fun u => br0n ?_)
      · simp only [hs_n, ne_eq, Nat.reduceEqDiff, not_false_eq_true] at u
        have := ih (i + 1) (by omega) (by omega)
        rw [su_if_f (f := μ 10) (by simp [u])] at this
        have e : (fun j => if j < i + 1 ∧ (!frB (μ 11) (μ 12) t j) = true then (0 : Int32) else μ 10 j) = (fun j => if j < i ∧ (!frB (μ 11) (μ 12) t j) = true then 0 else μ 10 j) := by
          funext j
          by_cases hj : j = i
          · subst hj
            simp [u]
          · simp only [show (j < i + 1) = (j < i) by apply propext; omega]
        rw [e] at this
        exact this
      · simp only [hs_n, ne_eq, Nat.reduceEqDiff, not_false_eq_true] at u
        have := ih (i + 1) (by omega) (by omega)
        rw [su_if_t (f := μ 10) (by simp [u])] at this
        have e : upd (fun j => if j < i ∧ (!frB (μ 11) (μ 12) t j) = true then (0 : Int32) else μ 10 j) i 0 = (fun j => if j < i + 1 ∧ (!frB (μ 11) (μ 12) t j) = true then 0 else μ 10 j) := by
          funext j
          unfold upd
          by_cases hj : j = i
          · subst hj
            simp [u]
          · simp only [hj, if_false, show (j < i + 1) = (j < i) by apply propext; omega]
        refine ⟨in_nI (by omega) (by omega), in_nI (by omega) (by omega), ?_⟩
        simp only [hs_s, hs_hs]
        rw [e, if_neg (by omega)]
        exact this)
  refine mm_in rfl (Nat.le_of_ble_eq_true rfl) ?_
  show mm_Rn hh_S 35 RI RV 0 [some (.ref 1), some (.int t), none, none] [] μ
  (refine mm_run ok_35 (fun t => t == 4) 9 ?_; rw [lb_35_0, rb_35]; simp only [↓w_aload_0, ↓w_fall, ↓w_getf, ↓w_goto, ↓w_iadd, ↓w_iald, ↓w_iast, ↓w_ic_ge, ↓w_iconst, ↓w_if_ne, ↓w_iinc, ↓w_iload_1, ↓w_iload_2, ↓w_iload_3, ↓w_iret, ↓w_istore_2, ↓w_istore_3, ↓li_0, ↓li_s, ↓lr_0, ↓lr_s, ↓gf_1_1, ↓gf_1_6, ↓rc_1, ↓ar_10, ↓w_c29, ↓wl_35_0, ↓wl_35_4, ↓wl_35_37, ↓wl_35_43, hs_wr, hs_cp, hs_s, hs_n, hs_hs, upd_s, upd_n, upd_upd, ne_eq, Nat.reduceEqDiff, c1_i, c1_r, c2_i, c2_r, ↓reduceIte, List.set_cons_zero, List.set_cons_succ, mm_cb, List.length_cons, List.length_nil, List.all_cons, List.all_nil, Nat.zero_add, Nat.reduceAdd, Nat.reduceLeDiff, Nat.zero_le, decide_true, Bool.and_self, Bool.and_true, true_and, and_true, forall_const, Bool.or_false, Bool.false_or, Bool.or_true, Bool.true_or, Bool.false_eq_true, Nat.reduceBEq, beq_self_eq_true, ha_11, ha_01, hb_10, hb_0x, imp_self, false_implies, not_true_eq_false, not_false_eq_true])
  have := lp 0 (Nat.zero_le _)
  have e : (fun j => if j < 0 ∧ (!frB (μ 11) (μ 12) t j) = true then (0 : Int32) else μ 10 j) = μ 10 := by
    funext j
    simp
  rw [e, hs_id] at this
  exact this
theorem q_anyRec {n b : Nat} (hN : μ 1 6 = nI n) (hn : n ≤ 60) (hb : b < 100) (h1 : (∃ j, j < n ∧ ¬ μ 13 j = 0 ∧ ¬ μ 34 (b * 60 + j) ≤ 0) → RI 1 μ) (h0 : (∀ j, j < n → ¬ μ 13 j = 0 → μ 34 (b * 60 + j) ≤ 0) → RI 0 μ) : mm_Cs hh_S 34 [.ref 1, .ref 34, .int (nI b * 60)] μ RI RV := by
  have lp := up_ind (n := n) (P := fun i => (∀ j, j < i → ¬ μ 13 j = 0 → μ 34 (b * 60 + j) ≤ 0) → mm_Rn hh_S 34 RI RV 2 [some (.ref 1), some (.ref 34), some (.int (nI b * 60)), some (.int (nI i))] [] μ) (fun i hi ih => by
    intro hno
    (refine mm_run ok_34 (fun t => t == 2) 9 ?_; rw [lb_34_2, rb_34]; simp only [↓w_aload_0, ↓w_aload_1, ↓w_bald, ↓w_fall, ↓w_getf, ↓w_goto, ↓w_iadd, ↓w_iald, ↓w_ic_ge, ↓w_iconst, ↓w_if_eq, ↓w_if_le, ↓w_iinc, ↓w_iload_2, ↓w_iload_3, ↓w_iret, ↓w_istore_3, ↓li_0, ↓li_s, ↓lr_0, ↓lr_s, ↓gf_1_4, ↓gf_1_6, ↓ar_13, ↓ar_27, ↓ar_34, ↓wl_34_0, ↓wl_34_2, ↓wl_34_29, ↓wl_34_35, hs_wr, hs_cp, hs_s, hs_n, hs_hs, upd_s, upd_n, upd_upd, ne_eq, Nat.reduceEqDiff, c1_i, c1_r, c2_i, c2_r, ↓reduceIte, List.set_cons_zero, List.set_cons_succ, mm_cb, List.length_cons, List.length_nil, List.all_cons, List.all_nil, Nat.zero_add, Nat.reduceAdd, Nat.reduceLeDiff, Nat.zero_le, decide_true, Bool.and_self, Bool.and_true, true_and, and_true, forall_const, Bool.or_false, Bool.false_or, Bool.or_true, Bool.true_or, Bool.false_eq_true, Nat.reduceBEq, beq_self_eq_true, ha_11, ha_01, hb_10, hb_0x, imp_self, false_implies, not_true_eq_false, not_false_eq_true])
    rw [hN, nI_cl (by omega), nI_1, ixm]
    refine ⟨fun c => ?_, fun c => ?_⟩
    · have := le_nI (by omega) (by omega) c
      rw [show i = n by omega] at hno
      exact h0 hno
    · have := nle_nI (by omega) (by omega) c
      refine ⟨in_nI (by omega) (by omega), fun q => ih (i + 1) (by omega) (by omega) ?_, fun q => ⟨in_nI (by omega) (by omega), fun r => ih (i + 1) (by omega) (by omega) ?_, fun r => h1 ⟨i, by omega, q, ?_⟩⟩⟩
      · intro j hj hr
        by_cases hji : j = i
        · subst hji; exact absurd q hr
        · exact hno j (by omega) hr
      · rw [nI_cl (by omega)] at r
        intro j hj hr
        by_cases hji : j = i
        · subst hji; exact r
        · exact hno j (by omega) hr
      · rw [nI_cl (by omega)] at r
        exact r)
  refine mm_in rfl (Nat.le_of_ble_eq_true rfl) ?_
  show mm_Rn hh_S 34 RI RV 0 [some (.ref 1), some (.ref 34), some (.int (nI b * 60)), none] [] μ
  (refine mm_run ok_34 (fun t => t == 2) 9 ?_; rw [lb_34_0, rb_34]; simp only [↓w_aload_0, ↓w_aload_1, ↓w_bald, ↓w_fall, ↓w_getf, ↓w_goto, ↓w_iadd, ↓w_iald, ↓w_ic_ge, ↓w_iconst, ↓w_if_eq, ↓w_if_le, ↓w_iinc, ↓w_iload_2, ↓w_iload_3, ↓w_iret, ↓w_istore_3, ↓li_0, ↓li_s, ↓lr_0, ↓lr_s, ↓gf_1_4, ↓gf_1_6, ↓ar_13, ↓ar_27, ↓ar_34, ↓wl_34_0, ↓wl_34_2, ↓wl_34_29, ↓wl_34_35, hs_wr, hs_cp, hs_s, hs_n, hs_hs, upd_s, upd_n, upd_upd, ne_eq, Nat.reduceEqDiff, c1_i, c1_r, c2_i, c2_r, ↓reduceIte, List.set_cons_zero, List.set_cons_succ, mm_cb, List.length_cons, List.length_nil, List.all_cons, List.all_nil, Nat.zero_add, Nat.reduceAdd, Nat.reduceLeDiff, Nat.zero_le, decide_true, Bool.and_self, Bool.and_true, true_and, and_true, forall_const, Bool.or_false, Bool.false_or, Bool.or_true, Bool.true_or, Bool.false_eq_true, Nat.reduceBEq, beq_self_eq_true, ha_11, ha_01, hb_10, hb_0x, imp_self, false_implies, not_true_eq_false, not_false_eq_true])
  exact lp 0 (Nat.zero_le _) (fun j hj => by omega)
theorem q_isFree {j : Nat} (hj : j < 3) (h1 : μ 23 j = -1 → RI 1 μ) (h0 : ¬ μ 23 j = -1 → RI 0 μ) : mm_Cs hh_S 12 [.ref 4, .int (nI j)] μ RI RV := by
  refine mm_in rfl (Nat.le_of_ble_eq_true rfl) ?_
  show mm_Rn hh_S 12 RI RV 0 [some (.ref 4), some (.int (nI j))] [] μ
  (refine mm_run ok_12 (fun t => false) 9 ?_; rw [lb_12_0, rb_12]; simp only [↓w_aload_0, ↓w_fall, ↓w_getf, ↓w_goto, ↓w_iald, ↓w_ic_ne, ↓w_iconst, ↓w_iload_1, ↓w_iret, ↓li_0, ↓li_s, ↓lr_0, ↓lr_s, ↓gf_4_0, ↓ar_23, ↓wl_12_0, ↓wl_12_14, ↓wl_12_15, hs_wr, hs_cp, hs_s, hs_n, hs_hs, upd_s, upd_n, upd_upd, ne_eq, Nat.reduceEqDiff, c1_i, c1_r, c2_i, c2_r, ↓reduceIte, List.set_cons_zero, List.set_cons_succ, mm_cb, List.length_cons, List.length_nil, List.all_cons, List.all_nil, Nat.zero_add, Nat.reduceAdd, Nat.reduceLeDiff, Nat.zero_le, decide_true, Bool.and_self, Bool.and_true, true_and, and_true, forall_const, Bool.or_false, Bool.false_or, Bool.or_true, Bool.true_or, Bool.false_eq_true, Nat.reduceBEq, beq_self_eq_true, ha_11, ha_01, hb_10, hb_0x, imp_self, false_implies, not_true_eq_false, not_false_eq_true])
  rw [nI_cl (by omega)]
  exact ⟨in_nI hj (by omega), h0, h1⟩
def chB (kd : Nat → Int32) (j : Nat) : Bool := decide (¬ kd j = -1)
theorem q_charges (h : RI (su (fun j => if chB (μ 23) j = true then 1 else 0) 3) μ) : mm_Cs hh_S 13 [.ref 4] μ RI RV := by
  have lp := up_ind (n := 3) (P := fun i => mm_Rn hh_S 13 RI RV 4 [some (.ref 4), some (.int (su (fun j => if chB (μ 23) j = true then 1 else 0) i)), some (.int (nI i))] [] μ) (fun i hi ih => by
    (refine mm_run ok_13 (fun t => t == 4) 9 ?_; rw [lb_13_4, rb_13]; simp only [↓w_aload_0, ↓w_fall, ↓w_goto, ↓w_iadd, ↓w_ic_ge, ↓w_iconst, ↓w_if_ne, ↓w_iinc, ↓w_iload_1, ↓w_iload_2, ↓w_iret, ↓w_istore_1, ↓w_istore_2, ↓li_0, ↓li_s, ↓lr_0, ↓lr_s, ↓rc_4, ↓w_c12, ↓w_c66, ↓wl_13_0, ↓wl_13_4, ↓wl_13_22, ↓wl_13_23, ↓wl_13_34, hs_wr, hs_cp, hs_s, hs_n, hs_hs, upd_s, upd_n, upd_upd, ne_eq, Nat.reduceEqDiff, c1_i, c1_r, c2_i, c2_r, ↓reduceIte, List.set_cons_zero, List.set_cons_succ, mm_cb, List.length_cons, List.length_nil, List.all_cons, List.all_nil, Nat.zero_add, Nat.reduceAdd, Nat.reduceLeDiff, Nat.zero_le, decide_true, Bool.and_self, Bool.and_true, true_and, and_true, forall_const, Bool.or_false, Bool.false_or, Bool.or_true, Bool.true_or, Bool.false_eq_true, Nat.reduceBEq, beq_self_eq_true, ha_11, ha_01, hb_10, hb_0x, imp_self, false_implies, not_true_eq_false, not_false_eq_true])
    rw [show (3 : Int32) = nI 3 from rfl, nI_1]
    refine ⟨fun c => ?_, fun c => ?_⟩
    · have := le_nI (by omega) (by omega) c
      rw [show i = 3 by omega]
      exact h
    · have := nle_nI (by omega) (by omega) c
      have hc : ∀ i, chB (μ 23) i = true ↔ ¬ μ 23 i = -1 := fun i => decide_eq_true_iff
      refine q_isFree (by omega) (fun u => br1n ?_) (fun u => br0n ?_)
      · refine q_bit ?_
        rw [if_pos rfl, Int32.add_zero, ← su_if_f (f := fun _ => 1) (p := chB (μ 23)) (by rw [hc]; exact fun z => z u)]
        exact ih (i + 1) (by omega) (by omega)
      · refine q_bit ?_
        rw [if_neg (by decide), ← su_if_t (f := fun _ => 1) (p := chB (μ 23)) (by rw [hc]; exact u)]
        exact ih (i + 1) (by omega) (by omega))
  refine mm_in rfl (Nat.le_of_ble_eq_true rfl) ?_
  show mm_Rn hh_S 13 RI RV 0 [some (.ref 4), none, none] [] μ
  (refine mm_run ok_13 (fun t => t == 4) 9 ?_; rw [lb_13_0, rb_13]; simp only [↓w_aload_0, ↓w_fall, ↓w_goto, ↓w_iadd, ↓w_ic_ge, ↓w_iconst, ↓w_if_ne, ↓w_iinc, ↓w_iload_1, ↓w_iload_2, ↓w_iret, ↓w_istore_1, ↓w_istore_2, ↓li_0, ↓li_s, ↓lr_0, ↓lr_s, ↓rc_4, ↓w_c12, ↓w_c66, ↓wl_13_0, ↓wl_13_4, ↓wl_13_22, ↓wl_13_23, ↓wl_13_34, hs_wr, hs_cp, hs_s, hs_n, hs_hs, upd_s, upd_n, upd_upd, ne_eq, Nat.reduceEqDiff, c1_i, c1_r, c2_i, c2_r, ↓reduceIte, List.set_cons_zero, List.set_cons_succ, mm_cb, List.length_cons, List.length_nil, List.all_cons, List.all_nil, Nat.zero_add, Nat.reduceAdd, Nat.reduceLeDiff, Nat.zero_le, decide_true, Bool.and_self, Bool.and_true, true_and, and_true, forall_const, Bool.or_false, Bool.false_or, Bool.or_true, Bool.true_or, Bool.false_eq_true, Nat.reduceBEq, beq_self_eq_true, ha_11, ha_01, hb_10, hb_0x, imp_self, false_implies, not_true_eq_false, not_false_eq_true])
  exact lp 0 (Nat.zero_le _)
theorem q_allKg (h : RI (su (μ 26) 3) μ) : mm_Cs hh_S 14 [.ref 4] μ RI RV := by
  have lp := up_ind (n := 3) (P := fun i => mm_Rn hh_S 14 RI RV 4 [some (.ref 4), some (.int (su (μ 26) i)), some (.int (nI i))] [] μ) (fun i hi ih => by
    (refine mm_run ok_14 (fun t => t == 4) 9 ?_; rw [lb_14_4, rb_14]; simp only [↓w_aload_0, ↓w_fall, ↓w_getf, ↓w_goto, ↓w_iadd, ↓w_iald, ↓w_ic_ge, ↓w_iconst, ↓w_iinc, ↓w_iload_1, ↓w_iload_2, ↓w_iret, ↓w_istore_1, ↓w_istore_2, ↓li_0, ↓li_s, ↓lr_0, ↓lr_s, ↓gf_4_3, ↓ar_26, ↓wl_14_0, ↓wl_14_4, ↓wl_14_24, hs_wr, hs_cp, hs_s, hs_n, hs_hs, upd_s, upd_n, upd_upd, ne_eq, Nat.reduceEqDiff, c1_i, c1_r, c2_i, c2_r, ↓reduceIte, List.set_cons_zero, List.set_cons_succ, mm_cb, List.length_cons, List.length_nil, List.all_cons, List.all_nil, Nat.zero_add, Nat.reduceAdd, Nat.reduceLeDiff, Nat.zero_le, decide_true, Bool.and_self, Bool.and_true, true_and, and_true, forall_const, Bool.or_false, Bool.false_or, Bool.or_true, Bool.true_or, Bool.false_eq_true, Nat.reduceBEq, beq_self_eq_true, ha_11, ha_01, hb_10, hb_0x, imp_self, false_implies, not_true_eq_false, not_false_eq_true])
    rw [show (3 : Int32) = nI 3 from rfl, nI_cl (by omega), nI_1]
    refine ⟨fun c => ?_, fun c => ?_⟩
    · have := le_nI (by omega) (by omega) c
      rw [show i = 3 by omega]
      exact h
    · have := nle_nI (by omega) (by omega) c
      exact ⟨in_nI (by omega) (by omega), ih (i + 1) (by omega) (by omega)⟩)
  refine mm_in rfl (Nat.le_of_ble_eq_true rfl) ?_
  show mm_Rn hh_S 14 RI RV 0 [some (.ref 4), none, none] [] μ
  (refine mm_run ok_14 (fun t => t == 4) 9 ?_; rw [lb_14_0, rb_14]; simp only [↓w_aload_0, ↓w_fall, ↓w_getf, ↓w_goto, ↓w_iadd, ↓w_iald, ↓w_ic_ge, ↓w_iconst, ↓w_iinc, ↓w_iload_1, ↓w_iload_2, ↓w_iret, ↓w_istore_1, ↓w_istore_2, ↓li_0, ↓li_s, ↓lr_0, ↓lr_s, ↓gf_4_3, ↓ar_26, ↓wl_14_0, ↓wl_14_4, ↓wl_14_24, hs_wr, hs_cp, hs_s, hs_n, hs_hs, upd_s, upd_n, upd_upd, ne_eq, Nat.reduceEqDiff, c1_i, c1_r, c2_i, c2_r, ↓reduceIte, List.set_cons_zero, List.set_cons_succ, mm_cb, List.length_cons, List.length_nil, List.all_cons, List.all_nil, Nat.zero_add, Nat.reduceAdd, Nat.reduceLeDiff, Nat.zero_le, decide_true, Bool.and_self, Bool.and_true, true_and, and_true, forall_const, Bool.or_false, Bool.false_or, Bool.or_true, Bool.true_or, Bool.false_eq_true, Nat.reduceBEq, beq_self_eq_true, ha_11, ha_01, hb_10, hb_0x, imp_self, false_implies, not_true_eq_false, not_false_eq_true])
  exact lp 0 (Nat.zero_le _)
theorem q_fill {j : Nat} (hj : j < 3) {a b c d : Int32} (h : RV (hs (hs (hs (hs μ 23 (upd (μ 23) j a)) 24 (upd (μ 24) j b)) 26 (upd (μ 26) j c)) 25 (upd (μ 25) j d))) : mm_Cs hh_S 15 [.ref 4, .int (nI j), .int a, .int b, .int c, .int d] μ RI RV := by
  have hi := in_nI hj (by omega)
  refine mm_in rfl (Nat.le_of_ble_eq_true rfl) ?_
  show mm_Rn hh_S 15 RI RV 0 [some (.ref 4), some (.int (nI j)), some (.int a), some (.int b), some (.int c), some (.int d)] [] μ
  (refine mm_run ok_15 (fun t => false) 9 ?_; rw [lb_15_0, rb_15]; simp only [↓w_aload_0, ↓w_getf, ↓w_iast, ↓w_iload, ↓w_iload_1, ↓w_iload_2, ↓w_iload_3, ↓w_vret, ↓li_0, ↓li_s, ↓lr_0, ↓lr_s, ↓gf_4_0, ↓gf_4_1, ↓gf_4_2, ↓gf_4_3, ↓ar_23, ↓ar_24, ↓ar_25, ↓ar_26, ↓wl_15_0, hs_wr, hs_cp, hs_s, hs_n, hs_hs, upd_s, upd_n, upd_upd, ne_eq, Nat.reduceEqDiff, c1_i, c1_r, c2_i, c2_r, ↓reduceIte, List.set_cons_zero, List.set_cons_succ, mm_cb, List.length_cons, List.length_nil, List.all_cons, List.all_nil, Nat.zero_add, Nat.reduceAdd, Nat.reduceLeDiff, Nat.zero_le, decide_true, Bool.and_self, Bool.and_true, true_and, and_true, forall_const, Bool.or_false, Bool.false_or, Bool.or_true, Bool.true_or, Bool.false_eq_true, Nat.reduceBEq, beq_self_eq_true, ha_11, ha_01, hb_10, hb_0x, imp_self, false_implies, not_true_eq_false, not_false_eq_true])
  rw [nI_cl (by omega)]
  exact ⟨hi, hi, hi, hi, h⟩
/-- a cooker's row of fish, emptied -/
def rw0 (f : Nat → Int32) (c n : Nat) : Nat → Int32 := fun k => if c * 60 ≤ k ∧ k < c * 60 + n then 0 else f k
theorem rw0_0 {f : Nat → Int32} {c : Nat} : rw0 f c 0 = f := by
  funext k
  unfold rw0
  rw [if_neg (by omega)]
theorem rw0_s {f : Nat → Int32} {c n : Nat} : upd (rw0 f c n) (c * 60 + n) 0 = rw0 f c (n + 1) := by
  funext k
  unfold rw0 upd
  by_cases h : k = c * 60 + n
  · rw [if_pos h, if_pos (by omega)]
  · rw [if_neg h]
    simp only [show (c * 60 ≤ k ∧ k < c * 60 + n) = (c * 60 ≤ k ∧ k < c * 60 + (n + 1)) by apply propext; omega]
theorem q_empty {j : Nat} (hj : j < 3) (h : RV (hs (hs (hs (hs (hs μ 23 (upd (μ 23) j (-1))) 24 (upd (μ 24) j 0)) 26 (upd (μ 26) j 0)) 25 (upd (μ 25) j (-1))) 27 (rw0 (μ 27) j 60))) : mm_Cs hh_S 16 [.ref 4, .int (nI j)] μ RI RV := by
  refine mm_in rfl (Nat.le_of_ble_eq_true rfl) ?_
  show mm_Rn hh_S 16 RI RV 0 [some (.ref 4), some (.int (nI j)), none] [] μ
  (refine mm_run ok_16 (fun t => t == 11) 9 ?_; rw [lb_16_0, rb_16]; simp only [↓w_aload_0, ↓w_bipush, ↓w_fall, ↓w_getf, ↓w_goto, ↓w_iadd, ↓w_iast, ↓w_ic_ge, ↓w_iconst, ↓w_iinc, ↓w_iload_1, ↓w_iload_2, ↓w_imul, ↓w_istore_2, ↓w_vret, ↓li_0, ↓li_s, ↓lr_0, ↓lr_s, ↓gf_4_4, ↓rc_4, ↓ar_27, ↓w_c15, ↓wl_16_0, ↓wl_16_11, ↓wl_16_35, hs_wr, hs_cp, hs_s, hs_n, hs_hs, upd_s, upd_n, upd_upd, ne_eq, Nat.reduceEqDiff, c1_i, c1_r, c2_i, c2_r, ↓reduceIte, List.set_cons_zero, List.set_cons_succ, mm_cb, List.length_cons, List.length_nil, List.all_cons, List.all_nil, Nat.zero_add, Nat.reduceAdd, Nat.reduceLeDiff, Nat.zero_le, decide_true, Bool.and_self, Bool.and_true, true_and, and_true, forall_const, Bool.or_false, Bool.false_or, Bool.or_true, Bool.true_or, Bool.false_eq_true, Nat.reduceBEq, beq_self_eq_true, ha_11, ha_01, hb_10, hb_0x, imp_self, false_implies, not_true_eq_false, not_false_eq_true])
  refine q_fill hj ?_
  have hf : μ 27 = (hs (hs (hs (hs μ 23 (upd (μ 23) j (-1))) 24 (upd (μ 24) j 0)) 26 (upd (μ 26) j 0)) 25 (upd (μ 25) j (-1))) 27 := by
    simp only [hs_n, ne_eq, Nat.reduceEqDiff, not_false_eq_true]
  rw [hf] at h
  generalize (hs (hs (hs (hs μ 23 (upd (μ 23) j (-1))) 24 (upd (μ 24) j 0)) 26 (upd (μ 26) j 0)) 25 (upd (μ 25) j (-1))) = ν at h ⊢
  have lp := up_ind (n := 60) (P := fun i => mm_Rn hh_S 16 RI RV 11 [some (.ref 4), some (.int (nI j)), some (.int (nI i))] [] (hs ν 27 (rw0 (ν 27) j i))) (fun i hi ih => by
    (refine mm_run ok_16 (fun t => t == 11) 9 ?_; rw [lb_16_11, rb_16]; simp only [↓w_aload_0, ↓w_bipush, ↓w_fall, ↓w_getf, ↓w_goto, ↓w_iadd, ↓w_iast, ↓w_ic_ge, ↓w_iconst, ↓w_iinc, ↓w_iload_1, ↓w_iload_2, ↓w_imul, ↓w_istore_2, ↓w_vret, ↓li_0, ↓li_s, ↓lr_0, ↓lr_s, ↓gf_4_4, ↓rc_4, ↓ar_27, ↓w_c15, ↓wl_16_0, ↓wl_16_11, ↓wl_16_35, hs_wr, hs_cp, hs_s, hs_n, hs_hs, upd_s, upd_n, upd_upd, ne_eq, Nat.reduceEqDiff, c1_i, c1_r, c2_i, c2_r, ↓reduceIte, List.set_cons_zero, List.set_cons_succ, mm_cb, List.length_cons, List.length_nil, List.all_cons, List.all_nil, Nat.zero_add, Nat.reduceAdd, Nat.reduceLeDiff, Nat.zero_le, decide_true, Bool.and_self, Bool.and_true, true_and, and_true, forall_const, Bool.or_false, Bool.false_or, Bool.or_true, Bool.true_or, Bool.false_eq_true, Nat.reduceBEq, beq_self_eq_true, ha_11, ha_01, hb_10, hb_0x, imp_self, false_implies, not_true_eq_false, not_false_eq_true])
    rw [ixm, nI_cl (by omega), nI_1, rw0_s, show (60 : Int32) = nI 60 from rfl]
    refine ⟨fun c => ?_, fun c => ?_⟩
    · have := le_nI (by omega) (by omega) c
      rw [show i = 60 by omega]
      exact h
    · have := nle_nI (by omega) (by omega) c
      exact ⟨in_nI (by omega) (by omega), ih (i + 1) (by omega) (by omega)⟩)
  have := lp 0 (Nat.zero_le _)
  rw [rw0_0, hs_id] at this
  exact this
/-- a crew is gone -/
def goB (wc co : Nat → Int32) (t : Int32) (j : Nat) : Bool := decide (wc j = 0) || decide (¬ t < co j + 8)
theorem q_isGone {j : Nat} (hj : j < 3) {t : Int32} (h1 : goB (μ 21) (μ 22) t j = true → RI 1 μ) (h0 : ¬ goB (μ 21) (μ 22) t j = true → RI 0 μ) : mm_Cs hh_S 17 [.ref 3, .int (nI j), .int t] μ RI RV := by
  have hi := in_nI hj (by omega)
  refine mm_in rfl (Nat.le_of_ble_eq_true rfl) ?_
  show mm_Rn hh_S 17 RI RV 0 [some (.ref 3), some (.int (nI j)), some (.int t)] [] μ
  (refine mm_run ok_17 (fun t => false) 9 ?_; rw [lb_17_0, rb_17]; simp only [↓w_aload_0, ↓w_bald, ↓w_bipush, ↓w_fall, ↓w_getf, ↓w_goto, ↓w_iadd, ↓w_iald, ↓w_ic_lt, ↓w_iconst, ↓w_if_eq, ↓w_iload_1, ↓w_iload_2, ↓w_iret, ↓li_0, ↓li_s, ↓lr_0, ↓lr_s, ↓gf_3_0, ↓gf_3_1, ↓ar_21, ↓ar_22, ↓wl_17_0, ↓wl_17_22, ↓wl_17_26, ↓wl_17_27, hs_wr, hs_cp, hs_s, hs_n, hs_hs, upd_s, upd_n, upd_upd, ne_eq, Nat.reduceEqDiff, c1_i, c1_r, c2_i, c2_r, ↓reduceIte, List.set_cons_zero, List.set_cons_succ, mm_cb, List.length_cons, List.length_nil, List.all_cons, List.all_nil, Nat.zero_add, Nat.reduceAdd, Nat.reduceLeDiff, Nat.zero_le, decide_true, Bool.and_self, Bool.and_true, true_and, and_true, forall_const, Bool.or_false, Bool.false_or, Bool.or_true, Bool.true_or, Bool.false_eq_true, Nat.reduceBEq, beq_self_eq_true, ha_11, ha_01, hb_10, hb_0x, imp_self, false_implies, not_true_eq_false, not_false_eq_true])
  rw [nI_cl (by omega)]
  unfold goB at h1 h0
  simp only [Bool.or_eq_true, decide_eq_true_eq] at h1 h0
  exact ⟨hi, fun q => h1 (Or.inl q), fun q => ⟨hi, fun r => h0 (fun z => z.elim q (fun w => w r)), fun r => h1 (Or.inr r)⟩⟩
def thB (wc co : Nat → Int32) (t : Int32) (j : Nat) : Bool := !goB wc co t j && decide (¬ t < co j)
theorem q_thereC {t : Int32} (h : RI (su (fun j => if thB (μ 21) (μ 22) t j = true then 1 else 0) 3) μ) : mm_Cs hh_S 18 [.ref 3, .int t] μ RI RV := by
  have lp := up_ind (n := 3) (P := fun i => mm_Rn hh_S 18 RI RV 4 [some (.ref 3), some (.int t), some (.int (su (fun j => if thB (μ 21) (μ 22) t j = true then 1 else 0) i)), some (.int (nI i))] [] μ) (fun i hi ih => by
    (refine mm_run ok_18 (fun t => t == 4) 9 ?_; rw [lb_18_4, rb_18]; simp only [↓w_aload_0, ↓w_fall, ↓w_getf, ↓w_goto, ↓w_iald, ↓w_ic_ge, ↓w_ic_lt, ↓w_iconst, ↓w_if_ne, ↓w_iinc, ↓w_iload_1, ↓w_iload_2, ↓w_iload_3, ↓w_iret, ↓w_istore_2, ↓w_istore_3, ↓li_0, ↓li_s, ↓lr_0, ↓lr_s, ↓gf_3_1, ↓rc_3, ↓ar_22, ↓w_c17, ↓wl_18_0, ↓wl_18_4, ↓wl_18_31, ↓wl_18_37, hs_wr, hs_cp, hs_s, hs_n, hs_hs, upd_s, upd_n, upd_upd, ne_eq, Nat.reduceEqDiff, c1_i, c1_r, c2_i, c2_r, ↓reduceIte, List.set_cons_zero, List.set_cons_succ, mm_cb, List.length_cons, List.length_nil, List.all_cons, List.all_nil, Nat.zero_add, Nat.reduceAdd, Nat.reduceLeDiff, Nat.zero_le, decide_true, Bool.and_self, Bool.and_true, true_and, and_true, forall_const, Bool.or_false, Bool.false_or, Bool.or_true, Bool.true_or, Bool.false_eq_true, Nat.reduceBEq, beq_self_eq_true, ha_11, ha_01, hb_10, hb_0x, imp_self, false_implies, not_true_eq_false, not_false_eq_true])
    rw [show (3 : Int32) = nI 3 from rfl, nI_cl (by omega), nI_1]
    refine ⟨fun c => ?_, fun c => ?_⟩
    · have := le_nI (by omega) (by omega) c
      rw [show i = 3 by omega]
      exact h
    · have := nle_nI (by omega) (by omega) c
      refine q_isGone (by omega) (fun u => br1n ?_) (fun u => br0n ⟨in_nI (by omega) (by omega), fun q => ?_, fun q => ?_⟩)
      · rw [← su_if_f (f := fun _ => 1) (p := thB (μ 21) (μ 22) t) (by simp [thB, u])]
        exact ih (i + 1) (by omega) (by omega)
      · rw [← su_if_f (f := fun _ => 1) (p := thB (μ 21) (μ 22) t) (by simp [thB, q])]
        exact ih (i + 1) (by omega) (by omega)
      · have hu : goB (μ 21) (μ 22) t i = false := by simpa using u
        rw [← su_if_t (f := fun _ => 1) (p := thB (μ 21) (μ 22) t) (by unfold thB; rw [hu]; simp [q])]
        exact ih (i + 1) (by omega) (by omega))
  refine mm_in rfl (Nat.le_of_ble_eq_true rfl) ?_
  show mm_Rn hh_S 18 RI RV 0 [some (.ref 3), some (.int t), none, none] [] μ
  (refine mm_run ok_18 (fun t => t == 4) 9 ?_; rw [lb_18_0, rb_18]; simp only [↓w_aload_0, ↓w_fall, ↓w_getf, ↓w_goto, ↓w_iald, ↓w_ic_ge, ↓w_ic_lt, ↓w_iconst, ↓w_if_ne, ↓w_iinc, ↓w_iload_1, ↓w_iload_2, ↓w_iload_3, ↓w_iret, ↓w_istore_2, ↓w_istore_3, ↓li_0, ↓li_s, ↓lr_0, ↓lr_s, ↓gf_3_1, ↓rc_3, ↓ar_22, ↓w_c17, ↓wl_18_0, ↓wl_18_4, ↓wl_18_31, ↓wl_18_37, hs_wr, hs_cp, hs_s, hs_n, hs_hs, upd_s, upd_n, upd_upd, ne_eq, Nat.reduceEqDiff, c1_i, c1_r, c2_i, c2_r, ↓reduceIte, List.set_cons_zero, List.set_cons_succ, mm_cb, List.length_cons, List.length_nil, List.all_cons, List.all_nil, Nat.zero_add, Nat.reduceAdd, Nat.reduceLeDiff, Nat.zero_le, decide_true, Bool.and_self, Bool.and_true, true_and, and_true, forall_const, Bool.or_false, Bool.false_or, Bool.or_true, Bool.true_or, Bool.false_eq_true, Nat.reduceBEq, beq_self_eq_true, ha_11, ha_01, hb_10, hb_0x, imp_self, false_implies, not_true_eq_false, not_false_eq_true])
  exact lp 0 (Nat.zero_le _)
end C2
