/-! branches on a boolean answer -/
theorem br1 {X Y : Prop} (h : Y) : ((1 : Int32) = 0 → X) ∧ (¬ (1 : Int32) = 0 → Y) := ⟨fun e => absurd e (by decide), fun _ => h⟩
theorem br0 {X Y : Prop} (h : X) : ((0 : Int32) = 0 → X) ∧ (¬ (0 : Int32) = 0 → Y) := ⟨fun _ => h, fun e => absurd rfl e⟩
theorem br1n {X Y : Prop} (h : X) : (¬ (1 : Int32) = 0 → X) ∧ ((1 : Int32) = 0 → Y) := ⟨fun _ => h, fun e => absurd e (by decide)⟩
theorem br0n {X Y : Prop} (h : Y) : (¬ (0 : Int32) = 0 → X) ∧ ((0 : Int32) = 0 → Y) := ⟨fun e => absurd rfl e, fun _ => h⟩
theorem ba1 : (1 : Int32) &&& 1 = 1 := by decide
theorem ba0 : (0 : Int32) &&& 1 = 0 := by decide
theorem ix_of {x : Int32} {n : Nat} (hn : n ≤ 1000000) (h1 : 0 ≤ x) (h2 : x ≤ nI n - 1) : ∃ j, j < n ∧ x = nI j := by
  rw [i_le, i_0] at h1
  rw [i_le, i_sub (by rw [i_nI (by omega), i_1]; omega) (by rw [i_nI (by omega), i_1]; omega), i_nI (by omega), i_1] at h2
  exact ⟨x.toInt.toNat, by omega, i_of h1⟩
theorem ix_no {x : Int32} {n : Nat} (hn : n ≤ 1000000) (h : ¬ (0 ≤ x ∧ x ≤ nI n - 1)) : ∀ j, j < n → ¬ x = nI j := by
  intro j hj e
  apply h
  rw [e]
  rw [i_le, i_0, i_le, i_sub (by rw [i_nI (by omega), i_1]; omega) (by rw [i_nI (by omega), i_1]; omega), i_nI (by omega), i_nI (by omega), i_1]
  omega
/-- an index between two literals -/
theorem ix_lit {x a b : Int32} {n : Nat} (ha : a.toInt = 0) (hb : b.toInt + 1 = n) (h1 : a ≤ x) (h2 : x ≤ b) : ∃ j, j < n ∧ x = nI j := by
  rw [i_le, ha] at h1
  rw [i_le] at h2
  exact ⟨x.toInt.toNat, by omega, i_of h1⟩
theorem ix_nlit {x a b : Int32} {n : Nat} (ha : a.toInt = 0) (hb : b.toInt + 1 = n) (h : ¬ (a ≤ x ∧ x ≤ b)) : ∀ j, j < n → ¬ x = nI j := by
  intro j hj e
  apply h
  have := i_hi b
  rw [e, i_le, i_le, ha, i_nI (by omega)]
  omega
theorem le_nI {a b : Nat} (ha : a < 2147483648) (hb : b < 2147483648) (h : nI a ≤ nI b) : a ≤ b := by
  rw [i_le, i_nI ha, i_nI hb] at h
  omega
theorem nle_nI {a b : Nat} (ha : a < 2147483648) (hb : b < 2147483648) (h : ¬ nI a ≤ nI b) : b < a := by
  rw [i_le, i_nI ha, i_nI hb] at h
  omega
theorem in_nI {i n : Nat} (h : i < n) (hn : n < 2147483648) : vp_in (nI i) n := vp_in_nI h (by omega)
section C1
variable {μ : mm_M} {RI : Int32 → mm_M → Prop} {RV : mm_M → Prop}
theorem q_within {x a b : Int32} (h1 : a ≤ x → x ≤ b → RI 1 μ) (h0 : ¬ (a ≤ x ∧ x ≤ b) → RI 0 μ) : mm_Cs hh_S 65 [.int x, .int a, .int b] μ RI RV := by
  refine mm_in rfl (Nat.le_of_ble_eq_true rfl) ?_
  show mm_Rn hh_S 65 RI RV 0 [some (.int x), some (.int a), some (.int b)] [] μ
  (refine mm_run ok_65 (fun t => false) 5 ?_; rw [lb_65_0, rb_65]; simp only [↓w_fall, ↓w_goto, ↓w_ic_gt, ↓w_ic_lt, ↓w_iconst, ↓w_iload_0, ↓w_iload_1, ↓w_iload_2, ↓w_iret, ↓li_0, ↓li_s, ↓lr_0, ↓lr_s, ↓wl_65_0, ↓wl_65_14, ↓wl_65_15, hs_wr, hs_cp, hs_s, hs_n, hs_hs, upd_s, upd_n, upd_upd, ne_eq, Nat.reduceEqDiff, c1_i, c1_r, c2_i, c2_r, ↓reduceIte, List.set_cons_zero, List.set_cons_succ, mm_cb, List.length_cons, List.length_nil, List.all_cons, List.all_nil, Nat.zero_add, Nat.reduceAdd, Nat.reduceLeDiff, Nat.zero_le, decide_true, Bool.and_self, Bool.and_true, true_and, and_true, forall_const, Bool.or_false, Bool.false_or, Bool.or_true, Bool.true_or, Bool.false_eq_true, Nat.reduceBEq, beq_self_eq_true, ha_11, ha_01, hb_10, hb_0x, imp_self, false_implies, not_true_eq_false, not_false_eq_true])
  refine ⟨fun c => h0 (fun q => ?_), fun c => ⟨fun d => h0 (fun q => ?_), fun d => h1 ?_ ?_⟩⟩ <;> simp only [i_le, i_lt] at * <;> omega
theorem q_in {x a b : Int32} (h1 : a ≤ x → x ≤ b → RI 1 μ) (h0 : ¬ (a ≤ x ∧ x ≤ b) → RI 0 μ) : mm_Cs hh_S 68 [.int x, .int a, .int b] μ RI RV := by
  refine mm_in rfl (Nat.le_of_ble_eq_true rfl) ?_
  show mm_Rn hh_S 68 RI RV 0 [some (.int x), some (.int a), some (.int b)] [] μ
  (refine mm_run ok_68 (fun t => false) 5 ?_; rw [lb_68_0, rb_68]; simp only [↓w_fall, ↓w_goto, ↓w_ic_gt, ↓w_ic_lt, ↓w_iconst, ↓w_iload_0, ↓w_iload_1, ↓w_iload_2, ↓w_iret, ↓li_0, ↓li_s, ↓lr_0, ↓lr_s, ↓wl_68_0, ↓wl_68_14, ↓wl_68_15, hs_wr, hs_cp, hs_s, hs_n, hs_hs, upd_s, upd_n, upd_upd, ne_eq, Nat.reduceEqDiff, c1_i, c1_r, c2_i, c2_r, ↓reduceIte, List.set_cons_zero, List.set_cons_succ, mm_cb, List.length_cons, List.length_nil, List.all_cons, List.all_nil, Nat.zero_add, Nat.reduceAdd, Nat.reduceLeDiff, Nat.zero_le, decide_true, Bool.and_self, Bool.and_true, true_and, and_true, forall_const, Bool.or_false, Bool.false_or, Bool.or_true, Bool.true_or, Bool.false_eq_true, Nat.reduceBEq, beq_self_eq_true, ha_11, ha_01, hb_10, hb_0x, imp_self, false_implies, not_true_eq_false, not_false_eq_true])
  refine ⟨fun c => h0 (fun q => ?_), fun c => ⟨fun d => h0 (fun q => ?_), fun d => h1 ?_ ?_⟩⟩ <;> simp only [i_le, i_lt] at * <;> omega
theorem q_bit {x : Int32} (h : RI (if x = 0 then 0 else 1) μ) : mm_Cs hh_S 66 [.int x] μ RI RV := by
  refine mm_in rfl (Nat.le_of_ble_eq_true rfl) ?_
  show mm_Rn hh_S 66 RI RV 0 [some (.int x)] [] μ
  (refine mm_run ok_66 (fun t => false) 5 ?_; rw [lb_66_0, rb_66]; simp only [↓w_fall, ↓w_goto, ↓w_iconst, ↓w_if_eq, ↓w_iload_0, ↓w_iret, ↓li_0, ↓li_s, ↓lr_0, ↓lr_s, ↓wl_66_0, ↓wl_66_8, ↓wl_66_9, hs_wr, hs_cp, hs_s, hs_n, hs_hs, upd_s, upd_n, upd_upd, ne_eq, Nat.reduceEqDiff, c1_i, c1_r, c2_i, c2_r, ↓reduceIte, List.set_cons_zero, List.set_cons_succ, mm_cb, List.length_cons, List.length_nil, List.all_cons, List.all_nil, Nat.zero_add, Nat.reduceAdd, Nat.reduceLeDiff, Nat.zero_le, decide_true, Bool.and_self, Bool.and_true, true_and, and_true, forall_const, Bool.or_false, Bool.false_or, Bool.or_true, Bool.true_or, Bool.false_eq_true, Nat.reduceBEq, beq_self_eq_true, ha_11, ha_01, hb_10, hb_0x, imp_self, false_implies, not_true_eq_false, not_false_eq_true])
  by_cases hx : x = 0
  · rw [if_pos hx] at h
    exact ⟨fun _ => h, fun q => absurd hx q⟩
  · rw [if_neg hx] at h
    exact ⟨fun q => absurd q hx, fun _ => h⟩
theorem q_hasLot {x : Int32} {n : Nat} (hN : μ 1 6 = nI n) (hn : n ≤ 60) (h1 : ∀ j, j < n → x = nI j → RI 1 μ) (h0 : (∀ j, j < n → ¬ x = nI j) → RI 0 μ) : mm_Cs hh_S 26 [.ref 1, .int x] μ RI RV := by
  refine mm_in rfl (Nat.le_of_ble_eq_true rfl) ?_
  show mm_Rn hh_S 26 RI RV 0 [some (.ref 1), some (.int x)] [] μ
  (refine mm_run ok_26 (fun t => false) 5 ?_; rw [lb_26_0, rb_26]; simp only [↓w_aload_0, ↓w_getf, ↓w_iconst, ↓w_iload_1, ↓w_iret, ↓w_isub, ↓li_0, ↓li_s, ↓lr_0, ↓lr_s, ↓gf_1_6, ↓w_c65, ↓wl_26_0, hs_wr, hs_cp, hs_s, hs_n, hs_hs, upd_s, upd_n, upd_upd, ne_eq, Nat.reduceEqDiff, c1_i, c1_r, c2_i, c2_r, ↓reduceIte, List.set_cons_zero, List.set_cons_succ, mm_cb, List.length_cons, List.length_nil, List.all_cons, List.all_nil, Nat.zero_add, Nat.reduceAdd, Nat.reduceLeDiff, Nat.zero_le, decide_true, Bool.and_self, Bool.and_true, true_and, and_true, forall_const, Bool.or_false, Bool.false_or, Bool.or_true, Bool.true_or, Bool.false_eq_true, Nat.reduceBEq, beq_self_eq_true, ha_11, ha_01, hb_10, hb_0x, imp_self, false_implies, not_true_eq_false, not_false_eq_true])
  rw [hN]
  refine q_within (fun a b => ⟨ba1, ?_⟩) (fun h => ⟨ba0, h0 (ix_no (by omega) h)⟩)
  obtain ⟨j, hj, e⟩ := ix_of (by omega) a b
  exact h1 j hj e
theorem q_hasBatch {x : Int32} {n : Nat} (hN : μ 5 7 = nI n) (hn : n ≤ 100) (h1 : ∀ j, j < n → x = nI j → RI 1 μ) (h0 : (∀ j, j < n → ¬ x = nI j) → RI 0 μ) : mm_Cs hh_S 0 [.ref 5, .int x] μ RI RV := by
  refine mm_in rfl (Nat.le_of_ble_eq_true rfl) ?_
  show mm_Rn hh_S 0 RI RV 0 [some (.ref 5), some (.int x)] [] μ
  (refine mm_run ok_0 (fun t => false) 5 ?_; rw [lb_0_0, rb_0]; simp only [↓w_aload_0, ↓w_getf, ↓w_iconst, ↓w_iload_1, ↓w_iret, ↓w_isub, ↓li_0, ↓li_s, ↓lr_0, ↓lr_s, ↓gf_5_7, ↓w_c65, ↓wl_0_0, hs_wr, hs_cp, hs_s, hs_n, hs_hs, upd_s, upd_n, upd_upd, ne_eq, Nat.reduceEqDiff, c1_i, c1_r, c2_i, c2_r, ↓reduceIte, List.set_cons_zero, List.set_cons_succ, mm_cb, List.length_cons, List.length_nil, List.all_cons, List.all_nil, Nat.zero_add, Nat.reduceAdd, Nat.reduceLeDiff, Nat.zero_le, decide_true, Bool.and_self, Bool.and_true, true_and, and_true, forall_const, Bool.or_false, Bool.false_or, Bool.or_true, Bool.true_or, Bool.false_eq_true, Nat.reduceBEq, beq_self_eq_true, ha_11, ha_01, hb_10, hb_0x, imp_self, false_implies, not_true_eq_false, not_false_eq_true])
  rw [hN]
  refine q_within (fun a b => ⟨ba1, ?_⟩) (fun h => ⟨ba0, h0 (ix_no (by omega) h)⟩)
  obtain ⟨j, hj, e⟩ := ix_of (by omega) a b
  exact h1 j hj e
theorem q_hasContract {x : Int32} {n : Nat} (hN : μ 6 7 = nI n) (hn : n ≤ 20) (h1 : ∀ j, j < n → x = nI j → RI 1 μ) (h0 : (∀ j, j < n → ¬ x = nI j) → RI 0 μ) : mm_Cs hh_S 7 [.ref 6, .int x] μ RI RV := by
  refine mm_in rfl (Nat.le_of_ble_eq_true rfl) ?_
  show mm_Rn hh_S 7 RI RV 0 [some (.ref 6), some (.int x)] [] μ
  (refine mm_run ok_7 (fun t => false) 5 ?_; rw [lb_7_0, rb_7]; simp only [↓w_aload_0, ↓w_getf, ↓w_iconst, ↓w_iload_1, ↓w_iret, ↓w_isub, ↓li_0, ↓li_s, ↓lr_0, ↓lr_s, ↓gf_6_7, ↓w_c65, ↓wl_7_0, hs_wr, hs_cp, hs_s, hs_n, hs_hs, upd_s, upd_n, upd_upd, ne_eq, Nat.reduceEqDiff, c1_i, c1_r, c2_i, c2_r, ↓reduceIte, List.set_cons_zero, List.set_cons_succ, mm_cb, List.length_cons, List.length_nil, List.all_cons, List.all_nil, Nat.zero_add, Nat.reduceAdd, Nat.reduceLeDiff, Nat.zero_le, decide_true, Bool.and_self, Bool.and_true, true_and, and_true, forall_const, Bool.or_false, Bool.false_or, Bool.or_true, Bool.true_or, Bool.false_eq_true, Nat.reduceBEq, beq_self_eq_true, ha_11, ha_01, hb_10, hb_0x, imp_self, false_implies, not_true_eq_false, not_false_eq_true])
  rw [hN]
  refine q_within (fun a b => ⟨ba1, ?_⟩) (fun h => ⟨ba0, h0 (ix_no (by omega) h)⟩)
  obtain ⟨j, hj, e⟩ := ix_of (by omega) a b
  exact h1 j hj e
theorem q_isLot {x : Int32} {n : Nat} (hN : μ 48 1 = nI n) (hn : n ≤ 60) (h1 : ∀ j, j < n → x = nI j → RI 1 μ) (h0 : (∀ j, j < n → ¬ x = nI j) → RI 0 μ) : mm_Cs hh_S 69 [.ref 48, .int x] μ RI RV := by
  refine mm_in rfl (Nat.le_of_ble_eq_true rfl) ?_
  show mm_Rn hh_S 69 RI RV 0 [some (.ref 48), some (.int x)] [] μ
  (refine mm_run ok_69 (fun t => false) 5 ?_; rw [lb_69_0, rb_69]; simp only [↓w_aload_0, ↓w_getf, ↓w_iconst, ↓w_iload_1, ↓w_iret, ↓w_isub, ↓li_0, ↓li_s, ↓lr_0, ↓lr_s, ↓gf_48_1, ↓w_c68, ↓wl_69_0, hs_wr, hs_cp, hs_s, hs_n, hs_hs, upd_s, upd_n, upd_upd, ne_eq, Nat.reduceEqDiff, c1_i, c1_r, c2_i, c2_r, ↓reduceIte, List.set_cons_zero, List.set_cons_succ, mm_cb, List.length_cons, List.length_nil, List.all_cons, List.all_nil, Nat.zero_add, Nat.reduceAdd, Nat.reduceLeDiff, Nat.zero_le, decide_true, Bool.and_self, Bool.and_true, true_and, and_true, forall_const, Bool.or_false, Bool.false_or, Bool.or_true, Bool.true_or, Bool.false_eq_true, Nat.reduceBEq, beq_self_eq_true, ha_11, ha_01, hb_10, hb_0x, imp_self, false_implies, not_true_eq_false, not_false_eq_true])
  rw [hN]
  refine q_in (fun a b => ⟨ba1, ?_⟩) (fun h => ⟨ba0, h0 (ix_no (by omega) h)⟩)
  obtain ⟨j, hj, e⟩ := ix_of (by omega) a b
  exact h1 j hj e
theorem q_hasKind {x : Int32} (h1 : ∀ j, j < 4 → x = nI j → ¬ μ 15 j = 0 → RI 1 μ) (h0 : (∀ j, j < 4 → x = nI j → μ 15 j = 0) → RI 0 μ) : mm_Cs hh_S 24 [.ref 2, .int x] μ RI RV := by
  refine mm_in rfl (Nat.le_of_ble_eq_true rfl) ?_
  show mm_Rn hh_S 24 RI RV 0 [some (.ref 2), some (.int x)] [] μ
  (refine mm_run ok_24 (fun t => false) 5 ?_; rw [lb_24_0, rb_24]; simp only [↓w_aload_0, ↓w_bald, ↓w_fall, ↓w_getf, ↓w_goto, ↓w_iconst, ↓w_if_eq, ↓w_iload_1, ↓w_iret, ↓li_0, ↓li_s, ↓lr_0, ↓lr_s, ↓gf_2_0, ↓ar_15, ↓w_c65, ↓wl_24_0, ↓wl_24_22, ↓wl_24_23, hs_wr, hs_cp, hs_s, hs_n, hs_hs, upd_s, upd_n, upd_upd, ne_eq, Nat.reduceEqDiff, c1_i, c1_r, c2_i, c2_r, ↓reduceIte, List.set_cons_zero, List.set_cons_succ, mm_cb, List.length_cons, List.length_nil, List.all_cons, List.all_nil, Nat.zero_add, Nat.reduceAdd, Nat.reduceLeDiff, Nat.zero_le, decide_true, Bool.and_self, Bool.and_true, true_and, and_true, forall_const, Bool.or_false, Bool.false_or, Bool.or_true, Bool.true_or, Bool.false_eq_true, Nat.reduceBEq, beq_self_eq_true, ha_11, ha_01, hb_10, hb_0x, imp_self, false_implies, not_true_eq_false, not_false_eq_true])
  refine q_within (fun a b => br1 ?_) (fun h => br0 (h0 (fun j hj e => absurd e (ix_nlit (n := 4) i_0 (by decide) h j hj))))
  obtain ⟨j, hj, rfl⟩ := ix_lit (n := 4) i_0 (by decide) a b
  refine ⟨in_nI hj (by omega), fun q => h0 (fun i hi e => ?_), fun q => h1 j hj rfl ?_⟩
  · rw [nI_cl (by omega)] at q
    have : j = i := (nI_eq (by omega) (by omega)).mp e
    rw [← this]
    exact q
  · rw [nI_cl (by omega)] at q
    exact q
theorem q_isKindNumber {x : Int32} (h1 : ∀ j, j < 4 → x = nI j → RI 1 μ) (h0 : (∀ j, j < 4 → ¬ x = nI j) → RI 0 μ) : mm_Cs hh_S 75 [.int x] μ RI RV := by
  refine mm_in rfl (Nat.le_of_ble_eq_true rfl) ?_
  show mm_Rn hh_S 75 RI RV 0 [some (.int x)] [] μ
  (refine mm_run ok_75 (fun t => false) 5 ?_; rw [lb_75_0, rb_75]; simp only [↓w_iconst, ↓w_iload_0, ↓w_iret, ↓li_0, ↓li_s, ↓lr_0, ↓lr_s, ↓w_c68, ↓wl_75_0, hs_wr, hs_cp, hs_s, hs_n, hs_hs, upd_s, upd_n, upd_upd, ne_eq, Nat.reduceEqDiff, c1_i, c1_r, c2_i, c2_r, ↓reduceIte, List.set_cons_zero, List.set_cons_succ, mm_cb, List.length_cons, List.length_nil, List.all_cons, List.all_nil, Nat.zero_add, Nat.reduceAdd, Nat.reduceLeDiff, Nat.zero_le, decide_true, Bool.and_self, Bool.and_true, true_and, and_true, forall_const, Bool.or_false, Bool.false_or, Bool.or_true, Bool.true_or, Bool.false_eq_true, Nat.reduceBEq, beq_self_eq_true, ha_11, ha_01, hb_10, hb_0x, imp_self, false_implies, not_true_eq_false, not_false_eq_true])
  refine q_in (fun a b => ⟨ba1, ?_⟩) (fun h => ⟨ba0, h0 (ix_nlit (n := 4) i_0 (by decide) h)⟩)
  obtain ⟨j, hj, e⟩ := ix_lit (n := 4) i_0 (by decide) a b
  exact h1 j hj e
theorem q_takesOf {x : Int32} (h : RI (x / 1000) μ) : mm_Cs hh_S 20 [.int x] μ RI RV := by
  refine mm_in rfl (Nat.le_of_ble_eq_true rfl) ?_
  show mm_Rn hh_S 20 RI RV 0 [some (.int x)] [] μ
  (refine mm_run ok_20 (fun t => false) 5 ?_; rw [lb_20_0, rb_20]; simp only [↓w_idiv, ↓w_iload_0, ↓w_iret, ↓w_sipush, ↓li_0, ↓li_s, ↓lr_0, ↓lr_s, ↓wl_20_0, hs_wr, hs_cp, hs_s, hs_n, hs_hs, upd_s, upd_n, upd_upd, ne_eq, Nat.reduceEqDiff, c1_i, c1_r, c2_i, c2_r, ↓reduceIte, List.set_cons_zero, List.set_cons_succ, mm_cb, List.length_cons, List.length_nil, List.all_cons, List.all_nil, Nat.zero_add, Nat.reduceAdd, Nat.reduceLeDiff, Nat.zero_le, decide_true, Bool.and_self, Bool.and_true, true_and, and_true, forall_const, Bool.or_false, Bool.false_or, Bool.or_true, Bool.true_or, Bool.false_eq_true, Nat.reduceBEq, beq_self_eq_true, ha_11, ha_01, hb_10, hb_0x, imp_self, false_implies, not_true_eq_false, not_false_eq_true])
  exact ⟨by decide, h⟩
theorem q_sauceOfC {x : Int32} (h : RI (x / 100 - x / 100 / 10 * 10) μ) : mm_Cs hh_S 21 [.int x] μ RI RV := by
  refine mm_in rfl (Nat.le_of_ble_eq_true rfl) ?_
  show mm_Rn hh_S 21 RI RV 0 [some (.int x)] [] μ
  (refine mm_run ok_21 (fun t => false) 5 ?_; rw [lb_21_0, rb_21]; simp only [↓w_bipush, ↓w_idiv, ↓w_iload_0, ↓w_irem, ↓w_iret, ↓li_0, ↓li_s, ↓lr_0, ↓lr_s, ↓wl_21_0, hs_wr, hs_cp, hs_s, hs_n, hs_hs, upd_s, upd_n, upd_upd, ne_eq, Nat.reduceEqDiff, c1_i, c1_r, c2_i, c2_r, ↓reduceIte, List.set_cons_zero, List.set_cons_succ, mm_cb, List.length_cons, List.length_nil, List.all_cons, List.all_nil, Nat.zero_add, Nat.reduceAdd, Nat.reduceLeDiff, Nat.zero_le, decide_true, Bool.and_self, Bool.and_true, true_and, and_true, forall_const, Bool.or_false, Bool.false_or, Bool.or_true, Bool.true_or, Bool.false_eq_true, Nat.reduceBEq, beq_self_eq_true, ha_11, ha_01, hb_10, hb_0x, imp_self, false_implies, not_true_eq_false, not_false_eq_true])
  exact ⟨by decide, by decide, h⟩
theorem q_fishOfC {x : Int32} (h : RI (x / 10 - x / 10 / 10 * 10) μ) : mm_Cs hh_S 22 [.int x] μ RI RV := by
  refine mm_in rfl (Nat.le_of_ble_eq_true rfl) ?_
  show mm_Rn hh_S 22 RI RV 0 [some (.int x)] [] μ
  (refine mm_run ok_22 (fun t => false) 5 ?_; rw [lb_22_0, rb_22]; simp only [↓w_bipush, ↓w_idiv, ↓w_iload_0, ↓w_irem, ↓w_iret, ↓li_0, ↓li_s, ↓lr_0, ↓lr_s, ↓wl_22_0, hs_wr, hs_cp, hs_s, hs_n, hs_hs, upd_s, upd_n, upd_upd, ne_eq, Nat.reduceEqDiff, c1_i, c1_r, c2_i, c2_r, ↓reduceIte, List.set_cons_zero, List.set_cons_succ, mm_cb, List.length_cons, List.length_nil, List.all_cons, List.all_nil, Nat.zero_add, Nat.reduceAdd, Nat.reduceLeDiff, Nat.zero_le, decide_true, Bool.and_self, Bool.and_true, true_and, and_true, forall_const, Bool.or_false, Bool.false_or, Bool.or_true, Bool.true_or, Bool.false_eq_true, Nat.reduceBEq, beq_self_eq_true, ha_11, ha_01, hb_10, hb_0x, imp_self, false_implies, not_true_eq_false, not_false_eq_true])
  exact ⟨by decide, by decide, h⟩
theorem q_hoursOfC {x : Int32} (h : RI (x - x / 10 * 10) μ) : mm_Cs hh_S 23 [.int x] μ RI RV := by
  refine mm_in rfl (Nat.le_of_ble_eq_true rfl) ?_
  show mm_Rn hh_S 23 RI RV 0 [some (.int x)] [] μ
  (refine mm_run ok_23 (fun t => false) 5 ?_; rw [lb_23_0, rb_23]; simp only [↓w_bipush, ↓w_iload_0, ↓w_irem, ↓w_iret, ↓li_0, ↓li_s, ↓lr_0, ↓lr_s, ↓wl_23_0, hs_wr, hs_cp, hs_s, hs_n, hs_hs, upd_s, upd_n, upd_upd, ne_eq, Nat.reduceEqDiff, c1_i, c1_r, c2_i, c2_r, ↓reduceIte, List.set_cons_zero, List.set_cons_succ, mm_cb, List.length_cons, List.length_nil, List.all_cons, List.all_nil, Nat.zero_add, Nat.reduceAdd, Nat.reduceLeDiff, Nat.zero_le, decide_true, Bool.and_self, Bool.and_true, true_and, and_true, forall_const, Bool.or_false, Bool.false_or, Bool.or_true, Bool.true_or, Bool.false_eq_true, Nat.reduceBEq, beq_self_eq_true, ha_11, ha_01, hb_10, hb_0x, imp_self, false_implies, not_true_eq_false, not_false_eq_true])
  exact ⟨by decide, h⟩
/-- what a kind is told by -/
def kOK (w : Int32) : Prop := (1 ≤ w / 1000 ∧ w / 1000 ≤ 7) ∧ (0 ≤ w / 100 - w / 100 / 10 * 10 ∧ w / 100 - w / 100 / 10 * 10 ≤ 1) ∧ (1 ≤ w / 10 - w / 10 / 10 * 10 ∧ w / 10 - w / 10 / 10 * 10 ≤ 9) ∧ (1 ≤ w - w / 10 * 10 ∧ w - w / 10 * 10 ≤ 5)
theorem q_canBeK {x : Int32} (h1 : kOK x → RI 1 μ) (h0 : ¬ kOK x → RI 0 μ) : mm_Cs hh_S 19 [.int x] μ RI RV := by
  refine mm_in rfl (Nat.le_of_ble_eq_true rfl) ?_
  show mm_Rn hh_S 19 RI RV 0 [some (.int x)] [] μ
  (refine mm_run ok_19 (fun t => false) 9 ?_; rw [lb_19_0, rb_19]; simp only [↓w_bipush, ↓w_fall, ↓w_goto, ↓w_iconst, ↓w_if_eq, ↓w_iload_0, ↓w_iret, ↓li_0, ↓li_s, ↓lr_0, ↓lr_s, ↓w_c20, ↓w_c21, ↓w_c22, ↓w_c23, ↓w_c65, ↓wl_19_0, ↓wl_19_54, ↓wl_19_55, hs_wr, hs_cp, hs_s, hs_n, hs_hs, upd_s, upd_n, upd_upd, ne_eq, Nat.reduceEqDiff, c1_i, c1_r, c2_i, c2_r, ↓reduceIte, List.set_cons_zero, List.set_cons_succ, mm_cb, List.length_cons, List.length_nil, List.all_cons, List.all_nil, Nat.zero_add, Nat.reduceAdd, Nat.reduceLeDiff, Nat.zero_le, decide_true, Bool.and_self, Bool.and_true, true_and, and_true, forall_const, Bool.or_false, Bool.false_or, Bool.or_true, Bool.true_or, Bool.false_eq_true, Nat.reduceBEq, beq_self_eq_true, ha_11, ha_01, hb_10, hb_0x, imp_self, false_implies, not_true_eq_false, not_false_eq_true])
  refine q_takesOf (q_within (fun a1 b1 => br1 ?_) (fun h => br0 (h0 (fun q => h q.1))))
  refine q_sauceOfC (q_within (fun a2 b2 => br1 ?_) (fun h => br0 (h0 (fun q => h q.2.1))))
  refine q_fishOfC (q_within (fun a3 b3 => br1 ?_) (fun h => br0 (h0 (fun q => h q.2.2.1))))
  refine q_hoursOfC (q_within (fun a4 b4 => br1 ?_) (fun h => br0 (h0 (fun q => h q.2.2.2))))
  exact h1 ⟨⟨a1, b1⟩, ⟨a2, b2⟩, ⟨a3, b3⟩, ⟨a4, b4⟩⟩
theorem q_addKind {j : Nat} (hj : j < 4) {w p : Int32} (h : RV (hs (hs (hs (hs (hs (hs (hs μ 16 (upd (μ 16) j (w / 1000))) 17 (upd (μ 17) j (w / 100 - w / 100 / 10 * 10))) 18 (upd (μ 18) j (w / 10 - w / 10 / 10 * 10))) 19 (upd (μ 19) j (w - w / 10 * 10))) 20 (upd (μ 20) j p)) 15 (upd (μ 15) j 1)) 2 (upd (μ 2) 6 (μ 2 6 + 1)))) : mm_Cs hh_S 25 [.ref 2, .int (nI j), .int w, .int p] μ RI RV := by
  have hi := in_nI hj (by omega)
  have hc : (nI j).toNatClampNeg = j := nI_cl (by omega)
  refine mm_in rfl (Nat.le_of_ble_eq_true rfl) ?_
  show mm_Rn hh_S 25 RI RV 0 [some (.ref 2), some (.int (nI j)), some (.int w), some (.int p)] [] μ
  (refine mm_run ok_25 (fun t => false) 9 ?_; rw [lb_25_0, rb_25]; simp only [↓w_aload_0, ↓w_bast, ↓w_dup, ↓w_getf, ↓w_iadd, ↓w_iast, ↓w_iconst, ↓w_iload_1, ↓w_iload_2, ↓w_iload_3, ↓w_putf, ↓w_vret, ↓li_0, ↓li_s, ↓lr_0, ↓lr_s, ↓gf_2_0, ↓gf_2_1, ↓gf_2_2, ↓gf_2_3, ↓gf_2_4, ↓gf_2_5, ↓gf_2_6, ↓pf_2_6, ↓ar_15, ↓ar_16, ↓ar_17, ↓ar_18, ↓ar_19, ↓ar_20, ↓w_c20, ↓w_c21, ↓w_c22, ↓w_c23, ↓wl_25_0, hs_wr, hs_cp, hs_s, hs_n, hs_hs, upd_s, upd_n, upd_upd, ne_eq, Nat.reduceEqDiff, c1_i, c1_r, c2_i, c2_r, ↓reduceIte, List.set_cons_zero, List.set_cons_succ, mm_cb, List.length_cons, List.length_nil, List.all_cons, List.all_nil, Nat.zero_add, Nat.reduceAdd, Nat.reduceLeDiff, Nat.zero_le, decide_true, Bool.and_self, Bool.and_true, true_and, and_true, forall_const, Bool.or_false, Bool.false_or, Bool.or_true, Bool.true_or, Bool.false_eq_true, Nat.reduceBEq, beq_self_eq_true, ha_11, ha_01, hb_10, hb_0x, imp_self, false_implies, not_true_eq_false, not_false_eq_true])
  rw [hc]
  refine q_takesOf ⟨hi, ?_⟩
  refine q_sauceOfC ⟨hi, ?_⟩
  refine q_fishOfC ⟨hi, ?_⟩
  refine q_hoursOfC ⟨hi, hi, hi, ?_⟩
  simp only [hs_s, hs_n, ne_eq, Nat.reduceEqDiff, not_false_eq_true]
  exact h
end C1
