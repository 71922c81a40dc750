/-! the reference: reads -/
theorem ixm2 (b j : Nat) : 60 * nI b + nI j = nI (b * 60 + j) := by
  rw [show (60 : Int32) = nI 60 from rfl, pk_mul, nI_add, Nat.mul_comm]
def fmB (ca ic lf : Nat → Int32) (h : Int32) (j : Nat) : Bool := frB ca ic h j && decide (¬ lf j ≤ 0)
def tmB (co : Nat → Int32) (t : Int32) (j : Nat) : Bool := decide (co j ≤ t) && decide (t ≤ co j + 7)
/-- the first lot of a kind, by the hour caught -/
def fiS (ca : Nat → Int32) (cand : Nat → Bool) (i : Nat) (b : Int32) : Int32 :=
  if cand i = true then (if b = -1 then nI i else if ca b.toNatClampNeg ≤ ca i then b else nI i) else b
theorem fi_ok {ca : Nat → Int32} {cand : Nat → Bool} : ∀ n, n ≤ 60 → fo (fiS ca cand) n (-1) = -1 ∨ ∃ j, j < n ∧ fo (fiS ca cand) n (-1) = nI j
  | 0, _ => Or.inl rfl
  | n + 1, h => by
    show fiS ca cand n (fo (fiS ca cand) n (-1)) = -1 ∨ ∃ j, j < n + 1 ∧ fiS ca cand n (fo (fiS ca cand) n (-1)) = nI j
    have := fi_ok (ca := ca) (cand := cand) n (by omega)
    generalize fo (fiS ca cand) n (-1) = b at this ⊢
    unfold fiS
    split
    · split
      · exact Or.inr ⟨n, by omega, rfl⟩
      · split
        · rcases this with h | ⟨j, hj, e⟩
          · exact Or.inl h
          · exact Or.inr ⟨j, by omega, e⟩
        · exact Or.inr ⟨n, by omega, rfl⟩
    · rcases this with h | ⟨j, hj, e⟩
      · exact Or.inl h
      · exact Or.inr ⟨j, by omega, e⟩
section M1
variable {μ : mm_M} {RI : Int32 → mm_M → Prop} {RV : mm_M → Prop}
theorem r_freshTill {j : Nat} (hj : j < 60) (h : RI (stH (μ 51) (μ 52) j) μ) : mm_Cs hh_S 70 [.ref 48, .int (nI j)] μ RI RV := by
  have hi := in_nI hj (by omega)
  refine mm_in rfl (Nat.le_of_ble_eq_true rfl) ?_
  show mm_Rn hh_S 70 RI RV 0 [some (.ref 48), some (.int (nI j))] [] μ
  (refine mm_run ok_70 (fun t => false) 9 ?_; rw [lb_70_0, rb_70]; simp only [↓w_aload_0, ↓w_bald, ↓w_bipush, ↓w_fall, ↓w_getf, ↓w_goto, ↓w_iadd, ↓w_iald, ↓w_if_eq, ↓w_iload_1, ↓w_iret, ↓li_0, ↓li_s, ↓lr_0, ↓lr_s, ↓gf_48_4, ↓gf_48_5, ↓ar_51, ↓ar_52, ↓wl_70_0, ↓wl_70_20, ↓wl_70_22, hs_wr, hs_cp, hs_s, hs_n, hs_hs, upd_s, upd_n, upd_upd, ne_eq, Nat.reduceEqDiff, c1_i, c1_r, c2_i, c2_r, ↓reduceIte, List.set_cons_zero, List.set_cons_succ, mm_cb, List.length_cons, List.length_nil, List.all_cons, List.all_nil, Nat.zero_add, Nat.reduceAdd, Nat.reduceLeDiff, Nat.zero_le, decide_true, Bool.and_self, Bool.and_true, true_and, and_true, forall_const, Bool.or_false, Bool.false_or, Bool.or_true, Bool.true_or, Bool.false_eq_true, Nat.reduceBEq, beq_self_eq_true, ha_11, ha_01, hb_10, hb_0x, imp_self, false_implies, not_true_eq_false, not_false_eq_true])
  rw [nI_cl (by omega)]
  unfold stH at h
  refine ⟨hi, hi, fun q => ?_, fun q => ?_⟩
  · rw [if_pos q] at h; exact h
  · rw [if_neg q] at h; exact h
theorem r_isFresh {j : Nat} (hj : j < 60) (h1 : fmB (μ 51) (μ 52) (μ 50) (μ 48 0) j = true → RI 1 μ) (h0 : ¬ fmB (μ 51) (μ 52) (μ 50) (μ 48 0) j = true → RI 0 μ) : mm_Cs hh_S 71 [.ref 48, .int (nI j)] μ RI RV := by
  refine mm_in rfl (Nat.le_of_ble_eq_true rfl) ?_
  show mm_Rn hh_S 71 RI RV 0 [some (.ref 48), some (.int (nI j))] [] μ
  (refine mm_run ok_71 (fun t => false) 9 ?_; rw [lb_71_0, rb_71]; simp only [↓w_aload_0, ↓w_fall, ↓w_getf, ↓w_goto, ↓w_iald, ↓w_ic_ge, ↓w_iconst, ↓w_if_le, ↓w_iload_1, ↓w_iret, ↓li_0, ↓li_s, ↓lr_0, ↓lr_s, ↓gf_48_0, ↓gf_48_3, ↓rc_48, ↓ar_50, ↓w_c70, ↓wl_71_0, ↓wl_71_25, ↓wl_71_26, hs_wr, hs_cp, hs_s, hs_n, hs_hs, upd_s, upd_n, upd_upd, ne_eq, Nat.reduceEqDiff, c1_i, c1_r, c2_i, c2_r, ↓reduceIte, List.set_cons_zero, List.set_cons_succ, mm_cb, List.length_cons, List.length_nil, List.all_cons, List.all_nil, Nat.zero_add, Nat.reduceAdd, Nat.reduceLeDiff, Nat.zero_le, decide_true, Bool.and_self, Bool.and_true, true_and, and_true, forall_const, Bool.or_false, Bool.false_or, Bool.or_true, Bool.true_or, Bool.false_eq_true, Nat.reduceBEq, beq_self_eq_true, ha_11, ha_01, hb_10, hb_0x, imp_self, false_implies, not_true_eq_false, not_false_eq_true])
  rw [nI_cl (by omega)]
  unfold fmB frB at h1 h0
  simp only [Bool.and_eq_true, decide_eq_true_eq] at h1 h0
  exact r_freshTill hj ⟨fun q => h0 (fun z => z.1 q), fun q => ⟨in_nI hj (by omega), fun r => h0 (fun z => z.2 r), fun r => h1 ⟨q, r⟩⟩⟩
theorem r_isTold {x : Int32} (h1 : ∀ j, j < 4 → x = nI j → ¬ μ 55 j ≤ 0 → RI 1 μ) (h0 : (∀ j, j < 4 → x = nI j → μ 55 j ≤ 0) → RI 0 μ) : mm_Cs hh_S 77 [.ref 48, .int x] μ RI RV := by
  refine mm_in rfl (Nat.le_of_ble_eq_true rfl) ?_
  show mm_Rn hh_S 77 RI RV 0 [some (.ref 48), some (.int x)] [] μ
  (refine mm_run ok_77 (fun t => false) 9 ?_; rw [lb_77_0, rb_77]; simp only [↓w_aload_0, ↓w_fall, ↓w_getf, ↓w_goto, ↓w_iald, ↓w_iconst, ↓w_if_eq, ↓w_if_le, ↓w_iload_1, ↓w_iret, ↓li_0, ↓li_s, ↓lr_0, ↓lr_s, ↓gf_48_9, ↓ar_55, ↓w_c75, ↓wl_77_0, ↓wl_77_20, ↓wl_77_21, hs_wr, hs_cp, hs_s, hs_n, hs_hs, upd_s, upd_n, upd_upd, ne_eq, Nat.reduceEqDiff, c1_i, c1_r, c2_i, c2_r, ↓reduceIte, List.set_cons_zero, List.set_cons_succ, mm_cb, List.length_cons, List.length_nil, List.all_cons, List.all_nil, Nat.zero_add, Nat.reduceAdd, Nat.reduceLeDiff, Nat.zero_le, decide_true, Bool.and_self, Bool.and_true, true_and, and_true, forall_const, Bool.or_false, Bool.false_or, Bool.or_true, Bool.true_or, Bool.false_eq_true, Nat.reduceBEq, beq_self_eq_true, ha_11, ha_01, hb_10, hb_0x, imp_self, false_implies, not_true_eq_false, not_false_eq_true])
  refine q_isKindNumber (fun j hj e => br1 ?_) (fun h => br0 (h0 (fun j hj e => absurd e (h j hj))))
  subst e
  refine ⟨in_nI hj (by omega), fun q => h0 (fun i hi e => ?_), fun q => h1 j hj rfl ?_⟩
  · rw [nI_cl (by omega)] at q
    have : j = i := (nI_eq (by omega) (by omega)).mp e
    rw [← this]
    exact q
  · rw [nI_cl (by omega)] at q
    exact q
def taB (w sz : Int32) : Bool := decide (((w / 1000) >>> (sz &&& 31)) &&& 1 = 1)
theorem r_takes {k : Nat} (hk : k < 4) {s : Int32} (h1 : taB (μ 54 k) s = true → RI 1 μ) (h0 : ¬ taB (μ 54 k) s = true → RI 0 μ) : mm_Cs hh_S 78 [.ref 48, .int (nI k), .int s] μ RI RV := by
  refine mm_in rfl (Nat.le_of_ble_eq_true rfl) ?_
  show mm_Rn hh_S 78 RI RV 0 [some (.ref 48), some (.int (nI k)), some (.int s)] [] μ
  (refine mm_run ok_78 (fun t => false) 9 ?_; rw [lb_78_0, rb_78]; simp only [↓w_aload_0, ↓w_fall, ↓w_getf, ↓w_goto, ↓w_iald, ↓w_iand, ↓w_ic_ne, ↓w_iconst, ↓w_idiv, ↓w_iload_1, ↓w_iload_2, ↓w_iret, ↓w_ishr, ↓w_sipush, ↓li_0, ↓li_s, ↓lr_0, ↓lr_s, ↓gf_48_8, ↓ar_54, ↓wl_78_0, ↓wl_78_22, ↓wl_78_23, hs_wr, hs_cp, hs_s, hs_n, hs_hs, upd_s, upd_n, upd_upd, ne_eq, Nat.reduceEqDiff, c1_i, c1_r, c2_i, c2_r, ↓reduceIte, List.set_cons_zero, List.set_cons_succ, mm_cb, List.length_cons, List.length_nil, List.all_cons, List.all_nil, Nat.zero_add, Nat.reduceAdd, Nat.reduceLeDiff, Nat.zero_le, decide_true, Bool.and_self, Bool.and_true, true_and, and_true, forall_const, Bool.or_false, Bool.false_or, Bool.or_true, Bool.true_or, Bool.false_eq_true, Nat.reduceBEq, beq_self_eq_true, ha_11, ha_01, hb_10, hb_0x, imp_self, false_implies, not_true_eq_false, not_false_eq_true])
  rw [nI_cl (by omega)]
  unfold taB at h1 h0
  simp only [decide_eq_true_eq] at h1 h0
  exact ⟨in_nI hk (by omega), by decide, h0, h1⟩
theorem r_fishOf {k : Nat} (hk : k < 4) (h : RI (μ 54 k / 10 - μ 54 k / 10 / 10 * 10) μ) : mm_Cs hh_S 79 [.ref 48, .int (nI k)] μ RI RV := by
  refine mm_in rfl (Nat.le_of_ble_eq_true rfl) ?_
  show mm_Rn hh_S 79 RI RV 0 [some (.ref 48), some (.int (nI k))] [] μ
  (refine mm_run ok_79 (fun t => false) 9 ?_; rw [lb_79_0, rb_79]; simp only [↓w_aload_0, ↓w_bipush, ↓w_getf, ↓w_iald, ↓w_idiv, ↓w_iload_1, ↓w_irem, ↓w_iret, ↓li_0, ↓li_s, ↓lr_0, ↓lr_s, ↓gf_48_8, ↓ar_54, ↓wl_79_0, hs_wr, hs_cp, hs_s, hs_n, hs_hs, upd_s, upd_n, upd_upd, ne_eq, Nat.reduceEqDiff, c1_i, c1_r, c2_i, c2_r, ↓reduceIte, List.set_cons_zero, List.set_cons_succ, mm_cb, List.length_cons, List.length_nil, List.all_cons, List.all_nil, Nat.zero_add, Nat.reduceAdd, Nat.reduceLeDiff, Nat.zero_le, decide_true, Bool.and_self, Bool.and_true, true_and, and_true, forall_const, Bool.or_false, Bool.false_or, Bool.or_true, Bool.true_or, Bool.false_eq_true, Nat.reduceBEq, beq_self_eq_true, ha_11, ha_01, hb_10, hb_0x, imp_self, false_implies, not_true_eq_false, not_false_eq_true])
  rw [nI_cl (by omega)]
  exact ⟨in_nI hk (by omega), by decide, by decide, h⟩
theorem r_sauceOf {k : Nat} (hk : k < 4) (h : RI (μ 54 k / 100 - μ 54 k / 100 / 10 * 10) μ) : mm_Cs hh_S 80 [.ref 48, .int (nI k)] μ RI RV := by
  refine mm_in rfl (Nat.le_of_ble_eq_true rfl) ?_
  show mm_Rn hh_S 80 RI RV 0 [some (.ref 48), some (.int (nI k))] [] μ
  (refine mm_run ok_80 (fun t => false) 9 ?_; rw [lb_80_0, rb_80]; simp only [↓w_aload_0, ↓w_bipush, ↓w_getf, ↓w_iald, ↓w_idiv, ↓w_iload_1, ↓w_irem, ↓w_iret, ↓li_0, ↓li_s, ↓lr_0, ↓lr_s, ↓gf_48_8, ↓ar_54, ↓wl_80_0, hs_wr, hs_cp, hs_s, hs_n, hs_hs, upd_s, upd_n, upd_upd, ne_eq, Nat.reduceEqDiff, c1_i, c1_r, c2_i, c2_r, ↓reduceIte, List.set_cons_zero, List.set_cons_succ, mm_cb, List.length_cons, List.length_nil, List.all_cons, List.all_nil, Nat.zero_add, Nat.reduceAdd, Nat.reduceLeDiff, Nat.zero_le, decide_true, Bool.and_self, Bool.and_true, true_and, and_true, forall_const, Bool.or_false, Bool.false_or, Bool.or_true, Bool.true_or, Bool.false_eq_true, Nat.reduceBEq, beq_self_eq_true, ha_11, ha_01, hb_10, hb_0x, imp_self, false_implies, not_true_eq_false, not_false_eq_true])
  rw [nI_cl (by omega)]
  exact ⟨in_nI hk (by omega), by decide, by decide, h⟩
theorem r_crewsThere (h : RI (su (fun j => if tmB (μ 57) (μ 48 0) j = true then 1 else 0) 3) μ) : mm_Cs hh_S 83 [.ref 48] μ RI RV := by
  have lp := up_ind (n := 3) (P := fun i => mm_Rn hh_S 83 RI RV 4 [some (.ref 48), some (.int (su (fun j => if tmB (μ 57) (μ 48 0) j = true then 1 else 0) i)), some (.int (nI i))] [] μ) (fun i hi ih => by
    (refine mm_run ok_83 (fun t => t == 4) 9 ?_; rw [lb_83_4, rb_83]; simp only [↓w_aload_0, ↓w_bipush, ↓w_fall, ↓w_getf, ↓w_goto, ↓w_iadd, ↓w_iald, ↓w_ic_ge, ↓w_iconst, ↓w_if_eq, ↓w_iinc, ↓w_iload_1, ↓w_iload_2, ↓w_iret, ↓w_istore_1, ↓w_istore_2, ↓li_0, ↓li_s, ↓lr_0, ↓lr_s, ↓gf_48_0, ↓gf_48_11, ↓ar_57, ↓w_c68, ↓wl_83_0, ↓wl_83_4, ↓wl_83_39, ↓wl_83_40, ↓wl_83_48, hs_wr, hs_cp, hs_s, hs_n, hs_hs, upd_s, upd_n, upd_upd, ne_eq, Nat.reduceEqDiff, c1_i, c1_r, c2_i, c2_r, ↓reduceIte, List.set_cons_zero, List.set_cons_succ, mm_cb, List.length_cons, List.length_nil, List.all_cons, List.all_nil, Nat.zero_add, Nat.reduceAdd, Nat.reduceLeDiff, Nat.zero_le, decide_true, Bool.and_self, Bool.and_true, true_and, and_true, forall_const, Bool.or_false, Bool.false_or, Bool.or_true, Bool.true_or, Bool.false_eq_true, Nat.reduceBEq, beq_self_eq_true, ha_11, ha_01, hb_10, hb_0x, imp_self, false_implies, not_true_eq_false, not_false_eq_true])
    rw [show (3 : Int32) = nI 3 from rfl, nI_cl (by omega), nI_1]
    refine ⟨fun c => ?_, fun c => ?_⟩
    · have := le_nI (by omega) (by omega) c
      rw [show i = 3 by omega]
      exact h
    · have := nle_nI (by omega) (by omega) c
      refine ⟨in_nI (by omega) (by omega), in_nI (by omega) (by omega), q_in (fun a b => br1 ?_) (fun u => br0 ?_)⟩
      · rw [← su_if_t (f := fun _ => 1) (p := tmB (μ 57) (μ 48 0)) (by simp [tmB, a, b])]
        exact ih (i + 1) (by omega) (by omega)
      · rw [Int32.add_zero, ← su_if_f (f := fun _ => 1) (p := tmB (μ 57) (μ 48 0)) (by unfold tmB; simp only [Bool.and_eq_true, decide_eq_true_eq]; exact u)]
        exact ih (i + 1) (by omega) (by omega))
  refine mm_in rfl (Nat.le_of_ble_eq_true rfl) ?_
  show mm_Rn hh_S 83 RI RV 0 [some (.ref 48), none, none] [] μ
  (refine mm_run ok_83 (fun t => t == 4) 9 ?_; rw [lb_83_0, rb_83]; simp only [↓w_aload_0, ↓w_bipush, ↓w_fall, ↓w_getf, ↓w_goto, ↓w_iadd, ↓w_iald, ↓w_ic_ge, ↓w_iconst, ↓w_if_eq, ↓w_iinc, ↓w_iload_1, ↓w_iload_2, ↓w_iret, ↓w_istore_1, ↓w_istore_2, ↓li_0, ↓li_s, ↓lr_0, ↓lr_s, ↓gf_48_0, ↓gf_48_11, ↓ar_57, ↓w_c68, ↓wl_83_0, ↓wl_83_4, ↓wl_83_39, ↓wl_83_40, ↓wl_83_48, hs_wr, hs_cp, hs_s, hs_n, hs_hs, upd_s, upd_n, upd_upd, ne_eq, Nat.reduceEqDiff, c1_i, c1_r, c2_i, c2_r, ↓reduceIte, List.set_cons_zero, List.set_cons_succ, mm_cb, List.length_cons, List.length_nil, List.all_cons, List.all_nil, Nat.zero_add, Nat.reduceAdd, Nat.reduceLeDiff, Nat.zero_le, decide_true, Bool.and_self, Bool.and_true, true_and, and_true, forall_const, Bool.or_false, Bool.false_or, Bool.or_true, Bool.true_or, Bool.false_eq_true, Nat.reduceBEq, beq_self_eq_true, ha_11, ha_01, hb_10, hb_0x, imp_self, false_implies, not_true_eq_false, not_false_eq_true])
  exact lp 0 (Nat.zero_le _)
theorem r_charges (h : RI (su (fun j => if chB (μ 58) j = true then 1 else 0) 3) μ) : mm_Cs hh_S 84 [.ref 48] μ RI RV := by
  have lp := up_ind (n := 3) (P := fun i => mm_Rn hh_S 84 RI RV 4 [some (.ref 48), some (.int (su (fun j => if chB (μ 58) j = true then 1 else 0) i)), some (.int (nI i))] [] μ) (fun i hi ih => by
    (refine mm_run ok_84 (fun t => t == 4) 9 ?_; rw [lb_84_4, rb_84]; simp only [↓w_aload_0, ↓w_fall, ↓w_getf, ↓w_goto, ↓w_iadd, ↓w_iald, ↓w_ic_eq, ↓w_ic_ge, ↓w_iconst, ↓w_iinc, ↓w_iload_1, ↓w_iload_2, ↓w_iret, ↓w_istore_1, ↓w_istore_2, ↓li_0, ↓li_s, ↓lr_0, ↓lr_s, ↓gf_48_13, ↓ar_58, ↓wl_84_0, ↓wl_84_4, ↓wl_84_24, ↓wl_84_25, ↓wl_84_33, hs_wr, hs_cp, hs_s, hs_n, hs_hs, upd_s, upd_n, upd_upd, ne_eq, Nat.reduceEqDiff, c1_i, c1_r, c2_i, c2_r, ↓reduceIte, List.set_cons_zero, List.set_cons_succ, mm_cb, List.length_cons, List.length_nil, List.all_cons, List.all_nil, Nat.zero_add, Nat.reduceAdd, Nat.reduceLeDiff, Nat.zero_le, decide_true, Bool.and_self, Bool.and_true, true_and, and_true, forall_const, Bool.or_false, Bool.false_or, Bool.or_true, Bool.true_or, Bool.false_eq_true, Nat.reduceBEq, beq_self_eq_true, ha_11, ha_01, hb_10, hb_0x, imp_self, false_implies, not_true_eq_false, not_false_eq_true])
    rw [show (3 : Int32) = nI 3 from rfl, nI_cl (by omega), nI_1]
    refine ⟨fun c => ?_, fun c => ?_⟩
    · have := le_nI (by omega) (by omega) c
      rw [show i = 3 by omega]
      exact h
    · have := nle_nI (by omega) (by omega) c
      refine ⟨in_nI (by omega) (by omega), fun u => ?_, fun u => ?_⟩
      · rw [Int32.add_zero, ← su_if_f (f := fun _ => 1) (p := chB (μ 58)) (by simp [chB, u])]
        exact ih (i + 1) (by omega) (by omega)
      · rw [← su_if_t (f := fun _ => 1) (p := chB (μ 58)) (by simp [chB, u])]
        exact ih (i + 1) (by omega) (by omega))
  refine mm_in rfl (Nat.le_of_ble_eq_true rfl) ?_
  show mm_Rn hh_S 84 RI RV 0 [some (.ref 48), none, none] [] μ
  (refine mm_run ok_84 (fun t => t == 4) 9 ?_; rw [lb_84_0, rb_84]; simp only [↓w_aload_0, ↓w_fall, ↓w_getf, ↓w_goto, ↓w_iadd, ↓w_iald, ↓w_ic_eq, ↓w_ic_ge, ↓w_iconst, ↓w_iinc, ↓w_iload_1, ↓w_iload_2, ↓w_iret, ↓w_istore_1, ↓w_istore_2, ↓li_0, ↓li_s, ↓lr_0, ↓lr_s, ↓gf_48_13, ↓ar_58, ↓wl_84_0, ↓wl_84_4, ↓wl_84_24, ↓wl_84_25, ↓wl_84_33, hs_wr, hs_cp, hs_s, hs_n, hs_hs, upd_s, upd_n, upd_upd, ne_eq, Nat.reduceEqDiff, c1_i, c1_r, c2_i, c2_r, ↓reduceIte, List.set_cons_zero, List.set_cons_succ, mm_cb, List.length_cons, List.length_nil, List.all_cons, List.all_nil, Nat.zero_add, Nat.reduceAdd, Nat.reduceLeDiff, Nat.zero_le, decide_true, Bool.and_self, Bool.and_true, true_and, and_true, forall_const, Bool.or_false, Bool.false_or, Bool.or_true, Bool.true_or, Bool.false_eq_true, Nat.reduceBEq, beq_self_eq_true, ha_11, ha_01, hb_10, hb_0x, imp_self, false_implies, not_true_eq_false, not_false_eq_true])
  exact lp 0 (Nat.zero_le _)
/-- a lot that can be packed -/
def cdB (μ : mm_M) (k : Nat) (j : Nat) : Bool := fmB (μ 51) (μ 52) (μ 50) (μ 48 0) j && usB (μ 53) (μ 49) (μ 54 k / 1000) j
theorem cdB_iff {μ : mm_M} {k j : Nat} : cdB μ k j = true ↔ fmB (μ 51) (μ 52) (μ 50) (μ 48 0) j = true ∧ μ 53 j = 0 ∧ taB (μ 54 k) (μ 49 j) = true := by
  unfold cdB usB taB
  simp only [Bool.and_eq_true, decide_eq_true_eq]
theorem r_there {n k : Nat} (hN : μ 48 1 = nI n) (hn : n ≤ 60) (hk : k < 4) (h : RI (su (fun j => if cdB μ k j = true then μ 50 j else 0) n) μ) : mm_Cs hh_S 86 [.ref 48, .int (nI k)] μ RI RV := by
  have lp := up_ind (n := n) (P := fun i => mm_Rn hh_S 86 RI RV 4 [some (.ref 48), some (.int (nI k)), some (.int (su (fun j => if cdB μ k j = true then μ 50 j else 0) i)), some (.int (nI i))] [] μ) (fun i hi ih => by
    (refine mm_run ok_86 (fun t => t == 4) 9 ?_; rw [lb_86_4, rb_86]; simp only [↓w_aload_0, ↓w_bald, ↓w_fall, ↓w_getf, ↓w_goto, ↓w_iadd, ↓w_iald, ↓w_ic_ge, ↓w_iconst, ↓w_if_eq, ↓w_if_ne, ↓w_iinc, ↓w_iload_1, ↓w_iload_2, ↓w_iload_3, ↓w_iret, ↓w_istore_2, ↓w_istore_3, ↓li_0, ↓li_s, ↓lr_0, ↓lr_s, ↓gf_48_1, ↓gf_48_2, ↓gf_48_3, ↓gf_48_6, ↓rc_48, ↓ar_49, ↓ar_50, ↓ar_53, ↓w_c71, ↓w_c78, ↓wl_86_0, ↓wl_86_4, ↓wl_86_53, ↓wl_86_54, ↓wl_86_62, hs_wr, hs_cp, hs_s, hs_n, hs_hs, upd_s, upd_n, upd_upd, ne_eq, Nat.reduceEqDiff, c1_i, c1_r, c2_i, c2_r, ↓reduceIte, List.set_cons_zero, List.set_cons_succ, mm_cb, List.length_cons, List.length_nil, List.all_cons, List.all_nil, Nat.zero_add, Nat.reduceAdd, Nat.reduceLeDiff, Nat.zero_le, decide_true, Bool.and_self, Bool.and_true, true_and, and_true, forall_const, Bool.or_false, Bool.false_or, Bool.or_true, Bool.true_or, Bool.false_eq_true, Nat.reduceBEq, beq_self_eq_true, ha_11, ha_01, hb_10, hb_0x, imp_self, false_implies, not_true_eq_false, not_false_eq_true])
    simp only [Int32.add_zero]
    rw [hN, nI_cl (by omega), nI_1]
    refine ⟨fun c => ?_, fun c => ?_⟩
    · have := le_nI (by omega) (by omega) c
      rw [show i = n by omega]
      exact h
    · have := nle_nI (by omega) (by omega) c
      have ih := ih (i + 1) (by omega) (by omega)
      have hii := in_nI (show i < 60 by omega) (by omega)
      have hf : ¬ cdB μ k i = true → mm_Rn hh_S 86 RI RV 4 [some (.ref 48), some (.int (nI k)), some (.int (su (fun j => if cdB μ k j = true then μ 50 j else 0) i)), some (.int (nI (i + 1)))] [] μ := fun u => by
        rw [su_if_f (f := μ 50) u] at ih
        exact ih
      refine r_isFresh (by omega) (fun a => br1 ⟨hii, fun b => hf (fun z => b (cdB_iff.mp z).2.1), fun b => ⟨hii, r_takes hk (fun d => br1 ⟨hii, ?_⟩) (fun d => br0 (hf (fun z => d (cdB_iff.mp z).2.2)))⟩⟩) (fun a => br0 (hf (fun z => a (cdB_iff.mp z).1)))
      rw [su_if_t (f := μ 50) (cdB_iff.mpr ⟨a, b, d⟩)] at ih
      exact ih)
  refine mm_in rfl (Nat.le_of_ble_eq_true rfl) ?_
  show mm_Rn hh_S 86 RI RV 0 [some (.ref 48), some (.int (nI k)), none, none] [] μ
  (refine mm_run ok_86 (fun t => t == 4) 9 ?_; rw [lb_86_0, rb_86]; simp only [↓w_aload_0, ↓w_bald, ↓w_fall, ↓w_getf, ↓w_goto, ↓w_iadd, ↓w_iald, ↓w_ic_ge, ↓w_iconst, ↓w_if_eq, ↓w_if_ne, ↓w_iinc, ↓w_iload_1, ↓w_iload_2, ↓w_iload_3, ↓w_iret, ↓w_istore_2, ↓w_istore_3, ↓li_0, ↓li_s, ↓lr_0, ↓lr_s, ↓gf_48_1, ↓gf_48_2, ↓gf_48_3, ↓gf_48_6, ↓rc_48, ↓ar_49, ↓ar_50, ↓ar_53, ↓w_c71, ↓w_c78, ↓wl_86_0, ↓wl_86_4, ↓wl_86_53, ↓wl_86_54, ↓wl_86_62, hs_wr, hs_cp, hs_s, hs_n, hs_hs, upd_s, upd_n, upd_upd, ne_eq, Nat.reduceEqDiff, c1_i, c1_r, c2_i, c2_r, ↓reduceIte, List.set_cons_zero, List.set_cons_succ, mm_cb, List.length_cons, List.length_nil, List.all_cons, List.all_nil, Nat.zero_add, Nat.reduceAdd, Nat.reduceLeDiff, Nat.zero_le, decide_true, Bool.and_self, Bool.and_true, true_and, and_true, forall_const, Bool.or_false, Bool.false_or, Bool.or_true, Bool.true_or, Bool.false_eq_true, Nat.reduceBEq, beq_self_eq_true, ha_11, ha_01, hb_10, hb_0x, imp_self, false_implies, not_true_eq_false, not_false_eq_true])
  exact lp 0 (Nat.zero_le _)
theorem r_first {n k : Nat} (hN : μ 48 1 = nI n) (hn : n ≤ 60) (hk : k < 4) (h : RI (fo (fiS (μ 51) (cdB μ k)) n (-1)) μ) : mm_Cs hh_S 85 [.ref 48, .int (nI k)] μ RI RV := by
  have lp := up_ind (n := n) (P := fun i => mm_Rn hh_S 85 RI RV 4 [some (.ref 48), some (.int (nI k)), some (.int (fo (fiS (μ 51) (cdB μ k)) i (-1))), some (.int (nI i))] [] μ) (fun i hi ih => by
    have ih := ih (i + 1) (by omega)
    have e1 : fo (fiS (μ 51) (cdB μ k)) (i + 1) (-1) = fiS (μ 51) (cdB μ k) i (fo (fiS (μ 51) (cdB μ k)) i (-1)) := rfl
    have hok := fi_ok (ca := μ 51) (cand := cdB μ k) i (by omega)
    rw [e1] at ih
    generalize hB : fo (fiS (μ 51) (cdB μ k)) i (-1) = b at ih hok ⊢
    unfold fiS at ih
    (refine mm_run ok_85 (fun t => t == 4) 12 ?_; rw [lb_85_4, rb_85]; simp only [↓w_aload_0, ↓w_bald, ↓w_fall, ↓w_getf, ↓w_goto, ↓w_iald, ↓w_ic_eq, ↓w_ic_ge, ↓w_iconst, ↓w_if_eq, ↓w_if_ne, ↓w_iinc, ↓w_iload_1, ↓w_iload_2, ↓w_iload_3, ↓w_iret, ↓w_istore_2, ↓w_istore_3, ↓li_0, ↓li_s, ↓lr_0, ↓lr_s, ↓gf_48_1, ↓gf_48_2, ↓gf_48_4, ↓gf_48_6, ↓rc_48, ↓ar_49, ↓ar_51, ↓ar_53, ↓w_c71, ↓w_c78, ↓wl_85_0, ↓wl_85_4, ↓wl_85_63, ↓wl_85_65, ↓wl_85_71, hs_wr, hs_cp, hs_s, hs_n, hs_hs, upd_s, upd_n, upd_upd, ne_eq, Nat.reduceEqDiff, c1_i, c1_r, c2_i, c2_r, ↓reduceIte, List.set_cons_zero, List.set_cons_succ, mm_cb, List.length_cons, List.length_nil, List.all_cons, List.all_nil, Nat.zero_add, Nat.reduceAdd, Nat.reduceLeDiff, Nat.zero_le, decide_true, Bool.and_self, Bool.and_true, true_and, and_true, forall_const, Bool.or_false, Bool.false_or, Bool.or_true, Bool.true_or, Bool.false_eq_true, Nat.reduceBEq, beq_self_eq_true, ha_11, ha_01, hb_10, hb_0x, imp_self, false_implies, not_true_eq_false, not_false_eq_true])
    rw [hN, nI_cl (by omega), nI_1]
    refine ⟨fun c => ?_, fun c => ?_⟩
    · have := le_nI (by omega) (by omega) c
      rw [show i = n by omega] at hB
      rw [hB] at h
      exact h
    · have := nle_nI (by omega) (by omega) c
      have ih := ih (by omega)
      have hii := in_nI (show i < 60 by omega) (by omega)
      have hf : ¬ cdB μ k i = true → mm_Rn hh_S 85 RI RV 4 [some (.ref 48), some (.int (nI k)), some (.int b), some (.int (nI (i + 1)))] [] μ := fun u => by
        rw [if_neg u] at ih
        exact ih
      refine r_isFresh (by omega) (fun a => br1 ⟨hii, fun q => hf (fun z => q (cdB_iff.mp z).2.1), fun q => ⟨hii, r_takes hk (fun d => br1 ?_) (fun d => br0 (hf (fun z => d (cdB_iff.mp z).2.2)))⟩⟩) (fun a => br0 (hf (fun z => a (cdB_iff.mp z).1)))
      rw [if_pos (cdB_iff.mpr ⟨a, q, d⟩)] at ih
      refine ⟨fun e => ?_, fun e => ⟨hii, ?_, fun z => ?_, fun z => ?_⟩⟩
      · rw [if_pos e] at ih
        exact ih
      · rcases hok with h | ⟨j, hj, ej⟩
        · exact absurd h e
        · rw [ej]; exact in_nI (by omega) (by omega)
      · rw [if_neg e, if_pos z] at ih
        exact ih
      · rw [if_neg e, if_neg z] at ih
        exact ih)
  refine mm_in rfl (Nat.le_of_ble_eq_true rfl) ?_
  show mm_Rn hh_S 85 RI RV 0 [some (.ref 48), some (.int (nI k)), none, none] [] μ
  (refine mm_run ok_85 (fun t => t == 4) 9 ?_; rw [lb_85_0, rb_85]; simp only [↓w_aload_0, ↓w_bald, ↓w_fall, ↓w_getf, ↓w_goto, ↓w_iald, ↓w_ic_eq, ↓w_ic_ge, ↓w_iconst, ↓w_if_eq, ↓w_if_ne, ↓w_iinc, ↓w_iload_1, ↓w_iload_2, ↓w_iload_3, ↓w_iret, ↓w_istore_2, ↓w_istore_3, ↓li_0, ↓li_s, ↓lr_0, ↓lr_s, ↓gf_48_1, ↓gf_48_2, ↓gf_48_4, ↓gf_48_6, ↓rc_48, ↓ar_49, ↓ar_51, ↓ar_53, ↓w_c71, ↓w_c78, ↓wl_85_0, ↓wl_85_4, ↓wl_85_63, ↓wl_85_65, ↓wl_85_71, hs_wr, hs_cp, hs_s, hs_n, hs_hs, upd_s, upd_n, upd_upd, ne_eq, Nat.reduceEqDiff, c1_i, c1_r, c2_i, c2_r, ↓reduceIte, List.set_cons_zero, List.set_cons_succ, mm_cb, List.length_cons, List.length_nil, List.all_cons, List.all_nil, Nat.zero_add, Nat.reduceAdd, Nat.reduceLeDiff, Nat.zero_le, decide_true, Bool.and_self, Bool.and_true, true_and, and_true, forall_const, Bool.or_false, Bool.false_or, Bool.or_true, Bool.true_or, Bool.false_eq_true, Nat.reduceBEq, beq_self_eq_true, ha_11, ha_01, hb_10, hb_0x, imp_self, false_implies, not_true_eq_false, not_false_eq_true])
  exact lp 0 (Nat.zero_le _)
theorem r_kgIn {c : Nat} (hc : c < 3) (h : RI (if μ 58 c = -1 then 0 else su (fun l => μ 61 (c * 60 + l)) 60) μ) : mm_Cs hh_S 88 [.ref 48, .int (nI c)] μ RI RV := by
  have lp := up_ind (n := 60) (P := fun i => (μ 58 c = -1 → i = 0) → mm_Rn hh_S 88 RI RV 4 [some (.ref 48), some (.int (nI c)), some (.int (su (fun l => μ 61 (c * 60 + l)) i)), some (.int (nI i))] [] μ) (fun i hi ih => by
    intro h0
    (refine mm_run ok_88 (fun t => t == 4) 9 ?_; rw [lb_88_4, rb_88]; simp only [↓w_aload_0, ↓w_bipush, ↓w_fall, ↓w_getf, ↓w_goto, ↓w_iadd, ↓w_iald, ↓w_ic_eq, ↓w_ic_ge, ↓w_iconst, ↓w_iinc, ↓w_iload_1, ↓w_iload_2, ↓w_iload_3, ↓w_imul, ↓w_iret, ↓w_istore_2, ↓w_istore_3, ↓li_0, ↓li_s, ↓lr_0, ↓lr_s, ↓gf_48_13, ↓gf_48_16, ↓ar_58, ↓ar_61, ↓wl_88_0, ↓wl_88_4, ↓wl_88_40, hs_wr, hs_cp, hs_s, hs_n, hs_hs, upd_s, upd_n, upd_upd, ne_eq, Nat.reduceEqDiff, c1_i, c1_r, c2_i, c2_r, ↓reduceIte, List.set_cons_zero, List.set_cons_succ, mm_cb, List.length_cons, List.length_nil, List.all_cons, List.all_nil, Nat.zero_add, Nat.reduceAdd, Nat.reduceLeDiff, Nat.zero_le, decide_true, Bool.and_self, Bool.and_true, true_and, and_true, forall_const, Bool.or_false, Bool.false_or, Bool.or_true, Bool.true_or, Bool.false_eq_true, Nat.reduceBEq, beq_self_eq_true, ha_11, ha_01, hb_10, hb_0x, imp_self, false_implies, not_true_eq_false, not_false_eq_true])
    rw [ixm2, nI_cl (show c < 2147483648 by omega), nI_cl (show c * 60 + i < 2147483648 by omega), nI_1, show (60 : Int32) = nI 60 from rfl]
    refine ⟨fun q => ?_, fun q => ⟨in_nI hc (by omega), fun r => ?_, fun r => ?_⟩⟩
    · have := le_nI (by omega) (by omega) q
      by_cases hk : μ 58 c = -1
      · have := h0 hk
        omega
      · rw [if_neg hk] at h
        rw [show i = 60 by omega]
        exact h
    · have := h0 r
      subst this
      rw [if_pos r] at h
      exact h
    · have := nle_nI (by omega) (by omega) q
      exact ⟨in_nI (by omega) (by omega), ih (i + 1) (by omega) (by omega) (fun z => absurd z r)⟩)
  refine mm_in rfl (Nat.le_of_ble_eq_true rfl) ?_
  show mm_Rn hh_S 88 RI RV 0 [some (.ref 48), some (.int (nI c)), none, none] [] μ
  (refine mm_run ok_88 (fun t => t == 4) 9 ?_; rw [lb_88_0, rb_88]; simp only [↓w_aload_0, ↓w_bipush, ↓w_fall, ↓w_getf, ↓w_goto, ↓w_iadd, ↓w_iald, ↓w_ic_eq, ↓w_ic_ge, ↓w_iconst, ↓w_iinc, ↓w_iload_1, ↓w_iload_2, ↓w_iload_3, ↓w_imul, ↓w_iret, ↓w_istore_2, ↓w_istore_3, ↓li_0, ↓li_s, ↓lr_0, ↓lr_s, ↓gf_48_13, ↓gf_48_16, ↓ar_58, ↓ar_61, ↓wl_88_0, ↓wl_88_4, ↓wl_88_40, hs_wr, hs_cp, hs_s, hs_n, hs_hs, upd_s, upd_n, upd_upd, ne_eq, Nat.reduceEqDiff, c1_i, c1_r, c2_i, c2_r, ↓reduceIte, List.set_cons_zero, List.set_cons_succ, mm_cb, List.length_cons, List.length_nil, List.all_cons, List.all_nil, Nat.zero_add, Nat.reduceAdd, Nat.reduceLeDiff, Nat.zero_le, decide_true, Bool.and_self, Bool.and_true, true_and, and_true, forall_const, Bool.or_false, Bool.false_or, Bool.or_true, Bool.true_or, Bool.false_eq_true, Nat.reduceBEq, beq_self_eq_true, ha_11, ha_01, hb_10, hb_0x, imp_self, false_implies, not_true_eq_false, not_false_eq_true])
  exact lp 0 (Nat.zero_le _) (fun _ => rfl)
theorem r_casesThere {n : Nat} (hN : μ 48 18 = nI n) (hn : n ≤ 100) {k : Int32} (h : RI (su (fun b => if fsB (μ 62) (μ 66) k b = true then μ 63 b else 0) n) μ) : mm_Cs hh_S 98 [.ref 48, .int k] μ RI RV := by
  have lp := up_ind (n := n) (P := fun i => mm_Rn hh_S 98 RI RV 4 [some (.ref 48), some (.int k), some (.int (su (fun b => if fsB (μ 62) (μ 66) k b = true then μ 63 b else 0) i)), some (.int (nI i))] [] μ) (fun i hi ih => by
    (refine mm_run ok_98 (fun t => t == 4) 9 ?_; rw [lb_98_4, rb_98]; simp only [↓w_aload_0, ↓w_bald, ↓w_fall, ↓w_getf, ↓w_goto, ↓w_iadd, ↓w_iald, ↓w_ic_ge, ↓w_ic_ne, ↓w_iconst, ↓w_if_ne, ↓w_iinc, ↓w_iload_1, ↓w_iload_2, ↓w_iload_3, ↓w_iret, ↓w_istore_2, ↓w_istore_3, ↓li_0, ↓li_s, ↓lr_0, ↓lr_s, ↓gf_48_18, ↓gf_48_19, ↓gf_48_20, ↓gf_48_23, ↓ar_62, ↓ar_63, ↓ar_66, ↓wl_98_0, ↓wl_98_4, ↓wl_98_41, ↓wl_98_42, ↓wl_98_50, hs_wr, hs_cp, hs_s, hs_n, hs_hs, upd_s, upd_n, upd_upd, ne_eq, Nat.reduceEqDiff, c1_i, c1_r, c2_i, c2_r, ↓reduceIte, List.set_cons_zero, List.set_cons_succ, mm_cb, List.length_cons, List.length_nil, List.all_cons, List.all_nil, Nat.zero_add, Nat.reduceAdd, Nat.reduceLeDiff, Nat.zero_le, decide_true, Bool.and_self, Bool.and_true, true_and, and_true, forall_const, Bool.or_false, Bool.false_or, Bool.or_true, Bool.true_or, Bool.false_eq_true, Nat.reduceBEq, beq_self_eq_true, ha_11, ha_01, hb_10, hb_0x, imp_self, false_implies, not_true_eq_false, not_false_eq_true])
    simp only [Int32.add_zero]
    rw [hN, nI_cl (by omega), nI_1]
    refine ⟨fun c => ?_, fun c => ?_⟩
    · have := le_nI (by omega) (by omega) c
      rw [show i = n by omega]
      exact h
    · have := nle_nI (by omega) (by omega) c
      have ih := ih (i + 1) (by omega) (by omega)
      have hii := in_nI (show i < 100 by omega) (by omega)
      have hfs : fsB (μ 62) (μ 66) k i = true ↔ μ 62 i = k ∧ μ 66 i = 0 := by
        unfold fsB
        simp only [Bool.and_eq_true, decide_eq_true_eq]
      have hf : ¬ fsB (μ 62) (μ 66) k i = true → mm_Rn hh_S 98 RI RV 4 [some (.ref 48), some (.int k), some (.int (su (fun b => if fsB (μ 62) (μ 66) k b = true then μ 63 b else 0) i)), some (.int (nI (i + 1)))] [] μ := fun u => by
        rw [su_if_f (f := μ 63) u] at ih
        exact ih
      refine ⟨hii, fun u => hf (fun z => u (hfs.mp z).1), fun u => ⟨hii, fun v => hf (fun z => v (hfs.mp z).2), fun v => ⟨hii, ?_⟩⟩⟩
      rw [su_if_t (f := μ 63) (hfs.mpr ⟨u, v⟩)] at ih
      exact ih)
  refine mm_in rfl (Nat.le_of_ble_eq_true rfl) ?_
  show mm_Rn hh_S 98 RI RV 0 [some (.ref 48), some (.int k), none, none] [] μ
  (refine mm_run ok_98 (fun t => t == 4) 9 ?_; rw [lb_98_0, rb_98]; simp only [↓w_aload_0, ↓w_bald, ↓w_fall, ↓w_getf, ↓w_goto, ↓w_iadd, ↓w_iald, ↓w_ic_ge, ↓w_ic_ne, ↓w_iconst, ↓w_if_ne, ↓w_iinc, ↓w_iload_1, ↓w_iload_2, ↓w_iload_3, ↓w_iret, ↓w_istore_2, ↓w_istore_3, ↓li_0, ↓li_s, ↓lr_0, ↓lr_s, ↓gf_48_18, ↓gf_48_19, ↓gf_48_20, ↓gf_48_23, ↓ar_62, ↓ar_63, ↓ar_66, ↓wl_98_0, ↓wl_98_4, ↓wl_98_41, ↓wl_98_42, ↓wl_98_50, hs_wr, hs_cp, hs_s, hs_n, hs_hs, upd_s, upd_n, upd_upd, ne_eq, Nat.reduceEqDiff, c1_i, c1_r, c2_i, c2_r, ↓reduceIte, List.set_cons_zero, List.set_cons_succ, mm_cb, List.length_cons, List.length_nil, List.all_cons, List.all_nil, Nat.zero_add, Nat.reduceAdd, Nat.reduceLeDiff, Nat.zero_le, decide_true, Bool.and_self, Bool.and_true, true_and, and_true, forall_const, Bool.or_false, Bool.false_or, Bool.or_true, Bool.true_or, Bool.false_eq_true, Nat.reduceBEq, beq_self_eq_true, ha_11, ha_01, hb_10, hb_0x, imp_self, false_implies, not_true_eq_false, not_false_eq_true])
  exact lp 0 (Nat.zero_le _)
theorem r_worthOf {b k : Nat} (hb : b < 100) (hk : k < 4) (hkb : μ 62 b = nI k) (h : RI (cw (μ 55 k) (μ 65 b) (μ 48 0)) μ) : mm_Cs hh_S 97 [.ref 48, .int (nI b)] μ RI RV := by
  refine mm_in rfl (Nat.le_of_ble_eq_true rfl) ?_
  show mm_Rn hh_S 97 RI RV 0 [some (.ref 48), some (.int (nI b)), none, none] [] μ
  (refine mm_run ok_97 (fun t => false) 9 ?_; rw [lb_97_0, rb_97]; simp only [↓w_aload_0, ↓w_bipush, ↓w_fall, ↓w_getf, ↓w_goto, ↓w_iadd, ↓w_iald, ↓w_ic_le, ↓w_iconst, ↓w_idiv, ↓w_iload_1, ↓w_iload_2, ↓w_iload_3, ↓w_imul, ↓w_iret, ↓w_istore_2, ↓w_istore_3, ↓w_isub, ↓w_sipush, ↓li_0, ↓li_s, ↓lr_0, ↓lr_s, ↓gf_48_0, ↓gf_48_19, ↓gf_48_22, ↓gf_48_9, ↓ar_55, ↓ar_62, ↓ar_65, ↓wl_97_0, ↓wl_97_44, ↓wl_97_45, hs_wr, hs_cp, hs_s, hs_n, hs_hs, upd_s, upd_n, upd_upd, ne_eq, Nat.reduceEqDiff, c1_i, c1_r, c2_i, c2_r, ↓reduceIte, List.set_cons_zero, List.set_cons_succ, mm_cb, List.length_cons, List.length_nil, List.all_cons, List.all_nil, Nat.zero_add, Nat.reduceAdd, Nat.reduceLeDiff, Nat.zero_le, decide_true, Bool.and_self, Bool.and_true, true_and, and_true, forall_const, Bool.or_false, Bool.false_or, Bool.or_true, Bool.true_or, Bool.false_eq_true, Nat.reduceBEq, beq_self_eq_true, ha_11, ha_01, hb_10, hb_0x, imp_self, false_implies, not_true_eq_false, not_false_eq_true])
  rw [nI_cl (show b < 2147483648 by omega), hkb, nI_cl (show k < 2147483648 by omega)]
  unfold cw at h
  refine ⟨in_nI hb (by omega), in_nI hk (by omega), in_nI hb (by omega), by decide, by decide, by decide, fun q => ?_, fun q => ?_⟩
  · by_cases h3 : (μ 48 0 - μ 65 b) / 168 / 4 < 3
    · rw [if_pos h3] at h
      exact h
    · rw [if_neg h3] at h
      have e : (μ 48 0 - μ 65 b) / 168 / 4 = 3 := by
        simp only [i_le, i_lt, i_eq] at *
        omega
      rw [e]
      exact h
  · rw [if_neg (by simp only [i_le, i_lt] at *; omega)] at h
    exact h
end M1
