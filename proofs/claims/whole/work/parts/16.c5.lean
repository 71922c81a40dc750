/-! the class's calls, the small ones -/
def Vland (a b c : Int32) (n : Nat) : Prop := (0 ≤ a ∧ a ≤ 2) ∧ (1 ≤ b ∧ b ≤ 5000) ∧ (0 ≤ c ∧ c ≤ 19) ∧ n < 60
def Vice (x i : Int32) : Prop := (1 ≤ x ∧ x ≤ 100000) ∧ i + x ≤ 1000000
def Vkind (μp : Nat → Int32) (a w p : Int32) : Prop := (∃ j, j < 4 ∧ a = nI j ∧ μp j = 0) ∧ kOK w ∧ (1 ≤ p ∧ p ≤ 99)
def Vsauce (sa : Nat → Int32) (a b : Int32) : Prop := (∃ j, j < 2 ∧ a = nI j ∧ sa j + b ≤ 100000) ∧ (1 ≤ b ∧ b ≤ 10000)
theorem lt20 {x : Int32} : x < 20 ↔ x ≤ 19 := by
  rw [i_lt, i_le, show (20 : Int32).toInt = 20 by decide, show (19 : Int32).toInt = 19 by decide]
  omega
theorem le39 {x : Int32} (h : x ≤ 19) : x ≤ 39 := by
  rw [i_le, show (19 : Int32).toInt = 19 by decide] at h
  rw [i_le, show (39 : Int32).toInt = 39 by decide]
  omega
/-- the answers of a switch -/
def swV (x : Int32) : Nat → List Int32 → Int32
  | _, [] => -1
  | j, v :: vs => if x = Int32.ofNat j then v else swV x (j + 1) vs
theorem swV_out {x : Int32} : ∀ (vs : List Int32) (j : Nat), (x.toInt < j ∨ ((j + vs.length : Nat) : Int) ≤ x.toInt) → j + vs.length ≤ 1000 → swV x j vs = -1
  | [], _, _, _ => rfl
  | v :: vs, j, h, hl => by
    unfold swV
    simp only [List.length_cons] at h hl
    rw [if_neg, swV_out vs (j + 1) (by omega) (by omega)]
    intro e
    have : x.toInt = j := by
      rw [e]
      exact i_nI (by omega)
    omega
theorem swO {RI : Int32 → mm_M → Prop} {μ : mm_M} {x : Int32} {vs : List Int32} (h : RI (swV x 0 vs) μ) (o : x.toInt < 0 ∨ (vs.length : Int) ≤ x.toInt) (hl : vs.length ≤ 1000) : RI (-1) μ := by
  rw [swV_out vs 0 (by omega) (by omega)] at h
  exact h
section C5
variable {μ : mm_M} {RI : Int32 → mm_M → Prop} {RV : mm_M → Prop}
theorem c_land {n : Nat} (hN : μ 1 6 = nI n) (hn : n ≤ 60) (ho : ∀ i, i < n → ∃ j, j < 60 ∧ μ 14 i = nI j) {a b c : Int32} (h0 : ¬ Vland a b c n → RI (-1) μ) (h1 : Vland a b c n → RI (nI n) (hs (hs (hs (hs (hs μ 9 (upd (μ 9) n a)) 10 (upd (μ 10) n b)) 11 (upd (μ 11) n (μ 0 8 - c))) 14 (pin (upd (μ 11) n (μ 0 8 - c)) (nI n) n (μ 14))) 1 (upd (μ 1) 6 (nI (n + 1))))) : mm_Cs hh_S 41 [.ref 0, .int a, .int b, .int c] μ RI RV := by
  refine mm_in rfl (Nat.le_of_ble_eq_true rfl) ?_
  show mm_Rn hh_S 41 RI RV 0 [some (.ref 0), some (.int a), some (.int b), some (.int c)] [] μ
  (refine mm_run ok_41 (fun t => false) 9 ?_; rw [lb_41_0, rb_41]; simp only [↓w_aload_0, ↓w_bipush, ↓w_fall, ↓w_getf, ↓w_ic_lt, ↓w_iconst, ↓w_if_eq, ↓w_if_ne, ↓w_iload_1, ↓w_iload_2, ↓w_iload_3, ↓w_iret, ↓w_isub, ↓w_sipush, ↓li_0, ↓li_s, ↓lr_0, ↓lr_s, ↓gf_0_0, ↓gf_0_8, ↓rc_1, ↓w_c27, ↓w_c65, ↓wl_41_0, ↓wl_41_20, ↓wl_41_22, ↓wl_41_38, ↓wl_41_40, hs_wr, hs_cp, hs_s, hs_n, hs_hs, upd_s, upd_n, upd_upd, ne_eq, Nat.reduceEqDiff, c1_i, c1_r, c2_i, c2_r, ↓reduceIte, List.set_cons_zero, List.set_cons_succ, mm_cb, List.length_cons, List.length_nil, List.all_cons, List.all_nil, Nat.zero_add, Nat.reduceAdd, Nat.reduceLeDiff, Nat.zero_le, decide_true, Bool.and_self, Bool.and_true, true_and, and_true, forall_const, Bool.or_false, Bool.false_or, Bool.or_true, Bool.true_or, Bool.false_eq_true, Nat.reduceBEq, beq_self_eq_true, ha_11, ha_01, hb_10, hb_0x, imp_self, false_implies, not_true_eq_false, not_false_eq_true])
  refine q_within (fun a1 a2 => br1 ?_) (fun h => br0 (h0 (fun z => h z.1)))
  refine q_within (fun b1 b2 => br1n ?_) (fun h => br0n (h0 (fun z => h z.2.1)))
  refine q_within (fun c1 c2 => br1 ?_) (fun h => br0 (h0 (fun z => h ⟨z.2.2.1.1, le39 z.2.2.1.2⟩)))
  refine ⟨fun d => ?_, fun d => h0 (fun z => d (lt20.mpr z.2.2.1.2))⟩
  exact q_addL hN hn ho (fun e => h0 (fun z => by have := z.2.2.2; omega)) (fun e => h1 ⟨⟨a1, a2⟩, ⟨b1, b2⟩, ⟨c1, lt20.mp d⟩, e⟩)
theorem c_ice {x : Int32} (h0 : ¬ Vice x (μ 0 9) → RI (-1) μ) (h1 : Vice x (μ 0 9) → RI (μ 0 9 + x) (hs μ 0 (upd (μ 0) 9 (μ 0 9 + x)))) : mm_Cs hh_S 42 [.ref 0, .int x] μ RI RV := by
  refine mm_in rfl (Nat.le_of_ble_eq_true rfl) ?_
  show mm_Rn hh_S 42 RI RV 0 [some (.ref 0), some (.int x)] [] μ
  (refine mm_run ok_42 (fun t => false) 9 ?_; rw [lb_42_0, rb_42]; simp only [↓w_aload_0, ↓w_dup, ↓w_fall, ↓w_getf, ↓w_iadd, ↓w_ic_le, ↓w_iconst, ↓w_if_eq, ↓w_iload_1, ↓w_iret, ↓w_ldc, ↓w_putf, ↓li_0, ↓li_s, ↓lr_0, ↓lr_s, ↓gf_0_9, ↓pf_0_9, ↓w_c65, ↓wl_42_0, ↓wl_42_21, ↓wl_42_23, hs_wr, hs_cp, hs_s, hs_n, hs_hs, upd_s, upd_n, upd_upd, ne_eq, Nat.reduceEqDiff, c1_i, c1_r, c2_i, c2_r, ↓reduceIte, List.set_cons_zero, List.set_cons_succ, mm_cb, List.length_cons, List.length_nil, List.all_cons, List.all_nil, Nat.zero_add, Nat.reduceAdd, Nat.reduceLeDiff, Nat.zero_le, decide_true, Bool.and_self, Bool.and_true, true_and, and_true, forall_const, Bool.or_false, Bool.false_or, Bool.or_true, Bool.true_or, Bool.false_eq_true, Nat.reduceBEq, beq_self_eq_true, ha_11, ha_01, hb_10, hb_0x, imp_self, false_implies, not_true_eq_false, not_false_eq_true])
  exact q_within (fun a b => br1 ⟨fun c => h1 ⟨⟨a, b⟩, c⟩, fun c => h0 (fun z => c z.2)⟩) (fun h => br0 (h0 (fun z => h z.1)))
theorem c_iced {n : Nat} (hN : μ 1 6 = nI n) (hn : n ≤ 60) {x : Int32} (h0 : (∀ j, j < n → x = nI j → ¬ (frB (μ 11) (μ 12) (μ 0 8) j = true ∧ 1 ≤ μ 10 j ∧ μ 12 j = 0 ∧ μ 10 j ≤ μ 0 9)) → RI 0 μ) (h1 : ∀ j, j < n → x = nI j → frB (μ 11) (μ 12) (μ 0 8) j = true → 1 ≤ μ 10 j → μ 12 j = 0 → μ 10 j ≤ μ 0 9 → RI 1 (hs (hs μ 0 (upd (μ 0) 9 (μ 0 9 - μ 10 j))) 12 (upd (μ 12) j 1))) : mm_Cs hh_S 43 [.ref 0, .int x] μ RI RV := by
  refine mm_in rfl (Nat.le_of_ble_eq_true rfl) ?_
  show mm_Rn hh_S 43 RI RV 0 [some (.ref 0), some (.int x)] [] μ
  (refine mm_run ok_43 (fun t => false) 9 ?_; rw [lb_43_0, rb_43]; simp only [↓w_aload_0, ↓w_bald, ↓w_bast, ↓w_dup, ↓w_fall, ↓w_getf, ↓w_iald, ↓w_ic_ge, ↓w_ic_le, ↓w_iconst, ↓w_if_eq, ↓w_if_ne, ↓w_iload_1, ↓w_iret, ↓w_isub, ↓w_putf, ↓li_0, ↓li_s, ↓lr_0, ↓lr_s, ↓gf_0_0, ↓gf_0_8, ↓gf_0_9, ↓gf_1_1, ↓gf_1_3, ↓pf_0_9, ↓rc_1, ↓ar_10, ↓ar_12, ↓w_c26, ↓w_c29, ↓wl_43_0, ↓wl_43_39, ↓wl_43_41, ↓wl_43_69, ↓wl_43_71, hs_wr, hs_cp, hs_s, hs_n, hs_hs, upd_s, upd_n, upd_upd, ne_eq, Nat.reduceEqDiff, c1_i, c1_r, c2_i, c2_r, ↓reduceIte, List.set_cons_zero, List.set_cons_succ, mm_cb, List.length_cons, List.length_nil, List.all_cons, List.all_nil, Nat.zero_add, Nat.reduceAdd, Nat.reduceLeDiff, Nat.zero_le, decide_true, Bool.and_self, Bool.and_true, true_and, and_true, forall_const, Bool.or_false, Bool.false_or, Bool.or_true, Bool.true_or, Bool.false_eq_true, Nat.reduceBEq, beq_self_eq_true, ha_11, ha_01, hb_10, hb_0x, imp_self, false_implies, not_true_eq_false, not_false_eq_true])
  refine q_hasLot hN hn (fun j hj e => br1 ?_) (fun h => br0 (h0 (fun j hj e => absurd e (h j hj))))
  have hf : ¬ (frB (μ 11) (μ 12) (μ 0 8) j = true ∧ 1 ≤ μ 10 j ∧ μ 12 j = 0 ∧ μ 10 j ≤ μ 0 9) → RI 0 μ := fun z => h0 (fun i hi e2 => by
    have : i = j := (nI_eq (by omega) (by omega)).mp (e2.symm.trans e)
    subst this
    exact z)
  have hi := in_nI (show j < 60 by omega) (by omega)
  subst e
  rw [nI_cl (by omega)]
  refine q_isFreshC (by omega) (fun u => br1 ⟨hi, fun a => ⟨hi, fun b => hf (fun z => b z.2.2.1), fun b => ⟨hi, fun c => ⟨hi, hi, h1 j hj rfl u a b c⟩, fun c => hf (fun z => c z.2.2.2)⟩⟩, fun a => hf (fun z => a z.2.1)⟩) (fun u => br0 (hf (fun z => u z.1)))
theorem c_kind {a w p : Int32} (h0 : ¬ Vkind (μ 15) a w p → RI 0 μ) (h1 : ∀ j, j < 4 → a = nI j → μ 15 j = 0 → kOK w → 1 ≤ p → p ≤ 99 → RI 1 (hs (hs (hs (hs (hs (hs (hs μ 16 (upd (μ 16) j (w / 1000))) 17 (upd (μ 17) j (w / 100 - w / 100 / 10 * 10))) 18 (upd (μ 18) j (w / 10 - w / 10 / 10 * 10))) 19 (upd (μ 19) j (w - w / 10 * 10))) 20 (upd (μ 20) j p)) 15 (upd (μ 15) j 1)) 2 (upd (μ 2) 6 (μ 2 6 + 1)))) : mm_Cs hh_S 44 [.ref 0, .int a, .int w, .int p] μ RI RV := by
  refine mm_in rfl (Nat.le_of_ble_eq_true rfl) ?_
  show mm_Rn hh_S 44 RI RV 0 [some (.ref 0), some (.int a), some (.int w), some (.int p)] [] μ
  (refine mm_run ok_44 (fun t => false) 12 ?_; rw [lb_44_0, rb_44]; simp only [↓w_aload_0, ↓w_bald, ↓w_bipush, ↓w_fall, ↓w_getf, ↓w_iconst, ↓w_if_eq, ↓w_if_ne, ↓w_iload_1, ↓w_iload_2, ↓w_iload_3, ↓w_iret, ↓li_0, ↓li_s, ↓lr_0, ↓lr_s, ↓gf_0_1, ↓gf_2_0, ↓rc_2, ↓ar_15, ↓w_c19, ↓w_c25, ↓w_c65, ↓wl_44_0, ↓wl_44_21, ↓wl_44_23, ↓wl_44_40, ↓wl_44_42, hs_wr, hs_cp, hs_s, hs_n, hs_hs, upd_s, upd_n, upd_upd, ne_eq, Nat.reduceEqDiff, c1_i, c1_r, c2_i, c2_r, ↓reduceIte, List.set_cons_zero, List.set_cons_succ, mm_cb, List.length_cons, List.length_nil, List.all_cons, List.all_nil, Nat.zero_add, Nat.reduceAdd, Nat.reduceLeDiff, Nat.zero_le, decide_true, Bool.and_self, Bool.and_true, true_and, and_true, forall_const, Bool.or_false, Bool.false_or, Bool.or_true, Bool.true_or, Bool.false_eq_true, Nat.reduceBEq, beq_self_eq_true, ha_11, ha_01, hb_10, hb_0x, imp_self, false_implies, not_true_eq_false, not_false_eq_true])
  refine q_within (fun a1 a2 => br1 ?_) (fun h => br0 (h0 (fun z => by
    obtain ⟨j, hj, e, -⟩ := z.1
    exact ix_nlit (n := 4) i_0 (by decide) h j hj e)))
  obtain ⟨j, hj, rfl⟩ := ix_lit (n := 4) i_0 (by decide) a1 a2
  have hi := in_nI hj (by omega)
  rw [nI_cl (by omega)]
  refine ⟨hi, fun b => ?_, fun b => h0 (fun z => ?_)⟩
  · refine q_canBeK (fun c => br1 ?_) (fun c => br0 (h0 (fun z => c z.2.1)))
    refine q_within (fun d1 d2 => br1n ?_) (fun d => br0n (h0 (fun z => d z.2.2)))
    exact q_addKind hj (h1 j hj rfl b c d1 d2)
  · obtain ⟨i, hi, e, hk⟩ := z.1
    have : j = i := (nI_eq (by omega) (by omega)).mp e
    subst this
    exact b hk
theorem c_sauce {a b : Int32} (h0 : ¬ Vsauce (μ 8) a b → RI (-1) μ) (h1 : ∀ j, j < 2 → a = nI j → Vsauce (μ 8) a b → RI (μ 8 j + b) (hs μ 8 (upd (μ 8) j (μ 8 j + b)))) : mm_Cs hh_S 45 [.ref 0, .int a, .int b] μ RI RV := by
  refine mm_in rfl (Nat.le_of_ble_eq_true rfl) ?_
  show mm_Rn hh_S 45 RI RV 0 [some (.ref 0), some (.int a), some (.int b)] [] μ
  (refine mm_run ok_45 (fun t => false) 12 ?_; rw [lb_45_0, rb_45]; simp only [↓w_aload_0, ↓w_dup2, ↓w_fall, ↓w_getf, ↓w_iadd, ↓w_iald, ↓w_iast, ↓w_ic_le, ↓w_iconst, ↓w_if_eq, ↓w_if_ne, ↓w_iload_1, ↓w_iload_2, ↓w_iret, ↓w_ldc, ↓w_sipush, ↓li_0, ↓li_s, ↓lr_0, ↓lr_s, ↓gf_0_7, ↓ar_8, ↓w_c65, ↓wl_45_0, ↓wl_45_20, ↓wl_45_22, ↓wl_45_37, hs_wr, hs_cp, hs_s, hs_n, hs_hs, upd_s, upd_n, upd_upd, ne_eq, Nat.reduceEqDiff, c1_i, c1_r, c2_i, c2_r, ↓reduceIte, List.set_cons_zero, List.set_cons_succ, mm_cb, List.length_cons, List.length_nil, List.all_cons, List.all_nil, Nat.zero_add, Nat.reduceAdd, Nat.reduceLeDiff, Nat.zero_le, decide_true, Bool.and_self, Bool.and_true, true_and, and_true, forall_const, Bool.or_false, Bool.false_or, Bool.or_true, Bool.true_or, Bool.false_eq_true, Nat.reduceBEq, beq_self_eq_true, ha_11, ha_01, hb_10, hb_0x, imp_self, false_implies, not_true_eq_false, not_false_eq_true])
  refine q_within (fun a1 a2 => br1 ?_) (fun h => br0 (h0 (fun z => by
    obtain ⟨j, hj, e, -⟩ := z.1
    exact ix_nlit (n := 2) i_0 (by decide) h j hj e)))
  obtain ⟨j, hj, rfl⟩ := ix_lit (n := 2) i_0 (by decide) a1 a2
  have hi := in_nI hj (by omega)
  rw [nI_cl (by omega)]
  refine q_within (fun b1 b2 => br1n ⟨hi, fun c => ⟨hi, hi, hi, ?_⟩, fun c => h0 (fun z => ?_)⟩) (fun h => br0n (h0 (fun z => h z.2)))
  · exact h1 j hj rfl ⟨⟨j, hj, rfl, c⟩, b1, b2⟩
  · obtain ⟨i, hi, e, hk⟩ := z.1
    have : j = i := (nI_eq (by omega) (by omega)).mp e
    subst this
    exact c hk
theorem c_call {a : Int32} (h0 : (∀ j, j < 3 → a = nI j → ¬ goB (μ 21) (μ 22) (μ 0 8) j = true) → RI (-1) μ) (h1 : ∀ j, j < 3 → a = nI j → goB (μ 21) (μ 22) (μ 0 8) j = true → RI (μ 0 8 + 3) (hs (hs μ 22 (upd (μ 22) j (μ 0 8 + 3))) 21 (upd (μ 21) j 1))) : mm_Cs hh_S 46 [.ref 0, .int a] μ RI RV := by
  refine mm_in rfl (Nat.le_of_ble_eq_true rfl) ?_
  show mm_Rn hh_S 46 RI RV 0 [some (.ref 0), some (.int a)] [] μ
  (refine mm_run ok_46 (fun t => false) 12 ?_; rw [lb_46_0, rb_46]; simp only [↓w_aload_0, ↓w_bast, ↓w_fall, ↓w_getf, ↓w_iadd, ↓w_iald, ↓w_iast, ↓w_iconst, ↓w_if_eq, ↓w_if_ne, ↓w_iload_1, ↓w_iret, ↓li_0, ↓li_s, ↓lr_0, ↓lr_s, ↓gf_0_2, ↓gf_0_8, ↓gf_3_0, ↓gf_3_1, ↓rc_3, ↓ar_21, ↓ar_22, ↓w_c17, ↓w_c65, ↓wl_46_0, ↓wl_46_24, ↓wl_46_26, hs_wr, hs_cp, hs_s, hs_n, hs_hs, upd_s, upd_n, upd_upd, ne_eq, Nat.reduceEqDiff, c1_i, c1_r, c2_i, c2_r, ↓reduceIte, List.set_cons_zero, List.set_cons_succ, mm_cb, List.length_cons, List.length_nil, List.all_cons, List.all_nil, Nat.zero_add, Nat.reduceAdd, Nat.reduceLeDiff, Nat.zero_le, decide_true, Bool.and_self, Bool.and_true, true_and, and_true, forall_const, Bool.or_false, Bool.false_or, Bool.or_true, Bool.true_or, Bool.false_eq_true, Nat.reduceBEq, beq_self_eq_true, ha_11, ha_01, hb_10, hb_0x, imp_self, false_implies, not_true_eq_false, not_false_eq_true])
  refine q_within (fun a1 a2 => br1 ?_) (fun h => br0 (h0 (fun j hj e => absurd e (ix_nlit (n := 3) i_0 (by decide) h j hj))))
  obtain ⟨j, hj, rfl⟩ := ix_lit (n := 3) i_0 (by decide) a1 a2
  have hi := in_nI hj (by omega)
  rw [nI_cl (by omega)]
  refine q_isGone hj (fun u => br1n ⟨hi, hi, hi, h1 j hj rfl u⟩) (fun u => br0n (h0 (fun i hi e => ?_)))
  have : j = i := (nI_eq (by omega) (by omega)).mp e
  subst this
  exact u
theorem c_fail {a : Int32} (h0 : (∀ j, j < 3 → a = nI j → μ 23 j = -1) → RI (-1) μ) (h1 : ∀ j, j < 3 → a = nI j → ¬ μ 23 j = -1 → RI (μ 26 j) (hs (hs (hs (hs (hs (hs μ 0 (upd (μ 0) 11 (μ 0 11 + μ 26 j))) 23 (upd (μ 23) j (-1))) 24 (upd (μ 24) j 0)) 26 (upd (μ 26) j 0)) 25 (upd (μ 25) j (-1))) 27 (rw0 (μ 27) j 60))) : mm_Cs hh_S 48 [.ref 0, .int a] μ RI RV := by
  refine mm_in rfl (Nat.le_of_ble_eq_true rfl) ?_
  show mm_Rn hh_S 48 RI RV 0 [some (.ref 0), some (.int a), none] [] μ
  (refine mm_run ok_48 (fun t => false) 12 ?_; rw [lb_48_0, rb_48]; simp only [↓w_aload_0, ↓w_dup, ↓w_fall, ↓w_getf, ↓w_iadd, ↓w_iald, ↓w_iconst, ↓w_if_eq, ↓w_iload_1, ↓w_iload_2, ↓w_iret, ↓w_istore_2, ↓w_putf, ↓li_0, ↓li_s, ↓lr_0, ↓lr_s, ↓gf_0_11, ↓gf_0_3, ↓gf_4_3, ↓pf_0_11, ↓rc_4, ↓ar_26, ↓w_c12, ↓w_c16, ↓w_c65, ↓wl_48_0, ↓wl_48_20, ↓wl_48_22, hs_wr, hs_cp, hs_s, hs_n, hs_hs, upd_s, upd_n, upd_upd, ne_eq, Nat.reduceEqDiff, c1_i, c1_r, c2_i, c2_r, ↓reduceIte, List.set_cons_zero, List.set_cons_succ, mm_cb, List.length_cons, List.length_nil, List.all_cons, List.all_nil, Nat.zero_add, Nat.reduceAdd, Nat.reduceLeDiff, Nat.zero_le, decide_true, Bool.and_self, Bool.and_true, true_and, and_true, forall_const, Bool.or_false, Bool.false_or, Bool.or_true, Bool.true_or, Bool.false_eq_true, Nat.reduceBEq, beq_self_eq_true, ha_11, ha_01, hb_10, hb_0x, imp_self, false_implies, not_true_eq_false, not_false_eq_true])
  refine q_within (fun a1 a2 => br1 ?_) (fun h => br0 (h0 (fun j hj e => absurd e (ix_nlit (n := 3) i_0 (by decide) h j hj))))
  obtain ⟨j, hj, rfl⟩ := ix_lit (n := 3) i_0 (by decide) a1 a2
  have hi := in_nI hj (by omega)
  rw [nI_cl (by omega)]
  refine q_isFree hj (fun u => br1 (h0 (fun i hi e => ?_))) (fun u => br0 ⟨hi, ?_⟩)
  · have : j = i := (nI_eq (by omega) (by omega)).mp e
    subst this
    exact u
  · refine q_empty hj ?_
    simp only [hs_n, ne_eq, Nat.reduceEqDiff, not_false_eq_true]
    exact h1 j hj rfl u
def Vcontract (kn : Nat → Int32) (a b c d t : Int32) (n : Nat) : Prop := (0 ≤ a ∧ a ≤ 5) ∧ (∃ j, j < 4 ∧ b = nI j ∧ ¬ kn j = 0) ∧ (1 ≤ c ∧ c ≤ 500) ∧ (t / 168 ≤ d ∧ d ≤ 29) ∧ n < 20
theorem c_contract {n : Nat} (hN : μ 6 7 = nI n) (hn : n ≤ 20) (ho : ∀ i, i < n → ∃ j, j < 20 ∧ μ 41 i = nI j) {a b c d : Int32} (h0 : ¬ Vcontract (μ 15) a b c d (μ 0 8) n → RI (-1) μ) (h1 : Vcontract (μ 15) a b c d (μ 0 8) n → RI (nI n) (hs (hs (hs (hs (hs (hs μ 35 (upd (μ 35) n a)) 36 (upd (μ 36) n b)) 37 (upd (μ 37) n c)) 38 (upd (μ 38) n d)) 41 (pin (upd (μ 38) n d) (nI n) n (μ 41))) 6 (upd (μ 6) 7 (nI (n + 1))))) : mm_Cs hh_S 53 [.ref 0, .int a, .int b, .int c, .int d] μ RI RV := by
  refine mm_in rfl (Nat.le_of_ble_eq_true rfl) ?_
  show mm_Rn hh_S 53 RI RV 0 [some (.ref 0), some (.int a), some (.int b), some (.int c), some (.int d)] [] μ
  (refine mm_run ok_53 (fun t => false) 12 ?_; rw [lb_53_0, rb_53]; simp only [↓w_aload_0, ↓w_bipush, ↓w_fall, ↓w_getf, ↓w_iconst, ↓w_idiv, ↓w_if_eq, ↓w_if_ne, ↓w_iload, ↓w_iload_1, ↓w_iload_2, ↓w_iload_3, ↓w_iret, ↓w_sipush, ↓li_0, ↓li_s, ↓lr_0, ↓lr_s, ↓gf_0_1, ↓gf_0_5, ↓gf_0_8, ↓rc_2, ↓rc_6, ↓w_c24, ↓w_c65, ↓w_c8, ↓wl_53_0, ↓wl_53_20, ↓wl_53_22, ↓wl_53_51, ↓wl_53_53, hs_wr, hs_cp, hs_s, hs_n, hs_hs, upd_s, upd_n, upd_upd, ne_eq, Nat.reduceEqDiff, c1_i, c1_r, c2_i, c2_r, ↓reduceIte, List.set_cons_zero, List.set_cons_succ, mm_cb, List.length_cons, List.length_nil, List.all_cons, List.all_nil, Nat.zero_add, Nat.reduceAdd, Nat.reduceLeDiff, Nat.zero_le, decide_true, Bool.and_self, Bool.and_true, true_and, and_true, forall_const, Bool.or_false, Bool.false_or, Bool.or_true, Bool.true_or, Bool.false_eq_true, Nat.reduceBEq, beq_self_eq_true, ha_11, ha_01, hb_10, hb_0x, imp_self, false_implies, not_true_eq_false, not_false_eq_true])
  refine q_within (fun a1 a2 => br1 ?_) (fun h => br0 (h0 (fun z => h z.1)))
  refine q_hasKind (fun j hj eb hk => br1n ?_) (fun h => br0n (h0 (fun z => by
    obtain ⟨j, hj, e, hk⟩ := z.2.1
    exact hk (h j hj e))))
  refine q_within (fun c1 c2 => br1 ⟨by decide, ?_⟩) (fun h => br0 (h0 (fun z => h z.2.2.1)))
  refine q_within (fun d1 d2 => br1n ?_) (fun h => br0n (h0 (fun z => h z.2.2.2.1)))
  exact q_addC hN hn ho (fun e => h0 (fun z => by have := z.2.2.2.2; omega)) (fun e => h1 ⟨⟨a1, a2⟩, ⟨j, hj, eb, hk⟩, ⟨c1, c2⟩, ⟨d1, d2⟩, e⟩)
theorem c_recall {n nb : Nat} (hN : μ 1 6 = nI n) (hn : n ≤ 60) (hB : μ 5 7 = nI nb) (hb : nb ≤ 100) {x : Int32} (h0 : (∀ j, j < n → x = nI j → ¬ μ 13 j = 0) → RI (-1) μ) (h1 : ∀ j, j < n → x = nI j → μ 13 j = 0 → RI (so (fun b => if decide (¬ μ 34 (b * 60 + j) ≤ 0) = true then μ 32 b else 0) nb) (hs (hs μ 13 (upd (μ 13) j 1)) 33 (fun b => if b < nb ∧ ¬ μ 34 (b * 60 + j) ≤ 0 then 1 else μ 33 b))) : mm_Cs hh_S 55 [.ref 0, .int x] μ RI RV := by
  refine mm_in rfl (Nat.le_of_ble_eq_true rfl) ?_
  show mm_Rn hh_S 55 RI RV 0 [some (.ref 0), some (.int x)] [] μ
  (refine mm_run ok_55 (fun t => false) 12 ?_; rw [lb_55_0, rb_55]; simp only [↓w_aload_0, ↓w_bald, ↓w_bast, ↓w_fall, ↓w_getf, ↓w_iconst, ↓w_if_eq, ↓w_iload_1, ↓w_iret, ↓li_0, ↓li_s, ↓lr_0, ↓lr_s, ↓gf_0_0, ↓gf_0_4, ↓gf_1_4, ↓rc_1, ↓rc_5, ↓ar_13, ↓w_c26, ↓w_c6, ↓wl_55_0, ↓wl_55_23, ↓wl_55_25, hs_wr, hs_cp, hs_s, hs_n, hs_hs, upd_s, upd_n, upd_upd, ne_eq, Nat.reduceEqDiff, c1_i, c1_r, c2_i, c2_r, ↓reduceIte, List.set_cons_zero, List.set_cons_succ, mm_cb, List.length_cons, List.length_nil, List.all_cons, List.all_nil, Nat.zero_add, Nat.reduceAdd, Nat.reduceLeDiff, Nat.zero_le, decide_true, Bool.and_self, Bool.and_true, true_and, and_true, forall_const, Bool.or_false, Bool.false_or, Bool.or_true, Bool.true_or, Bool.false_eq_true, Nat.reduceBEq, beq_self_eq_true, ha_11, ha_01, hb_10, hb_0x, imp_self, false_implies, not_true_eq_false, not_false_eq_true])
  refine q_hasLot hN hn (fun j hj e => br1 ?_) (fun h => br0 (h0 (fun j hj e => absurd e (h j hj))))
  have hi := in_nI (show j < 60 by omega) (by omega)
  subst e
  rw [nI_cl (by omega)]
  refine ⟨hi, fun u => ⟨hi, ?_⟩, fun u => h0 (fun i hi e => ?_)⟩
  · refine q_bar (n := nb) ?_ hb (by omega) ?_
    · simp only [hs_n, ne_eq, Nat.reduceEqDiff, not_false_eq_true]
      exact hB
    · simp only [hs_n, ne_eq, Nat.reduceEqDiff, not_false_eq_true]
      exact h1 j hj rfl u
  · have : j = i := (nI_eq (by omega) (by omega)).mp e
    subst this
    exact u
theorem c_lot {n : Nat} (hN : μ 1 6 = nI n) (hn : n ≤ 60) {x w : Int32} (h0 : (∀ j, j < n → ¬ x = nI j) → RI (-1) μ) (h1 : ∀ j, j < n → x = nI j → RI (swV w 0 [μ 9 j, μ 10 j, stH (μ 11) (μ 12) j, if μ 12 j = 0 then 0 else 1, if μ 13 j = 0 then 0 else 1]) μ) : mm_Cs hh_S 56 [.ref 0, .int x, .int w] μ RI RV := by
  refine mm_in rfl (Nat.le_of_ble_eq_true rfl) ?_
  show mm_Rn hh_S 56 RI RV 0 [some (.ref 0), some (.int x), some (.int w)] [] μ
  (refine mm_run ok_56 (fun t => false) 12 ?_; rw [lb_56_0, rb_56]; simp only [↓w_aload_0, ↓w_bald, ↓w_getf, ↓w_iald, ↓w_iconst, ↓w_if_ne, ↓w_iload_1, ↓w_iload_2, ↓w_iret, ↓w_table, ↓sw_n, ↓sw_c, ↓li_0, ↓li_s, ↓lr_0, ↓lr_s, ↓gf_0_0, ↓gf_1_0, ↓gf_1_1, ↓gf_1_3, ↓gf_1_4, ↓rc_1, ↓ar_9, ↓ar_10, ↓ar_12, ↓ar_13, ↓w_c26, ↓w_c28, ↓w_c66, ↓wl_56_0, ↓wl_56_13, ↓wl_56_48, ↓wl_56_58, ↓wl_56_68, ↓wl_56_77, ↓wl_56_90, ↓wl_56_103, hs_wr, hs_cp, hs_s, hs_n, hs_hs, upd_s, upd_n, upd_upd, ne_eq, Nat.reduceEqDiff, c1_i, c1_r, c2_i, c2_r, ↓reduceIte, List.set_cons_zero, List.set_cons_succ, mm_cb, List.length_cons, List.length_nil, List.all_cons, List.all_nil, Nat.zero_add, Nat.reduceAdd, Nat.reduceLeDiff, Nat.zero_le, decide_true, Bool.and_self, Bool.and_true, true_and, and_true, forall_const, Bool.or_false, Bool.false_or, Bool.or_true, Bool.true_or, Bool.false_eq_true, Nat.reduceBEq, beq_self_eq_true, ha_11, ha_01, hb_10, hb_0x, imp_self, false_implies, not_true_eq_false, not_false_eq_true])
  refine q_hasLot hN hn (fun j hj e => br1n ?_) (fun h => br0n (h0 h))
  have hi := in_nI (show j < 60 by omega) (by omega)
  have g1 := h1 j hj e
  clear h1 h0
  subst e
  rw [nI_cl (by omega)]
  refine ⟨fun o => ?_, fun e => ?_, fun e => ?_, fun e => ?_, fun e => ?_, fun e => ?_⟩
  · exact swO g1 o (by simp)
  · subst e; exact ⟨hi, g1⟩
  · subst e; exact ⟨hi, g1⟩
  · subst e; exact q_stale (by omega) g1
  · subst e; exact ⟨hi, q_bit g1⟩
  · subst e; exact ⟨hi, q_bit g1⟩
theorem c_batch {n : Nat} (hN : μ 5 7 = nI n) (hn : n ≤ 100) (hk : ∀ b, b < n → ∃ k, k < 4 ∧ μ 28 b = nI k) {x w : Int32} (h0 : (∀ j, j < n → ¬ x = nI j) → RI (-1) μ) (h1 : ∀ j k, j < n → x = nI j → k < 4 → μ 28 j = nI k → RI (swV w 0 [μ 28 j, μ 30 j, μ 31 j, if μ 33 j = 0 then 0 else 1, μ 29 j, cw (μ 20 k) (μ 31 j) (μ 0 8)]) μ) : mm_Cs hh_S 57 [.ref 0, .int x, .int w] μ RI RV := by
  refine mm_in rfl (Nat.le_of_ble_eq_true rfl) ?_
  show mm_Rn hh_S 57 RI RV 0 [some (.ref 0), some (.int x), some (.int w)] [] μ
  (refine mm_run ok_57 (fun t => false) 12 ?_; rw [lb_57_0, rb_57]; simp only [↓w_aload_0, ↓w_bald, ↓w_getf, ↓w_iald, ↓w_iconst, ↓w_if_ne, ↓w_iload_1, ↓w_iload_2, ↓w_iret, ↓w_table, ↓sw_n, ↓sw_c, ↓li_0, ↓li_s, ↓lr_0, ↓lr_s, ↓gf_0_1, ↓gf_0_4, ↓gf_0_8, ↓gf_2_5, ↓gf_5_0, ↓gf_5_1, ↓gf_5_2, ↓gf_5_3, ↓gf_5_5, ↓rc_5, ↓ar_20, ↓ar_28, ↓ar_29, ↓ar_30, ↓ar_31, ↓ar_33, ↓w_c0, ↓w_c4, ↓w_c66, ↓wl_57_0, ↓wl_57_13, ↓wl_57_52, ↓wl_57_62, ↓wl_57_72, ↓wl_57_82, ↓wl_57_95, ↓wl_57_105, ↓wl_57_135, hs_wr, hs_cp, hs_s, hs_n, hs_hs, upd_s, upd_n, upd_upd, ne_eq, Nat.reduceEqDiff, c1_i, c1_r, c2_i, c2_r, ↓reduceIte, List.set_cons_zero, List.set_cons_succ, mm_cb, List.length_cons, List.length_nil, List.all_cons, List.all_nil, Nat.zero_add, Nat.reduceAdd, Nat.reduceLeDiff, Nat.zero_le, decide_true, Bool.and_self, Bool.and_true, true_and, and_true, forall_const, Bool.or_false, Bool.false_or, Bool.or_true, Bool.true_or, Bool.false_eq_true, Nat.reduceBEq, beq_self_eq_true, ha_11, ha_01, hb_10, hb_0x, imp_self, false_implies, not_true_eq_false, not_false_eq_true])
  refine q_hasBatch hN hn (fun j hj e => br1n ?_) (fun h => br0n (h0 h))
  have hi := in_nI (show j < 100 by omega) (by omega)
  obtain ⟨k, hk4, ek⟩ := hk j hj
  have g1 := h1 j k hj e hk4 ek
  clear h1 h0
  subst e
  rw [nI_cl (by omega)]
  refine ⟨fun o => ?_, fun e => ?_, fun e => ?_, fun e => ?_, fun e => ?_, fun e => ?_, fun e => ?_⟩
  · exact swO g1 o (by simp)
  · subst e; exact ⟨hi, g1⟩
  · subst e; exact ⟨hi, g1⟩
  · subst e; exact ⟨hi, g1⟩
  · subst e; exact ⟨hi, q_bit g1⟩
  · subst e; exact ⟨hi, g1⟩
  · subst e
    rw [ek, nI_cl (show k < 2147483648 by omega)]
    exact ⟨hi, in_nI hk4 (by omega), q_caseWorth (by omega) g1⟩
theorem c_of {n nb : Nat} (hN : μ 1 6 = nI n) (hn : n ≤ 60) (hB : μ 5 7 = nI nb) (hb : nb ≤ 100) {x y : Int32} (h0 : (∀ b j, b < nb → j < n → x = nI b → ¬ y = nI j) → RI (-1) μ) (h1 : ∀ b j, b < nb → j < n → x = nI b → y = nI j → RI (μ 34 (b * 60 + j)) μ) : mm_Cs hh_S 58 [.ref 0, .int x, .int y] μ RI RV := by
  refine mm_in rfl (Nat.le_of_ble_eq_true rfl) ?_
  show mm_Rn hh_S 58 RI RV 0 [some (.ref 0), some (.int x), some (.int y)] [] μ
  (refine mm_run ok_58 (fun t => false) 12 ?_; rw [lb_58_0, rb_58]; simp only [↓w_aload_0, ↓w_bipush, ↓w_fall, ↓w_getf, ↓w_iadd, ↓w_iald, ↓w_iconst, ↓w_if_eq, ↓w_if_ne, ↓w_iload_1, ↓w_iload_2, ↓w_imul, ↓w_iret, ↓li_0, ↓li_s, ↓lr_0, ↓lr_s, ↓gf_0_0, ↓gf_0_4, ↓gf_5_6, ↓rc_1, ↓rc_5, ↓ar_34, ↓w_c0, ↓w_c26, ↓wl_58_0, ↓wl_58_22, ↓wl_58_24, hs_wr, hs_cp, hs_s, hs_n, hs_hs, upd_s, upd_n, upd_upd, ne_eq, Nat.reduceEqDiff, c1_i, c1_r, c2_i, c2_r, ↓reduceIte, List.set_cons_zero, List.set_cons_succ, mm_cb, List.length_cons, List.length_nil, List.all_cons, List.all_nil, Nat.zero_add, Nat.reduceAdd, Nat.reduceLeDiff, Nat.zero_le, decide_true, Bool.and_self, Bool.and_true, true_and, and_true, forall_const, Bool.or_false, Bool.false_or, Bool.or_true, Bool.true_or, Bool.false_eq_true, Nat.reduceBEq, beq_self_eq_true, ha_11, ha_01, hb_10, hb_0x, imp_self, false_implies, not_true_eq_false, not_false_eq_true])
  refine q_hasBatch hB hb (fun b hb2 e => br1 ?_) (fun h => br0 (h0 (fun b j hb hj e => absurd e (h b hb))))
  refine q_hasLot hN hn (fun j hj e2 => br1n ?_) (fun h => br0n (h0 (fun b j hb hj e => h j hj)))
  subst e
  subst e2
  rw [ixm, nI_cl (by omega)]
  exact ⟨in_nI (by omega) (by omega), h1 b j hb2 hj rfl rfl⟩
theorem c_cooker {x w : Int32} (h0 : (∀ j, j < 3 → ¬ x = nI j) → RI (-1) μ) (h1 : ∀ j, j < 3 → x = nI j → RI (swV w 0 [μ 23 j, μ 24 j, μ 25 j]) μ) : mm_Cs hh_S 59 [.ref 0, .int x, .int w] μ RI RV := by
  refine mm_in rfl (Nat.le_of_ble_eq_true rfl) ?_
  show mm_Rn hh_S 59 RI RV 0 [some (.ref 0), some (.int x), some (.int w)] [] μ
  (refine mm_run ok_59 (fun t => false) 12 ?_; rw [lb_59_0, rb_59]; simp only [↓w_aload_0, ↓w_getf, ↓w_iald, ↓w_iconst, ↓w_if_ne, ↓w_iload_1, ↓w_iload_2, ↓w_iret, ↓w_table, ↓sw_n, ↓sw_c, ↓li_0, ↓li_s, ↓lr_0, ↓lr_s, ↓gf_0_3, ↓gf_4_0, ↓gf_4_1, ↓gf_4_2, ↓ar_23, ↓ar_24, ↓ar_25, ↓w_c65, ↓wl_59_0, ↓wl_59_11, ↓wl_59_40, ↓wl_59_50, ↓wl_59_60, ↓wl_59_70, hs_wr, hs_cp, hs_s, hs_n, hs_hs, upd_s, upd_n, upd_upd, ne_eq, Nat.reduceEqDiff, c1_i, c1_r, c2_i, c2_r, ↓reduceIte, List.set_cons_zero, List.set_cons_succ, mm_cb, List.length_cons, List.length_nil, List.all_cons, List.all_nil, Nat.zero_add, Nat.reduceAdd, Nat.reduceLeDiff, Nat.zero_le, decide_true, Bool.and_self, Bool.and_true, true_and, and_true, forall_const, Bool.or_false, Bool.false_or, Bool.or_true, Bool.true_or, Bool.false_eq_true, Nat.reduceBEq, beq_self_eq_true, ha_11, ha_01, hb_10, hb_0x, imp_self, false_implies, not_true_eq_false, not_false_eq_true])
  refine q_within (fun a1 a2 => br1n ?_) (fun h => br0n (h0 (ix_nlit (n := 3) i_0 (by decide) h)))
  obtain ⟨j, hj, e⟩ := ix_lit (n := 3) i_0 (by decide) a1 a2
  have hi := in_nI hj (by omega)
  have g1 := h1 j hj e
  clear h1 h0
  subst e
  rw [nI_cl (by omega)]
  refine ⟨fun o => ?_, fun e => ?_, fun e => ?_, fun e => ?_⟩
  · exact swO g1 o (by simp)
  · subst e; exact ⟨hi, g1⟩
  · subst e; exact ⟨hi, g1⟩
  · subst e; exact ⟨hi, g1⟩
theorem c_told {n : Nat} (hN : μ 6 7 = nI n) (hn : n ≤ 20) {x w : Int32} (h0 : (∀ j, j < n → ¬ x = nI j) → RI (-1) μ) (h1 : ∀ j, j < n → x = nI j → RI (swV w 0 [μ 35 j, μ 36 j, μ 37 j, μ 38 j, μ 39 j, if μ 40 j = 0 then 0 else 1]) μ) : mm_Cs hh_S 60 [.ref 0, .int x, .int w] μ RI RV := by
  refine mm_in rfl (Nat.le_of_ble_eq_true rfl) ?_
  show mm_Rn hh_S 60 RI RV 0 [some (.ref 0), some (.int x), some (.int w)] [] μ
  (refine mm_run ok_60 (fun t => false) 12 ?_; rw [lb_60_0, rb_60]; simp only [↓w_aload_0, ↓w_bald, ↓w_getf, ↓w_iald, ↓w_iconst, ↓w_if_ne, ↓w_iload_1, ↓w_iload_2, ↓w_iret, ↓w_table, ↓sw_n, ↓sw_c, ↓li_0, ↓li_s, ↓lr_0, ↓lr_s, ↓gf_0_5, ↓gf_6_0, ↓gf_6_1, ↓gf_6_2, ↓gf_6_3, ↓gf_6_4, ↓gf_6_5, ↓rc_6, ↓ar_35, ↓ar_36, ↓ar_37, ↓ar_38, ↓ar_39, ↓ar_40, ↓w_c66, ↓w_c7, ↓wl_60_0, ↓wl_60_13, ↓wl_60_52, ↓wl_60_62, ↓wl_60_72, ↓wl_60_82, ↓wl_60_92, ↓wl_60_102, ↓wl_60_115, hs_wr, hs_cp, hs_s, hs_n, hs_hs, upd_s, upd_n, upd_upd, ne_eq, Nat.reduceEqDiff, c1_i, c1_r, c2_i, c2_r, ↓reduceIte, List.set_cons_zero, List.set_cons_succ, mm_cb, List.length_cons, List.length_nil, List.all_cons, List.all_nil, Nat.zero_add, Nat.reduceAdd, Nat.reduceLeDiff, Nat.zero_le, decide_true, Bool.and_self, Bool.and_true, true_and, and_true, forall_const, Bool.or_false, Bool.false_or, Bool.or_true, Bool.true_or, Bool.false_eq_true, Nat.reduceBEq, beq_self_eq_true, ha_11, ha_01, hb_10, hb_0x, imp_self, false_implies, not_true_eq_false, not_false_eq_true])
  refine q_hasContract hN hn (fun j hj e => br1n ?_) (fun h => br0n (h0 h))
  have hi := in_nI (show j < 20 by omega) (by omega)
  have g1 := h1 j hj e
  clear h1 h0
  subst e
  rw [nI_cl (by omega)]
  refine ⟨fun o => ?_, fun e => ?_, fun e => ?_, fun e => ?_, fun e => ?_, fun e => ?_, fun e => ?_⟩
  · exact swO g1 o (by simp)
  · subst e; exact ⟨hi, g1⟩
  · subst e; exact ⟨hi, g1⟩
  · subst e; exact ⟨hi, g1⟩
  · subst e; exact ⟨hi, g1⟩
  · subst e; exact ⟨hi, g1⟩
  · subst e; exact ⟨hi, q_bit g1⟩
theorem c_count {n : Nat} (hN : μ 1 6 = nI n) (hn : n ≤ 60) {w : Int32} (g1 : RI (swV w 0 [μ 0 8, μ 1 6, su (μ 10) n, su (μ 26) 3, μ 5 8, μ 0 11, μ 5 7, su (fun j => if thB (μ 21) (μ 22) (μ 0 8) j = true then 1 else 0) 3, μ 0 10, μ 0 12, μ 0 13, μ 0 9, μ 8 0, μ 8 1]) μ) : mm_Cs hh_S 61 [.ref 0, .int w] μ RI RV := by
  refine mm_in rfl (Nat.le_of_ble_eq_true rfl) ?_
  show mm_Rn hh_S 61 RI RV 0 [some (.ref 0), some (.int w)] [] μ
  (refine mm_run ok_61 (fun t => false) 12 ?_; rw [lb_61_0, rb_61]; simp only [↓w_aload_0, ↓w_getf, ↓w_iald, ↓w_iconst, ↓w_iload_1, ↓w_iret, ↓w_table, ↓sw_n, ↓sw_c, ↓li_0, ↓li_s, ↓lr_0, ↓lr_s, ↓gf_0_0, ↓gf_0_10, ↓gf_0_11, ↓gf_0_12, ↓gf_0_13, ↓gf_0_2, ↓gf_0_3, ↓gf_0_4, ↓gf_0_7, ↓gf_0_8, ↓gf_0_9, ↓gf_1_6, ↓gf_5_7, ↓gf_5_8, ↓rc_1, ↓rc_3, ↓rc_4, ↓ar_8, ↓w_c14, ↓w_c18, ↓w_c30, ↓wl_61_0, ↓wl_61_72, ↓wl_61_77, ↓wl_61_85, ↓wl_61_93, ↓wl_61_101, ↓wl_61_109, ↓wl_61_114, ↓wl_61_122, ↓wl_61_134, ↓wl_61_139, ↓wl_61_144, ↓wl_61_149, ↓wl_61_154, ↓wl_61_161, ↓wl_61_168, hs_wr, hs_cp, hs_s, hs_n, hs_hs, upd_s, upd_n, upd_upd, ne_eq, Nat.reduceEqDiff, c1_i, c1_r, c2_i, c2_r, ↓reduceIte, List.set_cons_zero, List.set_cons_succ, mm_cb, List.length_cons, List.length_nil, List.all_cons, List.all_nil, Nat.zero_add, Nat.reduceAdd, Nat.reduceLeDiff, Nat.zero_le, decide_true, Bool.and_self, Bool.and_true, true_and, and_true, forall_const, Bool.or_false, Bool.false_or, Bool.or_true, Bool.true_or, Bool.false_eq_true, Nat.reduceBEq, beq_self_eq_true, ha_11, ha_01, hb_10, hb_0x, imp_self, false_implies, not_true_eq_false, not_false_eq_true])
  refine ⟨fun o => ?_, fun e => ?_, fun e => ?_, fun e => ?_, fun e => ?_, fun e => ?_, fun e => ?_, fun e => ?_, fun e => ?_, fun e => ?_, fun e => ?_, fun e => ?_, fun e => ?_, fun e => ?_, fun e => ?_⟩
  · exact swO g1 o (by simp)
  · subst e; exact g1
  · subst e; exact g1
  · subst e; exact q_kilograms hN hn g1
  · subst e; exact q_allKg g1
  · subst e; exact g1
  · subst e; exact g1
  · subst e; exact g1
  · subst e; exact q_thereC g1
  · subst e; exact g1
  · subst e; exact g1
  · subst e; exact g1
  · subst e; exact g1
  · subst e; exact ⟨in_nI (i := 0) (by decide) (by decide), g1⟩
  · subst e; exact ⟨in_nI (i := 1) (by decide) (by decide), g1⟩
end C5
