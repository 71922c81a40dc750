/-! the reference's planner: its front, and the calls plan and worth -/
section PM4
variable {μ : mm_M} {RI : Int32 → mm_M → Prop} {RV : mm_M → Prop} {P F T S M Z t : Nat → Nat}
theorem r_plans {n : Nat} (hN : μ 48 1 = nI n) (hn : n ≤ 60) (hsz : ∀ j, j < n → ∃ z, z < 3 ∧ μ 49 j = nI z) (hK : KM μ P F T S) (hM : ∀ s, s < 2 → μ 56 s = nI (M s) ∧ M s ≤ 1000000) (hZ : ∀ z, z < 3 → skI μ n z = nI (Z z) ∧ Z z ≤ 300000) (h : ∀ ν, Pm μ ν → (∃ b w, Opt P F T S M (RZ Z) b w ∧ (∀ k, k < 4 → ν 77 k = nI (b k)) ∧ ν 48 38 = nI w) → RV ν) : mm_Cs hh_S 94 [.ref 48] μ RI RV := by
  have hA : ∀ k, k ≤ 4 → aL P k ≤ 194481 := fun k hk => Nat.le_trans (aL_le k).2 (Nat.pow_le_pow_right (by omega) hk)
  have cds := r_codes (RI := RI) hK hM (fun z hz => (hZ z hz).2) h
  have l82 := up_ind (n := 4) (P := fun k => ∀ (ν : mm_M) (o3 o4 o5 : Option Value), Pm μ ν → (∀ z, z < 3 → ν 75 z = nI (Z z)) → ν 48 38 = -1 → mm_Rn hh_S 94 RI RV 82 [some (.ref 48), some (.int (nI (aL P k))), some (.int (nI k)), o3, o4, o5] [] ν) (fun k hk ih => by
    intro ν o3 o4 o5 hPm hst hb
    have ih := ih (k + 1) (by omega)
    (refine mm_run ok_94 (fun t => t == 82 || t == 113) 12 ?_; rw [lb_94_82, rb_94]; simp only [↓w_aload_0, ↓w_bald, ↓w_bipush, ↓w_dup2, ↓w_fall, ↓w_getf, ↓w_goto, ↓w_iadd, ↓w_iald, ↓w_iast, ↓w_ic_ge, ↓w_ic_le, ↓w_iconst, ↓w_idiv, ↓w_if_eq, ↓w_if_le, ↓w_if_lt, ↓w_if_ne, ↓w_iinc, ↓w_iload, ↓w_iload_1, ↓w_iload_2, ↓w_iload_3, ↓w_imul, ↓w_irem, ↓w_istore, ↓w_istore_1, ↓w_istore_2, ↓w_istore_3, ↓w_putf, ↓w_vret, ↓li_0, ↓li_s, ↓lr_0, ↓lr_s, ↓gf_48_1, ↓gf_48_2, ↓gf_48_3, ↓gf_48_35, ↓gf_48_36, ↓gf_48_37, ↓gf_48_38, ↓gf_48_6, ↓gf_48_9, ↓pf_48_38, ↓rc_48, ↓ar_49, ↓ar_50, ↓ar_53, ↓ar_55, ↓ar_75, ↓ar_76, ↓ar_77, ↓w_c71, ↓w_c93, ↓wl_94_0, ↓wl_94_2, ↓wl_94_20, ↓wl_94_22, ↓wl_94_67, ↓wl_94_73, ↓wl_94_82, ↓wl_94_102, ↓wl_94_103, ↓wl_94_111, ↓wl_94_113, ↓wl_94_126, ↓wl_94_154, ↓wl_94_155, ↓wl_94_171, ↓wl_94_197, ↓wl_94_216, ↓wl_94_225, ↓wl_94_251, ↓wl_94_257, hs_wr, hs_cp, hs_s, hs_n, hs_hs, upd_s, upd_n, upd_upd, ne_eq, Nat.reduceEqDiff, c1_i, c1_r, c2_i, c2_r, ↓reduceIte, List.set_cons_zero, List.set_cons_succ, mm_cb, List.length_cons, List.length_nil, List.all_cons, List.all_nil, Nat.zero_add, Nat.reduceAdd, Nat.reduceLeDiff, Nat.zero_le, decide_true, Bool.and_self, Bool.and_true, true_and, and_true, forall_const, Bool.or_false, Bool.false_or, Bool.or_true, Bool.true_or, Bool.false_eq_true, Nat.reduceBEq, beq_self_eq_true, ha_11, ha_01, hb_10, hb_0x, imp_self, false_implies, not_true_eq_false, not_false_eq_true])
    rw [nI_1, nI_cl (show k < 2147483648 by omega), show (4 : Int32) = nI 4 from rfl]
    refine ⟨fun q => ?_, fun q => ?_⟩
    · have ek : k = 4 := by
        have := le_nI (by omega) (by omega) q
        omega
      subst ek
      exact cds 0 (Nat.zero_le _) ν o3 o4 o5 hPm hst (Or.inl ⟨fun d hd => by omega, hb⟩)
    · have hk4 := nle_nI (by omega) (by omega) q
      have ih := ih (by omega) ν o3 o4 o5 hPm hst hb
      have hin := in_nI hk4 (show 4 < 2147483648 by omega)
      have eP : ν 55 = μ 55 := hPm.1 _ (by decide) (by decide)
      have k5 := (hK k hk4).2.2.2.2.1
      rw [eP, (hK k hk4).1]
      have e : aL P (k + 1) = aL P k * (if 1 ≤ P k then 21 else 1) := rfl
      rw [e] at ih
      refine ⟨hin, fun u => ?_, fun u => ?_⟩
      · have := (le0_nI (by omega)).mp u
        rw [if_neg (by omega), Nat.mul_one] at ih
        rw [Int32.mul_one]
        exact ih
      · have : ¬ P k = 0 := fun w => u ((le0_nI (by omega)).mpr w)
        rw [if_pos (by omega)] at ih
        rw [show (21 : Int32) = nI 21 from rfl, i_mulN]
        exact ih)
  have l22 := up_ind (n := n) (P := fun i => ∀ (ν : mm_M) (o2 o3 o4 o5 : Option Value), Pm μ ν → (∀ z, z < 3 → ν 75 z = skI μ i z) → mm_Rn hh_S 94 RI RV 22 [some (.ref 48), some (.int (nI i)), o2, o3, o4, o5] [] ν) (fun i hi ih => by
    intro ν o2 o3 o4 o5 hPm hst
    have ih := ih (i + 1) (by omega)
    have e1 : ν 48 1 = nI n := (hPm.2 1 (by decide)).trans hN
    have e0 : ν 48 0 = μ 48 0 := hPm.2 0 (by decide)
    have c49 : ν 49 = μ 49 := hPm.1 _ (by decide) (by decide)
    have c50 : ν 50 = μ 50 := hPm.1 _ (by decide) (by decide)
    have c51 : ν 51 = μ 51 := hPm.1 _ (by decide) (by decide)
    have c52 : ν 52 = μ 52 := hPm.1 _ (by decide) (by decide)
    have c53 : ν 53 = μ 53 := hPm.1 _ (by decide) (by decide)
    (refine mm_run ok_94 (fun t => t == 22 || t == 82) 12 ?_; rw [lb_94_22, rb_94]; simp only [↓w_aload_0, ↓w_bald, ↓w_bipush, ↓w_dup2, ↓w_fall, ↓w_getf, ↓w_goto, ↓w_iadd, ↓w_iald, ↓w_iast, ↓w_ic_ge, ↓w_ic_le, ↓w_iconst, ↓w_idiv, ↓w_if_eq, ↓w_if_le, ↓w_if_lt, ↓w_if_ne, ↓w_iinc, ↓w_iload, ↓w_iload_1, ↓w_iload_2, ↓w_iload_3, ↓w_imul, ↓w_irem, ↓w_istore, ↓w_istore_1, ↓w_istore_2, ↓w_istore_3, ↓w_putf, ↓w_vret, ↓li_0, ↓li_s, ↓lr_0, ↓lr_s, ↓gf_48_1, ↓gf_48_2, ↓gf_48_3, ↓gf_48_35, ↓gf_48_36, ↓gf_48_37, ↓gf_48_38, ↓gf_48_6, ↓gf_48_9, ↓pf_48_38, ↓rc_48, ↓ar_49, ↓ar_50, ↓ar_53, ↓ar_55, ↓ar_75, ↓ar_76, ↓ar_77, ↓w_c71, ↓w_c93, ↓wl_94_0, ↓wl_94_2, ↓wl_94_20, ↓wl_94_22, ↓wl_94_67, ↓wl_94_73, ↓wl_94_82, ↓wl_94_102, ↓wl_94_103, ↓wl_94_111, ↓wl_94_113, ↓wl_94_126, ↓wl_94_154, ↓wl_94_155, ↓wl_94_171, ↓wl_94_197, ↓wl_94_216, ↓wl_94_225, ↓wl_94_251, ↓wl_94_257, hs_wr, hs_cp, hs_s, hs_n, hs_hs, upd_s, upd_n, upd_upd, ne_eq, Nat.reduceEqDiff, c1_i, c1_r, c2_i, c2_r, ↓reduceIte, List.set_cons_zero, List.set_cons_succ, mm_cb, List.length_cons, List.length_nil, List.all_cons, List.all_nil, Nat.zero_add, Nat.reduceAdd, Nat.reduceLeDiff, Nat.zero_le, decide_true, Bool.and_self, Bool.and_true, true_and, and_true, forall_const, Bool.or_false, Bool.false_or, Bool.or_true, Bool.true_or, Bool.false_eq_true, Nat.reduceBEq, beq_self_eq_true, ha_11, ha_01, hb_10, hb_0x, imp_self, false_implies, not_true_eq_false, not_false_eq_true])
    rw [nI_1, nI_cl (show i < 2147483648 by omega), e1]
    refine ⟨fun q => ?_, fun q => ?_⟩
    · have ei : i = n := by
        have := le_nI (by omega) (by omega) q
        omega
      subst ei
      refine l82 0 (Nat.zero_le _) _ o3 o4 o5 (Pm_bw hPm) (fun z hz => ?_) ?_
      · rw [hs_n (by decide), hst z hz]
        exact (hZ z hz).1
      · rw [hs_s, upd_s]
    · have hin := nle_nI (by omega) (by omega) q
      have ih := ih (by omega)
      have es : ∀ z, skI μ (i + 1) z = skI μ i z + (if (fmB (μ 51) (μ 52) (μ 50) (μ 48 0) i = true ∧ μ 53 i = 0) ∧ μ 49 i = nI z then μ 50 i else 0) := fun z => rfl
      have hi60 := in_nI (show i < 60 by omega) (show 60 < 2147483648 by omega)
      refine r_isFresh (by omega) (fun u => ⟨fun z => absurd z (by decide), fun _ => ⟨hi60, fun v => ?_, fun v => ?_⟩⟩) (fun u => ⟨fun _ => ?_, fun z => absurd rfl z⟩)
      · refine ih ν o2 o3 o4 o5 hPm (fun z hz => ?_)
        rw [c53] at v
        rw [es z, if_neg (fun w => v w.1.2), Int32.add_zero]
        exact hst z hz
      · obtain ⟨y, hy, ey⟩ := hsz i hin
        rw [c53] at v
        rw [c51, c52, c50, e0] at u
        rw [c49, ey, nI_cl (show y < 2147483648 by omega), c50]
        refine ⟨hi60, in_nI hy (by omega), hi60, in_nI hy (by omega), ih _ o2 o3 o4 o5 (Pm_row hPm (by decide)) (fun z hz => ?_)⟩
        rw [hs_s, es z]
        by_cases e : z = y
        · subst e
          rw [upd_s, if_pos ⟨⟨u, v⟩, ey⟩, hst z hz]
        · rw [upd_n e, if_neg (fun w => e (nI_inj2 (by omega) (by omega) (w.2.symm.trans ey))), Int32.add_zero]
          exact hst z hz
      · refine ih ν o2 o3 o4 o5 hPm (fun z hz => ?_)
        rw [c51, c52, c50, e0] at u
        rw [es z, if_neg (fun w => u w.1.1), Int32.add_zero]
        exact hst z hz)
  have l2 := up_ind (n := 3) (P := fun i => ∀ (ν : mm_M) (o2 o3 o4 o5 : Option Value), Pm μ ν → (∀ z, z < i → ν 75 z = 0) → mm_Rn hh_S 94 RI RV 2 [some (.ref 48), some (.int (nI i)), o2, o3, o4, o5] [] ν) (fun i hi ih => by
    intro ν o2 o3 o4 o5 hPm hst
    have ih := ih (i + 1) (by omega)
    (refine mm_run ok_94 (fun t => t == 2 || t == 22) 12 ?_; rw [lb_94_2, rb_94]; simp only [↓w_aload_0, ↓w_bald, ↓w_bipush, ↓w_dup2, ↓w_fall, ↓w_getf, ↓w_goto, ↓w_iadd, ↓w_iald, ↓w_iast, ↓w_ic_ge, ↓w_ic_le, ↓w_iconst, ↓w_idiv, ↓w_if_eq, ↓w_if_le, ↓w_if_lt, ↓w_if_ne, ↓w_iinc, ↓w_iload, ↓w_iload_1, ↓w_iload_2, ↓w_iload_3, ↓w_imul, ↓w_irem, ↓w_istore, ↓w_istore_1, ↓w_istore_2, ↓w_istore_3, ↓w_putf, ↓w_vret, ↓li_0, ↓li_s, ↓lr_0, ↓lr_s, ↓gf_48_1, ↓gf_48_2, ↓gf_48_3, ↓gf_48_35, ↓gf_48_36, ↓gf_48_37, ↓gf_48_38, ↓gf_48_6, ↓gf_48_9, ↓pf_48_38, ↓rc_48, ↓ar_49, ↓ar_50, ↓ar_53, ↓ar_55, ↓ar_75, ↓ar_76, ↓ar_77, ↓w_c71, ↓w_c93, ↓wl_94_0, ↓wl_94_2, ↓wl_94_20, ↓wl_94_22, ↓wl_94_67, ↓wl_94_73, ↓wl_94_82, ↓wl_94_102, ↓wl_94_103, ↓wl_94_111, ↓wl_94_113, ↓wl_94_126, ↓wl_94_154, ↓wl_94_155, ↓wl_94_171, ↓wl_94_197, ↓wl_94_216, ↓wl_94_225, ↓wl_94_251, ↓wl_94_257, hs_wr, hs_cp, hs_s, hs_n, hs_hs, upd_s, upd_n, upd_upd, ne_eq, Nat.reduceEqDiff, c1_i, c1_r, c2_i, c2_r, ↓reduceIte, List.set_cons_zero, List.set_cons_succ, mm_cb, List.length_cons, List.length_nil, List.all_cons, List.all_nil, Nat.zero_add, Nat.reduceAdd, Nat.reduceLeDiff, Nat.zero_le, decide_true, Bool.and_self, Bool.and_true, true_and, and_true, forall_const, Bool.or_false, Bool.false_or, Bool.or_true, Bool.true_or, Bool.false_eq_true, Nat.reduceBEq, beq_self_eq_true, ha_11, ha_01, hb_10, hb_0x, imp_self, false_implies, not_true_eq_false, not_false_eq_true])
    rw [nI_1, nI_cl (show i < 2147483648 by omega), show (3 : Int32) = nI 3 from rfl]
    refine ⟨fun q => ?_, fun q => ?_⟩
    · have ei : i = 3 := by
        have := le_nI (by omega) (by omega) q
        omega
      subst ei
      exact l22 0 (Nat.zero_le _) ν o2 o3 o4 o5 hPm hst
    · have hi3 := nle_nI (by omega) (by omega) q
      refine ⟨in_nI hi3 (by omega), ih (by omega) _ o2 o3 o4 o5 (Pm_row hPm (by decide)) (fun z hz => ?_)⟩
      rw [hs_s]
      by_cases e : z = i
      · subst e
        rw [upd_s]
      · rw [upd_n e]
        exact hst z (by omega))
  refine mm_in rfl (Nat.le_of_ble_eq_true rfl) ?_
  show mm_Rn hh_S 94 RI RV 0 [some (.ref 48), none, none, none, none, none] [] μ
  (refine mm_run ok_94 (fun t => t == 2) 12 ?_; rw [lb_94_0, rb_94]; simp only [↓w_aload_0, ↓w_bald, ↓w_bipush, ↓w_dup2, ↓w_fall, ↓w_getf, ↓w_goto, ↓w_iadd, ↓w_iald, ↓w_iast, ↓w_ic_ge, ↓w_ic_le, ↓w_iconst, ↓w_idiv, ↓w_if_eq, ↓w_if_le, ↓w_if_lt, ↓w_if_ne, ↓w_iinc, ↓w_iload, ↓w_iload_1, ↓w_iload_2, ↓w_iload_3, ↓w_imul, ↓w_irem, ↓w_istore, ↓w_istore_1, ↓w_istore_2, ↓w_istore_3, ↓w_putf, ↓w_vret, ↓li_0, ↓li_s, ↓lr_0, ↓lr_s, ↓gf_48_1, ↓gf_48_2, ↓gf_48_3, ↓gf_48_35, ↓gf_48_36, ↓gf_48_37, ↓gf_48_38, ↓gf_48_6, ↓gf_48_9, ↓pf_48_38, ↓rc_48, ↓ar_49, ↓ar_50, ↓ar_53, ↓ar_55, ↓ar_75, ↓ar_76, ↓ar_77, ↓w_c71, ↓w_c93, ↓wl_94_0, ↓wl_94_2, ↓wl_94_20, ↓wl_94_22, ↓wl_94_67, ↓wl_94_73, ↓wl_94_82, ↓wl_94_102, ↓wl_94_103, ↓wl_94_111, ↓wl_94_113, ↓wl_94_126, ↓wl_94_154, ↓wl_94_155, ↓wl_94_171, ↓wl_94_197, ↓wl_94_216, ↓wl_94_225, ↓wl_94_251, ↓wl_94_257, hs_wr, hs_cp, hs_s, hs_n, hs_hs, upd_s, upd_n, upd_upd, ne_eq, Nat.reduceEqDiff, c1_i, c1_r, c2_i, c2_r, ↓reduceIte, List.set_cons_zero, List.set_cons_succ, mm_cb, List.length_cons, List.length_nil, List.all_cons, List.all_nil, Nat.zero_add, Nat.reduceAdd, Nat.reduceLeDiff, Nat.zero_le, decide_true, Bool.and_self, Bool.and_true, true_and, and_true, forall_const, Bool.or_false, Bool.false_or, Bool.or_true, Bool.true_or, Bool.false_eq_true, Nat.reduceBEq, beq_self_eq_true, ha_11, ha_01, hb_10, hb_0x, imp_self, false_implies, not_true_eq_false, not_false_eq_true])
  exact l2 0 (by omega) μ none none none none ⟨fun _ _ _ => rfl, fun _ _ => rfl⟩ (fun z hz => by omega)
theorem r_plan {n : Nat} {x : Int32} (hN : μ 48 1 = nI n) (hn : n ≤ 60) (hsz : ∀ j, j < n → ∃ z, z < 3 ∧ μ 49 j = nI z) (hK : KM μ P F T S) (hM : ∀ s, s < 2 → μ 56 s = nI (M s) ∧ M s ≤ 1000000) (hZ : ∀ z, z < 3 → skI μ n z = nI (Z z) ∧ Z z ≤ 300000) (h0 : (∀ j, j < 4 → x = nI j → μ 55 j ≤ 0) → RI (-1) μ) (h1 : ∀ j, j < 4 → x = nI j → ¬ μ 55 j ≤ 0 → ∀ ν b w, Pm μ ν → Opt P F T S M (RZ Z) b w → RI (nI (b j)) ν) : mm_Cs hh_S 95 [.ref 48, .int x] μ RI RV := by
  refine mm_in rfl (Nat.le_of_ble_eq_true rfl) ?_
  show mm_Rn hh_S 95 RI RV 0 [some (.ref 48), some (.int x)] [] μ
  (refine mm_run ok_95 (fun t => false) 12 ?_; rw [lb_95_0, rb_95]; simp only [↓w_aload_0, ↓w_getf, ↓w_iald, ↓w_iconst, ↓w_if_ne, ↓w_iload_1, ↓w_iret, ↓li_0, ↓li_s, ↓lr_0, ↓lr_s, ↓gf_48_37, ↓rc_48, ↓ar_77, ↓w_c77, ↓w_c94, ↓wl_95_0, ↓wl_95_10, hs_wr, hs_cp, hs_s, hs_n, hs_hs, upd_s, upd_n, upd_upd, ne_eq, Nat.reduceEqDiff, c1_i, c1_r, c2_i, c2_r, ↓reduceIte, List.set_cons_zero, List.set_cons_succ, mm_cb, List.length_cons, List.length_nil, List.all_cons, List.all_nil, Nat.zero_add, Nat.reduceAdd, Nat.reduceLeDiff, Nat.zero_le, decide_true, Bool.and_self, Bool.and_true, true_and, and_true, forall_const, Bool.or_false, Bool.false_or, Bool.or_true, Bool.true_or, Bool.false_eq_true, Nat.reduceBEq, beq_self_eq_true, ha_11, ha_01, hb_10, hb_0x, imp_self, false_implies, not_true_eq_false, not_false_eq_true])
  refine r_isTold (fun j hj e hk => ?_) (fun e => ⟨fun q => absurd rfl q, fun _ => h0 e⟩)
  subst e
  refine ⟨fun _ => ?_, fun q => absurd q (by decide)⟩
  rw [nI_cl (show j < 2147483648 by omega)]
  refine r_plans hN hn hsz hK hM hZ (fun ν g1 ⟨b, w, g2, g3, g4⟩ => ⟨in_nI hj (by omega), ?_⟩)
  rw [g3 j hj]
  exact h1 j hj rfl hk ν b w g1 g2
theorem r_worth {n : Nat} (hN : μ 48 1 = nI n) (hn : n ≤ 60) (hsz : ∀ j, j < n → ∃ z, z < 3 ∧ μ 49 j = nI z) (hK : KM μ P F T S) (hM : ∀ s, s < 2 → μ 56 s = nI (M s) ∧ M s ≤ 1000000) (hZ : ∀ z, z < 3 → skI μ n z = nI (Z z) ∧ Z z ≤ 300000) (h : ∀ ν b w, Pm μ ν → Opt P F T S M (RZ Z) b w → RI (nI w) ν) : mm_Cs hh_S 96 [.ref 48] μ RI RV := by
  refine mm_in rfl (Nat.le_of_ble_eq_true rfl) ?_
  show mm_Rn hh_S 96 RI RV 0 [some (.ref 48)] [] μ
  (refine mm_run ok_96 (fun t => false) 12 ?_; rw [lb_96_0, rb_96]; simp only [↓w_aload_0, ↓w_getf, ↓w_iret, ↓li_0, ↓li_s, ↓lr_0, ↓lr_s, ↓gf_48_38, ↓rc_48, ↓w_c94, ↓wl_96_0, hs_wr, hs_cp, hs_s, hs_n, hs_hs, upd_s, upd_n, upd_upd, ne_eq, Nat.reduceEqDiff, c1_i, c1_r, c2_i, c2_r, ↓reduceIte, List.set_cons_zero, List.set_cons_succ, mm_cb, List.length_cons, List.length_nil, List.all_cons, List.all_nil, Nat.zero_add, Nat.reduceAdd, Nat.reduceLeDiff, Nat.zero_le, decide_true, Bool.and_self, Bool.and_true, true_and, and_true, forall_const, Bool.or_false, Bool.false_or, Bool.or_true, Bool.true_or, Bool.false_eq_true, Nat.reduceBEq, beq_self_eq_true, ha_11, ha_01, hb_10, hb_0x, imp_self, false_implies, not_true_eq_false, not_false_eq_true])
  refine r_plans hN hn hsz hK hM hZ (fun ν g1 ⟨b, w, g2, g3, g4⟩ => ?_)
  rw [g4]
  exact h ν b w g1 g2
end PM4
