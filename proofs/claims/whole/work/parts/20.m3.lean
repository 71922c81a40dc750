/-! the reference's calls: selling, what lacks -/
def svM (wk ov cu kd wa : Nat → Int32) (a b : Int32) (w : Nat) (c : Nat) (s : svT) : svT :=
  if ov c = 0 ∧ wk c = nI w ∧ cu c = a ∧ kd c = b then
    (s.1 - (if s.1 ≤ wa c - s.2 c then s.1 else wa c - s.2 c), upd s.2 c (s.2 c + (if s.1 ≤ wa c - s.2 c then s.1 else wa c - s.2 c)))
  else s
theorem dl_left {kd ba dn : Nat → Int32} {k cu p t : Int32} {s0 : dlT} : ∀ (i b : Nat), i ≤ b → (fo (dlS kd ba dn k cu p t) i s0).2.2.1 b = s0.2.2.1 b
  | 0, _, _ => rfl
  | i + 1, b, h => by
    show (dlS kd ba dn k cu p t i (fo (dlS kd ba dn k cu p t) i s0)).2.2.1 b = _
    rw [← dl_left (kd := kd) (ba := ba) (dn := dn) (k := k) (cu := cu) (p := p) (t := t) (s0 := s0) i b (by omega)]
    unfold dlS
    split
    · rfl
    · split
      · show upd _ i _ b = _
        rw [upd_n (by omega)]
      · rfl
/-- a contract stands ahead of another -/
def ahB (wk : Nat → Int32) (x c : Nat) : Bool := decide (wk c < wk x) || (decide (wk c = wk x) && decide (c < x))
def bfB (wk ov kd : Nat → Int32) (x c : Nat) : Bool := decide (ov c = 0) && decide (kd c = kd x) && ahB wk x c
section M3
variable {μ : mm_M} {RI : Int32 → mm_M → Prop} {RV : mm_M → Prop}
theorem r_sell194 {nc w : Nat} (hC : μ 48 27 = nI nc) (hc : nc ≤ 20) {a b m pd : Int32} {s : svT} (h : ∀ o7 o8, mm_Rn hh_S 99 RI RV 184 [some (.ref 48), some (.int a), some (.int b), some (.int m), some (.int (fo (svM (μ 72) (μ 74) (μ 69) (μ 70) (μ 71) a b w) nc s).1), some (.int pd), some (.int (nI (w + 1))), o7, o8] [] (hs μ 73 (fo (svM (μ 72) (μ 74) (μ 69) (μ 70) (μ 71) a b w) nc s).2)) : ∀ o8, mm_Rn hh_S 99 RI RV 194 [some (.ref 48), some (.int a), some (.int b), some (.int m), some (.int s.1), some (.int pd), some (.int (nI w)), some (.int 0), o8] [] (hs μ 73 s.2) := by
  generalize hF : svM (μ 72) (μ 74) (μ 69) (μ 70) (μ 71) a b w = F at h
  have lp := up_ind (n := nc) (P := fun i => ∀ o8, mm_Rn hh_S 99 RI RV 194 [some (.ref 48), some (.int a), some (.int b), some (.int m), some (.int (fo F i s).1), some (.int pd), some (.int (nI w)), some (.int (nI i)), o8] [] (hs μ 73 (fo F i s).2)) (fun i hi ih => by
    intro o8
    have ih := ih (i + 1) (by omega)
    have e1 : fo F (i + 1) s = F i (fo F i s) := rfl
    rw [e1] at ih
    generalize hS : fo F i s = s1 at ih ⊢
    obtain ⟨r, hd⟩ := s1
    rw [← hF] at ih
    unfold svM at ih
    dsimp only at ih ⊢
    (refine mm_run ok_99 (fun t => t == 184 || t == 194) 9 ?_; rw [lb_99_194, rb_99]; simp only [↓w_aload_0, ↓w_bald, ↓w_bipush, ↓w_dup, ↓w_dup2, ↓w_fall, ↓w_getf, ↓w_goto, ↓w_iadd, ↓w_iald, ↓w_iast, ↓w_ic_eq, ↓w_ic_ge, ↓w_ic_ne, ↓w_iconst, ↓w_if_eq, ↓w_if_le, ↓w_if_ne, ↓w_iinc, ↓w_iload, ↓w_iload_1, ↓w_iload_2, ↓w_iload_3, ↓w_imul, ↓w_ior, ↓w_iret, ↓w_ishl, ↓w_istore, ↓w_isub, ↓w_putf, ↓li_0, ↓li_s, ↓lr_0, ↓lr_s, ↓gf_48_18, ↓gf_48_19, ↓gf_48_20, ↓gf_48_23, ↓gf_48_24, ↓gf_48_26, ↓gf_48_27, ↓gf_48_28, ↓gf_48_29, ↓gf_48_30, ↓gf_48_31, ↓gf_48_32, ↓gf_48_33, ↓pf_48_26, ↓rc_48, ↓ar_62, ↓ar_63, ↓ar_66, ↓ar_67, ↓ar_69, ↓ar_70, ↓ar_71, ↓ar_72, ↓ar_73, ↓ar_74, ↓w_c68, ↓w_c77, ↓w_c97, ↓w_c98, ↓wl_99_0, ↓wl_99_30, ↓wl_99_32, ↓wl_99_41, ↓wl_99_89, ↓wl_99_111, ↓wl_99_113, ↓wl_99_161, ↓wl_99_167, ↓wl_99_184, ↓wl_99_194, ↓wl_99_250, ↓wl_99_288, ↓wl_99_290, ↓wl_99_311, ↓wl_99_317, ↓wl_99_323, hs_wr, hs_cp, hs_s, hs_n, hs_hs, upd_s, upd_n, upd_upd, ne_eq, Nat.reduceEqDiff, c1_i, c1_r, c2_i, c2_r, ↓reduceIte, List.set_cons_zero, List.set_cons_succ, mm_cb, List.length_cons, List.length_nil, List.all_cons, List.all_nil, Nat.zero_add, Nat.reduceAdd, Nat.reduceLeDiff, Nat.zero_le, decide_true, Bool.and_self, Bool.and_true, true_and, and_true, forall_const, Bool.or_false, Bool.false_or, Bool.or_true, Bool.true_or, Bool.false_eq_true, Nat.reduceBEq, beq_self_eq_true, ha_11, ha_01, hb_10, hb_0x, imp_self, false_implies, not_true_eq_false, not_false_eq_true])
    rw [hC, nI_cl (by omega), nI_1, nI_1]
    refine ⟨fun c => ?_, fun c => ?_⟩
    · have := le_nI (by omega) (by omega) c
      have e : i = nc := by omega
      rw [e] at hS
      rw [hS] at h
      exact h _ _
    · have := nle_nI (by omega) (by omega) c
      have ih := ih (by omega)
      have hii := in_nI (show i < 20 by omega) (by omega)
      refine ⟨hii, fun q => ?_, fun q => ⟨hii, fun q2 => ?_, fun q2 => ⟨hii, fun q3 => ?_, fun q3 => ⟨hii, fun q4 => ⟨hii, hii, fun q5 => ⟨hii, hii, ?_⟩, fun q5 => ⟨hii, hii, hii, hii, ?_⟩⟩, fun q4 => ?_⟩⟩⟩⟩
      · rw [if_neg (fun z => q z.1)] at ih; exact ih _
      · rw [if_neg (fun z => q2 z.2.1)] at ih; exact ih _
      · rw [if_neg (fun z => q3 z.2.2.1)] at ih; exact ih _
      · rw [if_pos ⟨q, q2, q3, q4⟩, if_pos q5] at ih; exact ih _
      · rw [if_pos ⟨q, q2, q3, q4⟩, if_neg q5] at ih; exact ih _
      · rw [if_neg (fun z => q4 z.2.2.2)] at ih; exact ih _)
  exact lp 0 (Nat.zero_le _)
theorem r_sell184 {nc : Nat} (hC : μ 48 27 = nI nc) (hc : nc ≤ 20) {a b m pd : Int32} {s0 : svT} (h : RI pd (hs μ 73 (fo (fun w s => fo (svM (μ 72) (μ 74) (μ 69) (μ 70) (μ 71) a b w) nc s) 30 s0).2)) : ∀ o7 o8, mm_Rn hh_S 99 RI RV 184 [some (.ref 48), some (.int a), some (.int b), some (.int m), some (.int s0.1), some (.int pd), some (.int 0), o7, o8] [] (hs μ 73 s0.2) := by
  generalize hF : (fun w s => fo (svM (μ 72) (μ 74) (μ 69) (μ 70) (μ 71) a b w) nc s) = F at h
  have lp := up_ind (n := 30) (P := fun i => ∀ o7 o8, mm_Rn hh_S 99 RI RV 184 [some (.ref 48), some (.int a), some (.int b), some (.int m), some (.int (fo F i s0).1), some (.int pd), some (.int (nI i)), o7, o8] [] (hs μ 73 (fo F i s0).2)) (fun i hi ih => by
    intro o7 o8
    have ih := ih (i + 1) (by omega)
    have e1 : fo F (i + 1) s0 = F i (fo F i s0) := rfl
    rw [e1] at ih
    (refine mm_run ok_99 (fun t => t == 184 || t == 194) 9 ?_; rw [lb_99_184, rb_99]; simp only [↓w_aload_0, ↓w_bald, ↓w_bipush, ↓w_dup, ↓w_dup2, ↓w_fall, ↓w_getf, ↓w_goto, ↓w_iadd, ↓w_iald, ↓w_iast, ↓w_ic_eq, ↓w_ic_ge, ↓w_ic_ne, ↓w_iconst, ↓w_if_eq, ↓w_if_le, ↓w_if_ne, ↓w_iinc, ↓w_iload, ↓w_iload_1, ↓w_iload_2, ↓w_iload_3, ↓w_imul, ↓w_ior, ↓w_iret, ↓w_ishl, ↓w_istore, ↓w_isub, ↓w_putf, ↓li_0, ↓li_s, ↓lr_0, ↓lr_s, ↓gf_48_18, ↓gf_48_19, ↓gf_48_20, ↓gf_48_23, ↓gf_48_24, ↓gf_48_26, ↓gf_48_27, ↓gf_48_28, ↓gf_48_29, ↓gf_48_30, ↓gf_48_31, ↓gf_48_32, ↓gf_48_33, ↓pf_48_26, ↓rc_48, ↓ar_62, ↓ar_63, ↓ar_66, ↓ar_67, ↓ar_69, ↓ar_70, ↓ar_71, ↓ar_72, ↓ar_73, ↓ar_74, ↓w_c68, ↓w_c77, ↓w_c97, ↓w_c98, ↓wl_99_0, ↓wl_99_30, ↓wl_99_32, ↓wl_99_41, ↓wl_99_89, ↓wl_99_111, ↓wl_99_113, ↓wl_99_161, ↓wl_99_167, ↓wl_99_184, ↓wl_99_194, ↓wl_99_250, ↓wl_99_288, ↓wl_99_290, ↓wl_99_311, ↓wl_99_317, ↓wl_99_323, hs_wr, hs_cp, hs_s, hs_n, hs_hs, upd_s, upd_n, upd_upd, ne_eq, Nat.reduceEqDiff, c1_i, c1_r, c2_i, c2_r, ↓reduceIte, List.set_cons_zero, List.set_cons_succ, mm_cb, List.length_cons, List.length_nil, List.all_cons, List.all_nil, Nat.zero_add, Nat.reduceAdd, Nat.reduceLeDiff, Nat.zero_le, decide_true, Bool.and_self, Bool.and_true, true_and, and_true, forall_const, Bool.or_false, Bool.false_or, Bool.or_true, Bool.true_or, Bool.false_eq_true, Nat.reduceBEq, beq_self_eq_true, ha_11, ha_01, hb_10, hb_0x, imp_self, false_implies, not_true_eq_false, not_false_eq_true])
    rw [show (30 : Int32) = nI 30 from rfl]
    refine ⟨fun c => ?_, fun c => ?_⟩
    · have := le_nI (by omega) (by omega) c
      rw [show i = 30 by omega]
      exact h
    · have := nle_nI (by omega) (by omega) c
      have ih := ih (by omega)
      rw [← hF] at ih
      exact r_sell194 hC hc (fun o7 o8 => by rw [← hF]; exact ih o7 o8) _)
  exact lp 0 (Nat.zero_le _)
theorem r_sell {nb nc : Nat} (hB : μ 48 18 = nI nb) (hb : nb ≤ 100) (hC : μ 48 27 = nI nc) (hc : nc ≤ 20) (hlf : ∀ b, b < nb → 0 ≤ (μ 63 b).toInt) {a b m : Int32} (h0 : ¬ ((0 ≤ a ∧ a ≤ 5) ∧ (∃ j, j < 4 ∧ b = nI j ∧ ¬ μ 55 j ≤ 0) ∧ (1 ≤ m ∧ m ≤ stk (μ 62) (μ 66) (μ 63) b nb)) → RI (-1) μ) (h1 : ∀ k, k < 4 → b = nI k → ¬ μ 55 k ≤ 0 → (0 ≤ a ∧ a ≤ 5) → (1 ≤ m ∧ m ≤ stk (μ 62) (μ 66) (μ 63) b nb) → ∀ D, D = fo (dlS (μ 62) (μ 66) (μ 65) b a (μ 55 k) (μ 48 0)) nb (m, 0, μ 63, μ 67) → RI D.2.1 (hs (hs (hs (hs μ 63 D.2.2.1) 67 D.2.2.2) 48 (upd (μ 48) 26 (μ 48 26 + D.2.1))) 73 (fo (fun w s => fo (svM (μ 72) (μ 74) (μ 69) (μ 70) (μ 71) a b w) nc s) 30 (m, μ 73)).2)) : mm_Cs hh_S 99 [.ref 48, .int a, .int b, .int m] μ RI RV := by
  refine mm_in rfl (Nat.le_of_ble_eq_true rfl) ?_
  show mm_Rn hh_S 99 RI RV 0 [some (.ref 48), some (.int a), some (.int b), some (.int m), none, none, none, none, none] [] μ
  (refine mm_run ok_99 (fun t => t == 41 || t == 184 || t == 194) 12 ?_; rw [lb_99_0, rb_99]; simp only [↓w_aload_0, ↓w_bald, ↓w_bipush, ↓w_dup, ↓w_dup2, ↓w_fall, ↓w_getf, ↓w_goto, ↓w_iadd, ↓w_iald, ↓w_iast, ↓w_ic_eq, ↓w_ic_ge, ↓w_ic_ne, ↓w_iconst, ↓w_if_eq, ↓w_if_le, ↓w_if_ne, ↓w_iinc, ↓w_iload, ↓w_iload_1, ↓w_iload_2, ↓w_iload_3, ↓w_imul, ↓w_ior, ↓w_iret, ↓w_ishl, ↓w_istore, ↓w_isub, ↓w_putf, ↓li_0, ↓li_s, ↓lr_0, ↓lr_s, ↓gf_48_18, ↓gf_48_19, ↓gf_48_20, ↓gf_48_23, ↓gf_48_24, ↓gf_48_26, ↓gf_48_27, ↓gf_48_28, ↓gf_48_29, ↓gf_48_30, ↓gf_48_31, ↓gf_48_32, ↓gf_48_33, ↓pf_48_26, ↓rc_48, ↓ar_62, ↓ar_63, ↓ar_66, ↓ar_67, ↓ar_69, ↓ar_70, ↓ar_71, ↓ar_72, ↓ar_73, ↓ar_74, ↓w_c68, ↓w_c77, ↓w_c97, ↓w_c98, ↓wl_99_0, ↓wl_99_30, ↓wl_99_32, ↓wl_99_41, ↓wl_99_89, ↓wl_99_111, ↓wl_99_113, ↓wl_99_161, ↓wl_99_167, ↓wl_99_184, ↓wl_99_194, ↓wl_99_250, ↓wl_99_288, ↓wl_99_290, ↓wl_99_311, ↓wl_99_317, ↓wl_99_323, hs_wr, hs_cp, hs_s, hs_n, hs_hs, upd_s, upd_n, upd_upd, ne_eq, Nat.reduceEqDiff, c1_i, c1_r, c2_i, c2_r, ↓reduceIte, List.set_cons_zero, List.set_cons_succ, mm_cb, List.length_cons, List.length_nil, List.all_cons, List.all_nil, Nat.zero_add, Nat.reduceAdd, Nat.reduceLeDiff, Nat.zero_le, decide_true, Bool.and_self, Bool.and_true, true_and, and_true, forall_const, Bool.or_false, Bool.false_or, Bool.or_true, Bool.true_or, Bool.false_eq_true, Nat.reduceBEq, beq_self_eq_true, ha_11, ha_01, hb_10, hb_0x, imp_self, false_implies, not_true_eq_false, not_false_eq_true])
  refine q_in (fun a1 a2 => br1 ?_) (fun h => br0 (h0 (fun z => h z.1)))
  refine r_isTold (fun k hk eb hkn => br1 ?_) (fun h => br0 (h0 (fun z => by
    obtain ⟨j, hj, e, hkn⟩ := z.2.1
    exact hkn (h j hj e))))
  refine r_casesThere hB hb ?_
  refine q_in (fun m1 m2 => br1n ?_) (fun h => br0n (h0 (fun z => h z.2.2)))
  have g1 := h1 k hk eb hkn ⟨a1, a2⟩ ⟨m1, m2⟩ _ rfl
  clear h0 h1
  generalize hF : dlS (μ 62) (μ 66) (μ 65) b a (μ 55 k) (μ 48 0) = F at g1
  generalize hs0 : (m, (0 : Int32), μ 63, μ 67) = s0 at g1
  have hstop : ∀ j s, s.1 ≤ 0 → F j s = s := by
    intro j s hs
    rw [← hF]
    unfold dlS
    rw [if_pos hs]
  have hle : ∀ i j, i ≤ j → j < nb → 0 ≤ ((fo F i s0).2.2.1 j).toInt := by
    intro i j hij hj
    rw [← hF, dl_left i j hij, ← hs0]
    exact hlf j hj
  have fin : ∀ S, fo F nb s0 = S → ∀ o7 o8, mm_Rn hh_S 99 RI RV 184 [some (.ref 48), some (.int a), some (.int b), some (.int m), some (.int m), some (.int S.2.1), some (.int 0), o7, o8] [] (hs (hs (hs μ 63 S.2.2.1) 67 S.2.2.2) 48 (upd (μ 48) 26 (μ 48 26 + S.2.1))) := by
    intro S hS o7 o8
    rw [hS] at g1
    have := r_sell184 (μ := hs (hs (hs μ 63 S.2.2.1) 67 S.2.2.2) 48 (upd (μ 48) 26 (μ 48 26 + S.2.1))) (nc := nc) (RI := RI) (RV := RV) (a := a) (b := b) (m := m) (pd := S.2.1) (s0 := (m, μ 73)) (by simp only [hs_s, upd_n, ne_eq, Nat.reduceEqDiff, not_false_eq_true]; exact hC) hc (by
      simp only [hs_n, ne_eq, Nat.reduceEqDiff, not_false_eq_true]
      exact g1) o7 o8
    have e : hs (hs (hs (hs μ 63 S.2.2.1) 67 S.2.2.2) 48 (upd (μ 48) 26 (μ 48 26 + S.2.1))) 73 (μ 73) = hs (hs (hs μ 63 S.2.2.1) 67 S.2.2.2) 48 (upd (μ 48) 26 (μ 48 26 + S.2.1)) := by
      have e2 : (hs (hs (hs μ 63 S.2.2.1) 67 S.2.2.2) 48 (upd (μ 48) 26 (μ 48 26 + S.2.1))) 73 = μ 73 := by simp only [hs_n, ne_eq, Nat.reduceEqDiff, not_false_eq_true]
      rw [← e2, hs_id]
    rw [e] at this
    exact this
  have lp := up_ind (n := nb) (P := fun i => ∀ o7 o8, mm_Rn hh_S 99 RI RV 41 [some (.ref 48), some (.int a), some (.int b), some (.int m), some (.int (fo F i s0).1), some (.int (fo F i s0).2.1), some (.int (nI i)), o7, o8] [] (hs (hs μ 63 (fo F i s0).2.2.1) 67 (fo F i s0).2.2.2)) (fun i hi ih => by
    intro o7 o8
    have ih := ih (i + 1) (by omega)
    have e1 : fo F (i + 1) s0 = F i (fo F i s0) := rfl
    have est := fo_stop (stop := fun s => s.1 ≤ 0) hstop (i := i) (s := s0)
    have hle := hle i i (Nat.le_refl i)
    rw [e1] at ih
    generalize hS : fo F i s0 = s at ih est hle ⊢
    have fin1 := fin s
    obtain ⟨r, pd, lf, bu⟩ := s
    rw [← hF] at ih
    unfold dlS at ih
    dsimp only at ih est hle fin1 ⊢
    (refine mm_run ok_99 (fun t => t == 41 || t == 184 || t == 194) 9 ?_; rw [lb_99_41, rb_99]; simp only [↓w_aload_0, ↓w_bald, ↓w_bipush, ↓w_dup, ↓w_dup2, ↓w_fall, ↓w_getf, ↓w_goto, ↓w_iadd, ↓w_iald, ↓w_iast, ↓w_ic_eq, ↓w_ic_ge, ↓w_ic_ne, ↓w_iconst, ↓w_if_eq, ↓w_if_le, ↓w_if_ne, ↓w_iinc, ↓w_iload, ↓w_iload_1, ↓w_iload_2, ↓w_iload_3, ↓w_imul, ↓w_ior, ↓w_iret, ↓w_ishl, ↓w_istore, ↓w_isub, ↓w_putf, ↓li_0, ↓li_s, ↓lr_0, ↓lr_s, ↓gf_48_18, ↓gf_48_19, ↓gf_48_20, ↓gf_48_23, ↓gf_48_24, ↓gf_48_26, ↓gf_48_27, ↓gf_48_28, ↓gf_48_29, ↓gf_48_30, ↓gf_48_31, ↓gf_48_32, ↓gf_48_33, ↓pf_48_26, ↓rc_48, ↓ar_62, ↓ar_63, ↓ar_66, ↓ar_67, ↓ar_69, ↓ar_70, ↓ar_71, ↓ar_72, ↓ar_73, ↓ar_74, ↓w_c68, ↓w_c77, ↓w_c97, ↓w_c98, ↓wl_99_0, ↓wl_99_30, ↓wl_99_32, ↓wl_99_41, ↓wl_99_89, ↓wl_99_111, ↓wl_99_113, ↓wl_99_161, ↓wl_99_167, ↓wl_99_184, ↓wl_99_194, ↓wl_99_250, ↓wl_99_288, ↓wl_99_290, ↓wl_99_311, ↓wl_99_317, ↓wl_99_323, hs_wr, hs_cp, hs_s, hs_n, hs_hs, upd_s, upd_n, upd_upd, ne_eq, Nat.reduceEqDiff, c1_i, c1_r, c2_i, c2_r, ↓reduceIte, List.set_cons_zero, List.set_cons_succ, mm_cb, List.length_cons, List.length_nil, List.all_cons, List.all_nil, Nat.zero_add, Nat.reduceAdd, Nat.reduceLeDiff, Nat.zero_le, decide_true, Bool.and_self, Bool.and_true, true_and, and_true, forall_const, Bool.or_false, Bool.false_or, Bool.or_true, Bool.true_or, Bool.false_eq_true, Nat.reduceBEq, beq_self_eq_true, ha_11, ha_01, hb_10, hb_0x, imp_self, false_implies, not_true_eq_false, not_false_eq_true])
    rw [hB, nI_cl (by omega), nI_1]
    refine ⟨fun c => ?_, fun c => ?_⟩
    · have := le_nI (by omega) (by omega) c
      have e : i = nb := by omega
      rw [e] at hS
      exact fin1 hS _ _
    · have := nle_nI (by omega) (by omega) c
      have ih := ih (by omega)
      have hle := hle (by omega)
      have hii := in_nI (show i < 100 by omega) (by omega)
      have hfs : fsB (μ 62) (μ 66) b i = true ↔ μ 62 i = b ∧ μ 66 i = 0 := by
        unfold fsB
        simp only [Bool.and_eq_true, decide_eq_true_eq]
      refine ⟨fun q => fin1 (est q nb (by omega)) _ _, fun q => ⟨hii, fun u => ?_, fun u => ⟨hii, fun v => ?_, fun v => ⟨hii, fun w => ⟨hii, fun y => ⟨hii, hii, ?_⟩, fun y => ⟨hii, hii, hii, ?_⟩⟩, fun w => ?_⟩⟩⟩⟩
      · rw [if_neg q, if_neg (fun z => u (hfs.mp z.1).1)] at ih
        exact ih _ _
      · rw [if_neg q, if_neg (fun z => v (hfs.mp z.1).2)] at ih
        exact ih _ _
      · have hpos : ¬ lf i ≤ 0 := by
          simp only [i_le, i_eq, i_0] at w ⊢
          omega
        rw [if_neg q, if_pos ⟨hfs.mpr ⟨u, v⟩, hpos⟩] at ih
        have hg : (if r < lf i then r else lf i) = r := by
          by_cases hh : r < lf i
          · rw [if_pos hh]
          · rw [if_neg hh]
            simp only [i_le, i_lt, i_eq] at *
            omega
        rw [hg] at ih
        refine r_worthOf (by omega) hk (by simp only [hs_n, ne_eq, Nat.reduceEqDiff, not_false_eq_true]; rw [u, eb]) ⟨hii, hii, ?_⟩
        simp only [hs_s, hs_n, ne_eq, Nat.reduceEqDiff, not_false_eq_true]
        rw [hs_aba (by decide), hs_aba (by decide)]
        exact ih _ _
      · have hpos : ¬ lf i ≤ 0 := by
          simp only [i_le, i_eq, i_0] at w ⊢
          omega
        rw [if_neg q, if_pos ⟨hfs.mpr ⟨u, v⟩, hpos⟩] at ih
        have hg : (if r < lf i then r else lf i) = lf i := by
          rw [if_neg (by simp only [i_le, i_lt] at *; omega)]
        rw [hg] at ih
        refine r_worthOf (by omega) hk (by simp only [hs_n, ne_eq, Nat.reduceEqDiff, not_false_eq_true]; rw [u, eb]) ⟨hii, hii, ?_⟩
        simp only [hs_s, hs_n, ne_eq, Nat.reduceEqDiff, not_false_eq_true]
        rw [hs_aba (by decide), hs_aba (by decide)]
        exact ih _ _
      · have hnp : lf i ≤ 0 := by
          simp only [i_le, i_eq, i_0] at w ⊢
          omega
        rw [if_neg q, if_neg (fun z => z.2 hnp)] at ih
        exact ih _ _)
  have := lp 0 (Nat.zero_le _) none none
  rw [← hs0] at this
  simp only [fo, hs_id] at this
  exact this
theorem r_lacks {nb nc : Nat} (hB : μ 48 18 = nI nb) (hb : nb ≤ 100) (hC : μ 48 27 = nI nc) (hc : nc ≤ 20) {x : Int32} (h0 : (∀ j, j < nc → x = nI j → ¬ μ 74 j = 0) → RI (-1) μ) (h1 : ∀ j, j < nc → x = nI j → μ 74 j = 0 → ∀ T B w, T = stk (μ 62) (μ 66) (μ 63) (μ 70 j) nb → B = su (fun c => if bfB (μ 72) (μ 74) (μ 70) j c = true then μ 71 c - μ 73 c else 0) nc → w = μ 71 j - μ 73 j → RI (if w ≤ (if T ≤ B then 0 else T - B) then 0 else w - (if T ≤ B then 0 else T - B)) μ) : mm_Cs hh_S 101 [.ref 48, .int x] μ RI RV := by
  refine mm_in rfl (Nat.le_of_ble_eq_true rfl) ?_
  show mm_Rn hh_S 101 RI RV 0 [some (.ref 48), some (.int x), none, none, none, none] [] μ
  (refine mm_run ok_101 (fun t => t == 41) 12 ?_; rw [lb_101_0, rb_101]; simp only [↓w_aload_0, ↓w_bald, ↓w_fall, ↓w_getf, ↓w_goto, ↓w_iadd, ↓w_iald, ↓w_ic_eq, ↓w_ic_ge, ↓w_ic_le, ↓w_ic_lt, ↓w_ic_ne, ↓w_iconst, ↓w_if_eq, ↓w_if_ne, ↓w_iinc, ↓w_iload, ↓w_iload_1, ↓w_iload_2, ↓w_iload_3, ↓w_iret, ↓w_istore, ↓w_istore_2, ↓w_istore_3, ↓w_isub, ↓li_0, ↓li_s, ↓lr_0, ↓lr_s, ↓gf_48_27, ↓gf_48_29, ↓gf_48_30, ↓gf_48_31, ↓gf_48_32, ↓gf_48_33, ↓rc_48, ↓ar_70, ↓ar_71, ↓ar_72, ↓ar_73, ↓ar_74, ↓w_c68, ↓w_c98, ↓wl_101_0, ↓wl_101_23, ↓wl_101_25, ↓wl_101_41, ↓wl_101_79, ↓wl_101_117, ↓wl_101_121, ↓wl_101_122, ↓wl_101_148, ↓wl_101_149, ↓wl_101_151, ↓wl_101_157, ↓wl_101_168, ↓wl_101_169, ↓wl_101_201, ↓wl_101_202, hs_wr, hs_cp, hs_s, hs_n, hs_hs, upd_s, upd_n, upd_upd, ne_eq, Nat.reduceEqDiff, c1_i, c1_r, c2_i, c2_r, ↓reduceIte, List.set_cons_zero, List.set_cons_succ, mm_cb, List.length_cons, List.length_nil, List.all_cons, List.all_nil, Nat.zero_add, Nat.reduceAdd, Nat.reduceLeDiff, Nat.zero_le, decide_true, Bool.and_self, Bool.and_true, true_and, and_true, forall_const, Bool.or_false, Bool.false_or, Bool.or_true, Bool.true_or, Bool.false_eq_true, Nat.reduceBEq, beq_self_eq_true, ha_11, ha_01, hb_10, hb_0x, imp_self, false_implies, not_true_eq_false, not_false_eq_true])
  rw [hC]
  refine q_in (fun a1 a2 => br1 ?_) (fun h => br0 (h0 (fun j hj e => absurd e (ix_no (by omega) h j hj))))
  obtain ⟨j, hj, e⟩ := ix_of (by omega) a1 a2
  have hi := in_nI (show j < 20 by omega) (by omega)
  have hf : ¬ μ 74 j = 0 → RI (-1) μ := fun u => h0 (fun i hi e2 => by
    have : i = j := (nI_eq (by omega) (by omega)).mp (e2.symm.trans e)
    subst this
    exact u)
  have g1 := h1 j hj e
  clear h0 h1
  subst e
  rw [nI_cl (by omega)]
  refine ⟨hi, fun u => ⟨hi, r_casesThere hB hb ?_⟩, hf⟩
  have g := g1 u _ _ _ rfl rfl rfl
  have eT : su (fun b => if fsB (μ 62) (μ 66) (μ 70 j) b = true then μ 63 b else 0) nb = stk (μ 62) (μ 66) (μ 63) (μ 70 j) nb := rfl
  rw [eT]
  generalize stk (μ 62) (μ 66) (μ 63) (μ 70 j) nb = T at g ⊢
  have lp := up_ind (n := nc) (P := fun i => ∀ o5, mm_Rn hh_S 101 RI RV 41 [some (.ref 48), some (.int (nI j)), some (.int T), some (.int (su (fun c => if bfB (μ 72) (μ 74) (μ 70) j c = true then μ 71 c - μ 73 c else 0) i)), some (.int (nI i)), o5] [] μ) (fun i hi2 ih => by
    intro o5
    have ih := ih (i + 1) (by omega)
    have hbf : bfB (μ 72) (μ 74) (μ 70) j i = true ↔ μ 74 i = 0 ∧ μ 70 i = μ 70 j ∧ (μ 72 i < μ 72 j ∨ (μ 72 i = μ 72 j ∧ i < j)) := by
      unfold bfB ahB
      simp only [Bool.and_eq_true, Bool.or_eq_true, decide_eq_true_eq, and_assoc]
    have hT : bfB (μ 72) (μ 74) (μ 70) j i = true → su (fun c => if bfB (μ 72) (μ 74) (μ 70) j c = true then μ 71 c - μ 73 c else 0) (i + 1) = su (fun c => if bfB (μ 72) (μ 74) (μ 70) j c = true then μ 71 c - μ 73 c else 0) i + (μ 71 i - μ 73 i) := fun u => su_if_t (f := fun c => μ 71 c - μ 73 c) u
    have hF : ¬ bfB (μ 72) (μ 74) (μ 70) j i = true → su (fun c => if bfB (μ 72) (μ 74) (μ 70) j c = true then μ 71 c - μ 73 c else 0) (i + 1) = su (fun c => if bfB (μ 72) (μ 74) (μ 70) j c = true then μ 71 c - μ 73 c else 0) i := fun u => su_if_f (f := fun c => μ 71 c - μ 73 c) u
    generalize hV : su (fun c => if bfB (μ 72) (μ 74) (μ 70) j c = true then μ 71 c - μ 73 c else 0) i = v at hT hF ⊢
    (refine mm_run ok_101 (fun t => t == 41) 12 ?_; rw [lb_101_41, rb_101]; simp only [↓w_aload_0, ↓w_bald, ↓w_fall, ↓w_getf, ↓w_goto, ↓w_iadd, ↓w_iald, ↓w_ic_eq, ↓w_ic_ge, ↓w_ic_le, ↓w_ic_lt, ↓w_ic_ne, ↓w_iconst, ↓w_if_eq, ↓w_if_ne, ↓w_iinc, ↓w_iload, ↓w_iload_1, ↓w_iload_2, ↓w_iload_3, ↓w_iret, ↓w_istore, ↓w_istore_2, ↓w_istore_3, ↓w_isub, ↓li_0, ↓li_s, ↓lr_0, ↓lr_s, ↓gf_48_27, ↓gf_48_29, ↓gf_48_30, ↓gf_48_31, ↓gf_48_32, ↓gf_48_33, ↓rc_48, ↓ar_70, ↓ar_71, ↓ar_72, ↓ar_73, ↓ar_74, ↓w_c68, ↓w_c98, ↓wl_101_0, ↓wl_101_23, ↓wl_101_25, ↓wl_101_41, ↓wl_101_79, ↓wl_101_117, ↓wl_101_121, ↓wl_101_122, ↓wl_101_148, ↓wl_101_149, ↓wl_101_151, ↓wl_101_157, ↓wl_101_168, ↓wl_101_169, ↓wl_101_201, ↓wl_101_202, hs_wr, hs_cp, hs_s, hs_n, hs_hs, upd_s, upd_n, upd_upd, ne_eq, Nat.reduceEqDiff, c1_i, c1_r, c2_i, c2_r, ↓reduceIte, List.set_cons_zero, List.set_cons_succ, mm_cb, List.length_cons, List.length_nil, List.all_cons, List.all_nil, Nat.zero_add, Nat.reduceAdd, Nat.reduceLeDiff, Nat.zero_le, decide_true, Bool.and_self, Bool.and_true, true_and, and_true, forall_const, Bool.or_false, Bool.false_or, Bool.or_true, Bool.true_or, Bool.false_eq_true, Nat.reduceBEq, beq_self_eq_true, ha_11, ha_01, hb_10, hb_0x, imp_self, false_implies, not_true_eq_false, not_false_eq_true])
    rw [hC, nI_cl (show i < 2147483648 by omega), nI_1, nI_cl (show j < 2147483648 by omega)]
    simp only [Int32.add_zero]
    have hii : i < nc → vp_in (nI i) 20 := fun h => in_nI (by omega) (by omega)
    refine ⟨fun c => ?_, fun c => ?_⟩
    · have := le_nI (by omega) (by omega) c
      have e : i = nc := by omega
      rw [e] at hV
      rw [hV] at g
      refine ⟨fun q => ⟨hi, hi, fun z => ?_, fun z => ?_⟩, fun q => ⟨hi, hi, fun z => ?_, fun z => ?_⟩⟩
      · rw [if_pos q, if_pos z] at g; exact g
      · rw [if_pos q, if_neg z] at g; exact g
      · rw [if_neg q, if_pos z] at g; exact g
      · rw [if_neg q, if_neg z] at g; exact g
    · have hlt := nle_nI (by omega) (by omega) c
      have ih := ih (by omega)
      have hii := hii hlt
      refine ⟨hii, fun q => ?_, fun q => ⟨hii, hi, fun q2 => ⟨hii, hi, fun q3 => ⟨hii, hii, ?_⟩, fun q3 => ⟨hii, hi, fun q4 => ?_, fun q4 => ⟨fun q5 => ?_, fun q5 => ⟨hii, hii, ?_⟩⟩⟩⟩, fun q2 => ?_⟩⟩
      · rw [hF (fun z => q (hbf.mp z).1)] at ih; exact ih _
      · rw [hT (hbf.mpr ⟨q, q2, Or.inl q3⟩)] at ih; exact ih _
      · rw [hF (fun z => (hbf.mp z).2.2.elim q3 (fun z => q4 z.1))] at ih; exact ih _
      · have := le_nI (by omega) (by omega) q5
        rw [hF (fun z => (hbf.mp z).2.2.elim q3 (fun z => by have := z.2; omega))] at ih; exact ih _
      · have := nle_nI (by omega) (by omega) q5
        rw [hT (hbf.mpr ⟨q, q2, Or.inr ⟨q4, this⟩⟩)] at ih; exact ih _
      · rw [hF (fun z => q2 (hbf.mp z).2.1)] at ih; exact ih _)
  exact lp 0 (Nat.zero_le _) none
end M3
