/-! the class's calls: selling, packing, the hours -/
def Vsell (kn : Nat → Int32) (a b c st : Int32) : Prop := (0 ≤ a ∧ a ≤ 5) ∧ (∃ j, j < 4 ∧ b = nI j ∧ ¬ kn j = 0) ∧ (1 ≤ c ∧ c ≤ st)
/-- what is for sale of a kind -/
def stk (kd ba lf : Nat → Int32) (k : Int32) (n : Nat) : Int32 := su (fun b => if fsB kd ba k b = true then lf b else 0) n
def Vcan (sa od re sz lf wc co : Nat → Int32) (s : Nat) (t x kg now pk : Int32) (n : Nat) : Prop := ¬ sa s < x ∧ ¬ su (fun j => if usB re sz t j = true then lf j else 0) n < kg ∧ ¬ su (fun j => if thB wc co now j = true then 1 else 0) 3 * 100 - pk < kg
section C6
variable {μ : mm_M} {RI : Int32 → mm_M → Prop} {RV : mm_M → Prop}
theorem c_sell {nb nc : Nat} (hB : μ 5 7 = nI nb) (hb : nb ≤ 100) (hC : μ 6 7 = nI nc) (hc : nc ≤ 20) (ho : ∀ i, i < nc → ∃ j, j < 20 ∧ μ 41 i = nI j) {a b m : Int32} (h0 : ¬ Vsell (μ 15) a b m (stk (μ 28) (μ 33) (μ 30) b nb) → RI (-1) μ) (h1 : ∀ k, k < 4 → b = nI k → ¬ μ 15 k = 0 → (0 ≤ a ∧ a ≤ 5) → (1 ≤ m ∧ m ≤ stk (μ 28) (μ 33) (μ 30) b nb) → ∀ D, D = fo (dlS (μ 28) (μ 33) (μ 31) b a (μ 20 k) (μ 0 8)) nb (m, 0, μ 30, μ 32) → RI D.2.1 (hs (hs (hs (hs μ 30 D.2.2.1) 32 D.2.2.2) 39 (fo (svS (μ 41) (μ 40) (μ 35) (μ 36) (μ 37) a b) nc (m, μ 39)).2) 0 (upd (μ 0) 12 (μ 0 12 + D.2.1)))) : mm_Cs hh_S 52 [.ref 0, .int a, .int b, .int m] μ RI RV := by
  refine mm_in rfl (Nat.le_of_ble_eq_true rfl) ?_
  show mm_Rn hh_S 52 RI RV 0 [some (.ref 0), some (.int a), some (.int b), some (.int m), none] [] μ
  (refine mm_run ok_52 (fun t => false) 12 ?_; rw [lb_52_0, rb_52]; simp only [↓w_aload_0, ↓w_dup, ↓w_fall, ↓w_getf, ↓w_iadd, ↓w_iald, ↓w_iconst, ↓w_if_eq, ↓w_if_ne, ↓w_iload, ↓w_iload_1, ↓w_iload_2, ↓w_iload_3, ↓w_iret, ↓w_istore, ↓w_putf, ↓li_0, ↓li_s, ↓lr_0, ↓lr_s, ↓gf_0_1, ↓gf_0_12, ↓gf_0_4, ↓gf_0_5, ↓gf_0_8, ↓gf_2_5, ↓pf_0_12, ↓rc_2, ↓rc_5, ↓rc_6, ↓ar_20, ↓w_c24, ↓w_c3, ↓w_c5, ↓w_c65, ↓w_c9, ↓wl_52_0, ↓wl_52_20, ↓wl_52_22, ↓wl_52_40, hs_wr, hs_cp, hs_s, hs_n, hs_hs, upd_s, upd_n, upd_upd, ne_eq, Nat.reduceEqDiff, c1_i, c1_r, c2_i, c2_r, ↓reduceIte, List.set_cons_zero, List.set_cons_succ, mm_cb, List.length_cons, List.length_nil, List.all_cons, List.all_nil, Nat.zero_add, Nat.reduceAdd, Nat.reduceLeDiff, Nat.zero_le, decide_true, Bool.and_self, Bool.and_true, true_and, and_true, forall_const, Bool.or_false, Bool.false_or, Bool.or_true, Bool.true_or, Bool.false_eq_true, Nat.reduceBEq, beq_self_eq_true, ha_11, ha_01, hb_10, hb_0x, imp_self, false_implies, not_true_eq_false, not_false_eq_true])
  refine q_within (fun a1 a2 => br1 ?_) (fun h => br0 (h0 (fun z => h z.1)))
  refine q_hasKind (fun k hk eb hkn => br1n ?_) (fun h => br0n (h0 (fun z => by
    obtain ⟨j, hj, e, hkn⟩ := z.2.1
    exact hkn (h j hj e))))
  refine q_stock hB hb ?_
  refine q_within (fun m1 m2 => br1n ?_) (fun h => br0n (h0 (fun z => h z.2.2)))
  have g1 := h1 k hk eb hkn ⟨a1, a2⟩ ⟨m1, m2⟩ _ rfl
  clear h0 h1
  subst eb
  rw [nI_cl (by omega)]
  refine ⟨in_nI hk (by omega), q_deliver hB hb ?_⟩
  refine q_serve (n := nc) ?_ hc ?_ ?_
  · simp only [hs_n, ne_eq, Nat.reduceEqDiff, not_false_eq_true]
    exact hC
  · simp only [hs_n, ne_eq, Nat.reduceEqDiff, not_false_eq_true]
    exact ho
  · simp only [hs_n, ne_eq, Nat.reduceEqDiff, not_false_eq_true]
    exact g1
theorem c_lacks {nb nc : Nat} (hB : μ 5 7 = nI nb) (hb : nb ≤ 100) (hC : μ 6 7 = nI nc) (hc : nc ≤ 20) (ho : ∀ i, i < nc → ∃ j, j < 20 ∧ μ 41 i = nI j) {x : Int32} (h0 : (∀ j, j < nc → x = nI j → ¬ μ 40 j = 0) → RI (-1) μ) (h1 : ∀ j, j < nc → x = nI j → μ 40 j = 0 → ∃ q, q < nc ∧ μ 41 q = nI j ∧ (∀ i, i < q → ¬ μ 41 i = nI j) ∧ ∀ r, r = fo (shS (μ 41) (μ 40) (μ 36) (μ 37) (μ 39) (μ 36 j)) q (stk (μ 28) (μ 33) (μ 30) (μ 36 j) nb) → RI (if 0 < μ 37 j - μ 39 j - r then μ 37 j - μ 39 j - r else 0) μ) : mm_Cs hh_S 54 [.ref 0, .int x] μ RI RV := by
  refine mm_in rfl (Nat.le_of_ble_eq_true rfl) ?_
  show mm_Rn hh_S 54 RI RV 0 [some (.ref 0), some (.int x)] [] μ
  (refine mm_run ok_54 (fun t => false) 12 ?_; rw [lb_54_0, rb_54]; simp only [↓w_aload_0, ↓w_bald, ↓w_fall, ↓w_getf, ↓w_iald, ↓w_iconst, ↓w_if_eq, ↓w_iload_1, ↓w_iret, ↓li_0, ↓li_s, ↓lr_0, ↓lr_s, ↓gf_0_4, ↓gf_0_5, ↓gf_6_1, ↓gf_6_5, ↓rc_5, ↓rc_6, ↓ar_36, ↓ar_40, ↓w_c10, ↓w_c3, ↓w_c7, ↓wl_54_0, ↓wl_54_23, ↓wl_54_25, hs_wr, hs_cp, hs_s, hs_n, hs_hs, upd_s, upd_n, upd_upd, ne_eq, Nat.reduceEqDiff, c1_i, c1_r, c2_i, c2_r, ↓reduceIte, List.set_cons_zero, List.set_cons_succ, mm_cb, List.length_cons, List.length_nil, List.all_cons, List.all_nil, Nat.zero_add, Nat.reduceAdd, Nat.reduceLeDiff, Nat.zero_le, decide_true, Bool.and_self, Bool.and_true, true_and, and_true, forall_const, Bool.or_false, Bool.false_or, Bool.or_true, Bool.true_or, Bool.false_eq_true, Nat.reduceBEq, beq_self_eq_true, ha_11, ha_01, hb_10, hb_0x, imp_self, false_implies, not_true_eq_false, not_false_eq_true])
  refine q_hasContract hC hc (fun j hj e => br1 ?_) (fun h => br0 (h0 (fun j hj e => absurd e (h j hj))))
  have hi := in_nI (show j < 20 by omega) (by omega)
  have hf : ¬ μ 40 j = 0 → RI (-1) μ := fun u => h0 (fun i hi e2 => by
    have : i = j := (nI_eq (by omega) (by omega)).mp (e2.symm.trans e)
    subst this
    exact u)
  have g1 := h1 j hj e
  clear h0 h1
  subst e
  rw [nI_cl (by omega)]
  refine ⟨hi, fun u => ⟨hi, q_stock hB hb ?_⟩, hf⟩
  obtain ⟨q, hq, e1, e2, e3⟩ := g1 u
  exact q_shortOf hC hc ho hq (by omega) e1 e2 (e3 _ rfl)
theorem c_canPack {n k s : Nat} (hN : μ 1 6 = nI n) (hn : n ≤ 60) (hk : k < 4) (hs2 : s < 2) (hsk : μ 17 k = nI s) {x kg : Int32} (h1 : Vcan (μ 8) (μ 14) (μ 13) (μ 9) (μ 10) (μ 21) (μ 22) s (μ 16 k) x kg (μ 0 8) (μ 0 10) n → RI 1 μ) (h0 : ¬ Vcan (μ 8) (μ 14) (μ 13) (μ 9) (μ 10) (μ 21) (μ 22) s (μ 16 k) x kg (μ 0 8) (μ 0 10) n → RI 0 μ) : mm_Cs hh_S 62 [.ref 0, .int (nI k), .int x, .int kg] μ RI RV := by
  refine mm_in rfl (Nat.le_of_ble_eq_true rfl) ?_
  show mm_Rn hh_S 62 RI RV 0 [some (.ref 0), some (.int (nI k)), some (.int x), some (.int kg)] [] μ
  (refine mm_run ok_62 (fun t => false) 12 ?_; rw [lb_62_0, rb_62]; simp only [↓w_aload_0, ↓w_bipush, ↓w_fall, ↓w_getf, ↓w_goto, ↓w_iald, ↓w_ic_lt, ↓w_iconst, ↓w_iload_1, ↓w_iload_2, ↓w_iload_3, ↓w_imul, ↓w_iret, ↓w_isub, ↓li_0, ↓li_s, ↓lr_0, ↓lr_s, ↓gf_0_0, ↓gf_0_1, ↓gf_0_10, ↓gf_0_2, ↓gf_0_7, ↓gf_0_8, ↓gf_2_1, ↓gf_2_2, ↓rc_1, ↓rc_3, ↓ar_8, ↓ar_16, ↓ar_17, ↓w_c18, ↓w_c32, ↓wl_62_0, ↓wl_62_65, ↓wl_62_66, hs_wr, hs_cp, hs_s, hs_n, hs_hs, upd_s, upd_n, upd_upd, ne_eq, Nat.reduceEqDiff, c1_i, c1_r, c2_i, c2_r, ↓reduceIte, List.set_cons_zero, List.set_cons_succ, mm_cb, List.length_cons, List.length_nil, List.all_cons, List.all_nil, Nat.zero_add, Nat.reduceAdd, Nat.reduceLeDiff, Nat.zero_le, decide_true, Bool.and_self, Bool.and_true, true_and, and_true, forall_const, Bool.or_false, Bool.false_or, Bool.or_true, Bool.true_or, Bool.false_eq_true, Nat.reduceBEq, beq_self_eq_true, ha_11, ha_01, hb_10, hb_0x, imp_self, false_implies, not_true_eq_false, not_false_eq_true])
  rw [nI_cl (show k < 2147483648 by omega), hsk, nI_cl (show s < 2147483648 by omega)]
  refine ⟨in_nI hk (by omega), in_nI hs2 (by omega), fun u => h0 (fun z => z.1 u), fun u => ⟨in_nI hk (by omega), ?_⟩⟩
  refine q_usable hN hn ⟨fun v => h0 (fun z => z.2.1 v), fun v => ?_⟩
  exact q_thereC ⟨fun w => h0 (fun z => z.2.2 w), fun w => h1 ⟨u, v, w⟩⟩
/-- what packing makes of the memory -/
def pkM (μ : mm_M) (n c k s : Nat) (x : Int32) : mm_M :=
  hs (hs (hs (hs (hs (hs (hs (hs μ 8 (upd (μ 8) s (μ 8 s - x))) 0 (upd (μ 0) 10 (μ 0 10 + x * μ 18 k))) 23 (upd (μ 23) c (nI k))) 24 (upd (μ 24) c x)) 26 (upd (μ 26) c (x * μ 18 k))) 25 (upd (μ 25) c (μ 0 8 + μ 19 k))) 10 (fo (tkS (μ 14) (μ 13) (μ 9) (μ 16 k) (c * 60)) n (x * μ 18 k, μ 10, μ 27)).2.1) 27 (fo (tkS (μ 14) (μ 13) (μ 9) (μ 16 k) (c * 60)) n (x * μ 18 k, μ 10, μ 27)).2.2
set_option maxRecDepth 100000 in
theorem c_pack91 {n c k s : Nat} (hN : μ 1 6 = nI n) (hn : n ≤ 60) (ho : ∀ i, i < n → ∃ j, j < 60 ∧ μ 14 i = nI j) (hc : c < 3) (hk : k < 4) (hs2 : s < 2) (es : μ 17 k = nI s) {x : Int32} (g1 : RI (x * μ 18 k) (pkM μ n c k s x)) : mm_Rn hh_S 47 RI RV 91 [some (.ref 0), some (.int (nI c)), some (.int (nI k)), some (.int x), some (.int (x * μ 18 k))] [] μ := by
  (refine mm_run ok_47 (fun t => false) 12 ?_; rw [lb_47_91, rb_47]; simp only [↓w_aload_0, ↓w_bipush, ↓w_dup, ↓w_dup2, ↓w_fall, ↓w_getf, ↓w_iadd, ↓w_iald, ↓w_iast, ↓w_ic_ge, ↓w_iconst, ↓w_if_eq, ↓w_if_ne, ↓w_iload, ↓w_iload_1, ↓w_iload_2, ↓w_iload_3, ↓w_imul, ↓w_iret, ↓w_istore, ↓w_isub, ↓w_putf, ↓li_0, ↓li_s, ↓lr_0, ↓lr_s, ↓gf_0_0, ↓gf_0_1, ↓gf_0_10, ↓gf_0_3, ↓gf_0_4, ↓gf_0_7, ↓gf_0_8, ↓gf_2_1, ↓gf_2_2, ↓gf_2_3, ↓gf_2_4, ↓gf_4_4, ↓gf_5_7, ↓pf_0_10, ↓rc_0, ↓rc_1, ↓rc_2, ↓rc_4, ↓ar_8, ↓ar_16, ↓ar_17, ↓ar_18, ↓ar_19, ↓ar_27, ↓w_c12, ↓w_c13, ↓w_c15, ↓w_c24, ↓w_c33, ↓w_c62, ↓w_c65, ↓wl_47_0, ↓wl_47_20, ↓wl_47_22, ↓wl_47_43, ↓wl_47_45, ↓wl_47_72, ↓wl_47_89, ↓wl_47_91, hs_wr, hs_cp, hs_s, hs_n, hs_hs, upd_s, upd_n, upd_upd, ne_eq, Nat.reduceEqDiff, c1_i, c1_r, c2_i, c2_r, ↓reduceIte, List.set_cons_zero, List.set_cons_succ, mm_cb, List.length_cons, List.length_nil, List.all_cons, List.all_nil, Nat.zero_add, Nat.reduceAdd, Nat.reduceLeDiff, Nat.zero_le, decide_true, Bool.and_self, Bool.and_true, true_and, and_true, forall_const, Bool.or_false, Bool.false_or, Bool.or_true, Bool.true_or, Bool.false_eq_true, Nat.reduceBEq, beq_self_eq_true, ha_11, ha_01, hb_10, hb_0x, imp_self, false_implies, not_true_eq_false, not_false_eq_true])
  rw [nI_cl (show k < 2147483648 by omega), es, nI_cl (show s < 2147483648 by omega)]
  refine ⟨in_nI hk (by omega), in_nI hs2 (by omega), in_nI hs2 (by omega), in_nI hk (by omega), ?_⟩
  refine q_fill hc ⟨in_nI hk (by omega), ?_⟩
  refine q_take (n := n) ?_ hn hc ?_ ?_
  · simp only [hs_n, ne_eq, Nat.reduceEqDiff, not_false_eq_true]
    exact hN
  · simp only [hs_n, ne_eq, Nat.reduceEqDiff, not_false_eq_true]
    exact ho
  · simp only [hs_n, ne_eq, Nat.reduceEqDiff, not_false_eq_true]
    exact g1
/-- a charge can be packed -/
def VP (μ : mm_M) (n c k s : Nat) (x : Int32) : Prop := μ 23 c = -1 ∧ ¬ μ 15 k = 0 ∧ (1 ≤ x ∧ x ≤ 50) ∧ ¬ 100 ≤ μ 5 7 + su (fun j => if chB (μ 23) j = true then 1 else 0) 3 ∧ Vcan (μ 8) (μ 14) (μ 13) (μ 9) (μ 10) (μ 21) (μ 22) s (μ 16 k) x (x * μ 18 k) (μ 0 8) (μ 0 10) n
theorem inj100 {i j : Nat} (hi : i < 100) (hj : j < 100) (e : nI i = nI j) : i = j := (nI_eq (by omega) (by omega)).mp e
theorem c_pack72 {n c k s : Nat} (hN : μ 1 6 = nI n) (hn : n ≤ 60) (ho : ∀ i, i < n → ∃ j, j < 60 ∧ μ 14 i = nI j) (hc : c < 3) (hk : k < 4) (hs2 : s < 2) (es : μ 17 k = nI s) {x r : Int32} (er : r = su (fun j => if chB (μ 23) j = true then 1 else 0) 3) (u : μ 23 c = -1) (hkn : ¬ μ 15 k = 0) (hx : 1 ≤ x ∧ x ≤ 50) (h0 : ¬ VP μ n c k s x → RI (-1) μ) (h1 : VP μ n c k s x → RI (x * μ 18 k) (pkM μ n c k s x)) : mm_Rn hh_S 47 RI RV 72 [some (.ref 0), some (.int (nI c)), some (.int (nI k)), some (.int x), some (.int (x * μ 18 k))] [.int r, .int (μ 5 7)] μ := by
  (refine mm_run ok_47 (fun t => t == 91) 12 ?_; rw [lb_47_72, rb_47]; simp only [↓w_aload_0, ↓w_bipush, ↓w_dup, ↓w_dup2, ↓w_fall, ↓w_getf, ↓w_iadd, ↓w_iald, ↓w_iast, ↓w_ic_ge, ↓w_iconst, ↓w_if_eq, ↓w_if_ne, ↓w_iload, ↓w_iload_1, ↓w_iload_2, ↓w_iload_3, ↓w_imul, ↓w_iret, ↓w_istore, ↓w_isub, ↓w_putf, ↓li_0, ↓li_s, ↓lr_0, ↓lr_s, ↓gf_0_0, ↓gf_0_1, ↓gf_0_10, ↓gf_0_3, ↓gf_0_4, ↓gf_0_7, ↓gf_0_8, ↓gf_2_1, ↓gf_2_2, ↓gf_2_3, ↓gf_2_4, ↓gf_4_4, ↓gf_5_7, ↓pf_0_10, ↓rc_0, ↓rc_1, ↓rc_2, ↓rc_4, ↓ar_8, ↓ar_16, ↓ar_17, ↓ar_18, ↓ar_19, ↓ar_27, ↓w_c12, ↓w_c13, ↓w_c15, ↓w_c24, ↓w_c33, ↓w_c62, ↓w_c65, ↓wl_47_0, ↓wl_47_20, ↓wl_47_22, ↓wl_47_43, ↓wl_47_45, ↓wl_47_72, ↓wl_47_89, ↓wl_47_91, hs_wr, hs_cp, hs_s, hs_n, hs_hs, upd_s, upd_n, upd_upd, ne_eq, Nat.reduceEqDiff, c1_i, c1_r, c2_i, c2_r, ↓reduceIte, List.set_cons_zero, List.set_cons_succ, mm_cb, List.length_cons, List.length_nil, List.all_cons, List.all_nil, Nat.zero_add, Nat.reduceAdd, Nat.reduceLeDiff, Nat.zero_le, decide_true, Bool.and_self, Bool.and_true, true_and, and_true, forall_const, Bool.or_false, Bool.false_or, Bool.or_true, Bool.true_or, Bool.false_eq_true, Nat.reduceBEq, beq_self_eq_true, ha_11, ha_01, hb_10, hb_0x, imp_self, false_implies, not_true_eq_false, not_false_eq_true])
  refine ⟨fun d => h0 (fun z => z.2.2.2.1 (er ▸ d)), fun d => ?_⟩
  refine c_canPack hN hn hk hs2 es (fun v => br1n ?_) (fun v => br0n (h0 (fun z => v z.2.2.2.2)))
  exact c_pack91 hN hn ho hc hk hs2 es (h1 ⟨u, hkn, hx, er ▸ d, v⟩)
theorem c_pack45 {n c k s : Nat} (hN : μ 1 6 = nI n) (hn : n ≤ 60) (ho : ∀ i, i < n → ∃ j, j < 60 ∧ μ 14 i = nI j) (hc : c < 3) (hk : k < 4) (hs2 : s < 2) (es : μ 17 k = nI s) {x : Int32} (u : μ 23 c = -1) (hkn : ¬ μ 15 k = 0) (hx : 1 ≤ x ∧ x ≤ 50) (h0 : ¬ VP μ n c k s x → RI (-1) μ) (h1 : VP μ n c k s x → RI (x * μ 18 k) (pkM μ n c k s x)) {o4 : Option Value} : mm_Rn hh_S 47 RI RV 45 [some (.ref 0), some (.int (nI c)), some (.int (nI k)), some (.int x), o4] [] μ := by
  (refine mm_run ok_47 (fun t => t == 72 || t == 91) 12 ?_; rw [lb_47_45, rb_47]; simp only [↓w_aload_0, ↓w_bipush, ↓w_dup, ↓w_dup2, ↓w_fall, ↓w_getf, ↓w_iadd, ↓w_iald, ↓w_iast, ↓w_ic_ge, ↓w_iconst, ↓w_if_eq, ↓w_if_ne, ↓w_iload, ↓w_iload_1, ↓w_iload_2, ↓w_iload_3, ↓w_imul, ↓w_iret, ↓w_istore, ↓w_isub, ↓w_putf, ↓li_0, ↓li_s, ↓lr_0, ↓lr_s, ↓gf_0_0, ↓gf_0_1, ↓gf_0_10, ↓gf_0_3, ↓gf_0_4, ↓gf_0_7, ↓gf_0_8, ↓gf_2_1, ↓gf_2_2, ↓gf_2_3, ↓gf_2_4, ↓gf_4_4, ↓gf_5_7, ↓pf_0_10, ↓rc_0, ↓rc_1, ↓rc_2, ↓rc_4, ↓ar_8, ↓ar_16, ↓ar_17, ↓ar_18, ↓ar_19, ↓ar_27, ↓w_c12, ↓w_c13, ↓w_c15, ↓w_c24, ↓w_c33, ↓w_c62, ↓w_c65, ↓wl_47_0, ↓wl_47_20, ↓wl_47_22, ↓wl_47_43, ↓wl_47_45, ↓wl_47_72, ↓wl_47_89, ↓wl_47_91, hs_wr, hs_cp, hs_s, hs_n, hs_hs, upd_s, upd_n, upd_upd, ne_eq, Nat.reduceEqDiff, c1_i, c1_r, c2_i, c2_r, ↓reduceIte, List.set_cons_zero, List.set_cons_succ, mm_cb, List.length_cons, List.length_nil, List.all_cons, List.all_nil, Nat.zero_add, Nat.reduceAdd, Nat.reduceLeDiff, Nat.zero_le, decide_true, Bool.and_self, Bool.and_true, true_and, and_true, forall_const, Bool.or_false, Bool.false_or, Bool.or_true, Bool.true_or, Bool.false_eq_true, Nat.reduceBEq, beq_self_eq_true, ha_11, ha_01, hb_10, hb_0x, imp_self, false_implies, not_true_eq_false, not_false_eq_true])
  rw [nI_cl (show k < 2147483648 by omega)]
  exact ⟨in_nI hk (by omega), q_charges (c_pack72 hN hn ho hc hk hs2 es rfl u hkn hx h0 h1)⟩
theorem c_pack22 {n c : Nat} (hN : μ 1 6 = nI n) (hn : n ≤ 60) (ho : ∀ i, i < n → ∃ j, j < 60 ∧ μ 14 i = nI j) (hsk : ∀ k, k < 4 → ∃ s, s < 2 ∧ μ 17 k = nI s) (hc : c < 3) {b x : Int32} (u : μ 23 c = -1) (h0 : (∀ k s, k < 4 → s < 2 → b = nI k → μ 17 k = nI s → ¬ VP μ n c k s x) → RI (-1) μ) (h1 : ∀ k s, k < 4 → s < 2 → b = nI k → μ 17 k = nI s → VP μ n c k s x → RI (x * μ 18 k) (pkM μ n c k s x)) {o4 : Option Value} : mm_Rn hh_S 47 RI RV 22 [some (.ref 0), some (.int (nI c)), some (.int b), some (.int x), o4] [] μ := by
  (refine mm_run ok_47 (fun t => t == 45 || t == 72 || t == 91) 12 ?_; rw [lb_47_22, rb_47]; simp only [↓w_aload_0, ↓w_bipush, ↓w_dup, ↓w_dup2, ↓w_fall, ↓w_getf, ↓w_iadd, ↓w_iald, ↓w_iast, ↓w_ic_ge, ↓w_iconst, ↓w_if_eq, ↓w_if_ne, ↓w_iload, ↓w_iload_1, ↓w_iload_2, ↓w_iload_3, ↓w_imul, ↓w_iret, ↓w_istore, ↓w_isub, ↓w_putf, ↓li_0, ↓li_s, ↓lr_0, ↓lr_s, ↓gf_0_0, ↓gf_0_1, ↓gf_0_10, ↓gf_0_3, ↓gf_0_4, ↓gf_0_7, ↓gf_0_8, ↓gf_2_1, ↓gf_2_2, ↓gf_2_3, ↓gf_2_4, ↓gf_4_4, ↓gf_5_7, ↓pf_0_10, ↓rc_0, ↓rc_1, ↓rc_2, ↓rc_4, ↓ar_8, ↓ar_16, ↓ar_17, ↓ar_18, ↓ar_19, ↓ar_27, ↓w_c12, ↓w_c13, ↓w_c15, ↓w_c24, ↓w_c33, ↓w_c62, ↓w_c65, ↓wl_47_0, ↓wl_47_20, ↓wl_47_22, ↓wl_47_43, ↓wl_47_45, ↓wl_47_72, ↓wl_47_89, ↓wl_47_91, hs_wr, hs_cp, hs_s, hs_n, hs_hs, upd_s, upd_n, upd_upd, ne_eq, Nat.reduceEqDiff, c1_i, c1_r, c2_i, c2_r, ↓reduceIte, List.set_cons_zero, List.set_cons_succ, mm_cb, List.length_cons, List.length_nil, List.all_cons, List.all_nil, Nat.zero_add, Nat.reduceAdd, Nat.reduceLeDiff, Nat.zero_le, decide_true, Bool.and_self, Bool.and_true, true_and, and_true, forall_const, Bool.or_false, Bool.false_or, Bool.or_true, Bool.true_or, Bool.false_eq_true, Nat.reduceBEq, beq_self_eq_true, ha_11, ha_01, hb_10, hb_0x, imp_self, false_implies, not_true_eq_false, not_false_eq_true])
  refine q_hasKind (fun k hk eb hkn => br1 ?_) (fun h => br0 (h0 (fun k s hk hs eb es z => z.2.1 (h k hk eb))))
  subst eb
  obtain ⟨s, hs2, es⟩ := hsk k hk
  refine q_within (fun x1 x2 => br1n ?_) (fun h => br0n (h0 (fun k s hk hs eb es z => h z.2.2.1)))
  refine c_pack45 hN hn ho hc hk hs2 es u hkn ⟨x1, x2⟩ (fun nv => h0 (fun k2 s2 hk2 hs22 eb es2 z => nv ?_)) (fun v => h1 k s hk hs2 rfl es v)
  have e1 := inj100 (by omega) (by omega) eb
  subst e1
  have e2 := inj100 (by omega) (by omega) (es.symm.trans es2)
  subst e2
  exact z
theorem c_pack {n : Nat} (hN : μ 1 6 = nI n) (hn : n ≤ 60) (ho : ∀ i, i < n → ∃ j, j < 60 ∧ μ 14 i = nI j) (hsk : ∀ k, k < 4 → ∃ s, s < 2 ∧ μ 17 k = nI s) {a b x : Int32} (h0 : (∀ c k s, c < 3 → k < 4 → s < 2 → a = nI c → b = nI k → μ 17 k = nI s → ¬ VP μ n c k s x) → RI (-1) μ) (h1 : ∀ c k s, c < 3 → k < 4 → s < 2 → a = nI c → b = nI k → μ 17 k = nI s → VP μ n c k s x → RI (x * μ 18 k) (pkM μ n c k s x)) : mm_Cs hh_S 47 [.ref 0, .int a, .int b, .int x] μ RI RV := by
  refine mm_in rfl (Nat.le_of_ble_eq_true rfl) ?_
  show mm_Rn hh_S 47 RI RV 0 [some (.ref 0), some (.int a), some (.int b), some (.int x), none] [] μ
  (refine mm_run ok_47 (fun t => t == 22 || t == 45 || t == 72 || t == 91) 12 ?_; rw [lb_47_0, rb_47]; simp only [↓w_aload_0, ↓w_bipush, ↓w_dup, ↓w_dup2, ↓w_fall, ↓w_getf, ↓w_iadd, ↓w_iald, ↓w_iast, ↓w_ic_ge, ↓w_iconst, ↓w_if_eq, ↓w_if_ne, ↓w_iload, ↓w_iload_1, ↓w_iload_2, ↓w_iload_3, ↓w_imul, ↓w_iret, ↓w_istore, ↓w_isub, ↓w_putf, ↓li_0, ↓li_s, ↓lr_0, ↓lr_s, ↓gf_0_0, ↓gf_0_1, ↓gf_0_10, ↓gf_0_3, ↓gf_0_4, ↓gf_0_7, ↓gf_0_8, ↓gf_2_1, ↓gf_2_2, ↓gf_2_3, ↓gf_2_4, ↓gf_4_4, ↓gf_5_7, ↓pf_0_10, ↓rc_0, ↓rc_1, ↓rc_2, ↓rc_4, ↓ar_8, ↓ar_16, ↓ar_17, ↓ar_18, ↓ar_19, ↓ar_27, ↓w_c12, ↓w_c13, ↓w_c15, ↓w_c24, ↓w_c33, ↓w_c62, ↓w_c65, ↓wl_47_0, ↓wl_47_20, ↓wl_47_22, ↓wl_47_43, ↓wl_47_45, ↓wl_47_72, ↓wl_47_89, ↓wl_47_91, hs_wr, hs_cp, hs_s, hs_n, hs_hs, upd_s, upd_n, upd_upd, ne_eq, Nat.reduceEqDiff, c1_i, c1_r, c2_i, c2_r, ↓reduceIte, List.set_cons_zero, List.set_cons_succ, mm_cb, List.length_cons, List.length_nil, List.all_cons, List.all_nil, Nat.zero_add, Nat.reduceAdd, Nat.reduceLeDiff, Nat.zero_le, decide_true, Bool.and_self, Bool.and_true, true_and, and_true, forall_const, Bool.or_false, Bool.false_or, Bool.or_true, Bool.true_or, Bool.false_eq_true, Nat.reduceBEq, beq_self_eq_true, ha_11, ha_01, hb_10, hb_0x, imp_self, false_implies, not_true_eq_false, not_false_eq_true])
  refine q_within (fun a1 a2 => br1 ?_) (fun h => br0 (h0 (fun c k s hc hk hs ea eb es => absurd ea (ix_nlit (n := 3) i_0 (by decide) h c hc))))
  obtain ⟨c, hc, ea⟩ := ix_lit (n := 3) i_0 (by decide) a1 a2
  subst ea
  refine q_isFree hc (fun u => br1n (c_pack22 hN hn ho hsk hc u (fun nv => h0 (fun c2 k s hc2 hk hs2 ea eb es => ?_)) (fun k s hk hs2 eb es v => h1 c k s hc hk hs2 rfl eb es v))) (fun u => br0n (h0 (fun c2 k s hc2 hk hs ea eb es z => u ?_)))
  · have e := inj100 (by omega) (by omega) ea
    subst e
    exact nv k s hk hs2 eb es
  · have e := inj100 (by omega) (by omega) ea
    subst e
    exact z.1
end C6
