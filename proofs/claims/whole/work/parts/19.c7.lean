/-! the class's hours -/
/-- a charge is done: its batch -/
def fcB (μ : mm_M) (c n : Nat) : mm_M := hs (hs (hs (hs (hs (hs μ 28 (upd (μ 28) n (μ 23 c))) 29 (upd (μ 29) n (μ 24 c))) 30 (upd (μ 30) n (μ 24 c))) 31 (upd (μ 31) n (μ 25 c))) 34 (va_cpy (μ 27) (μ 34) (c * 60) (n * 60) 60)) 5 (upd (upd (μ 5) 8 (μ 5 8 + μ 26 c)) 7 (nI (n + 1)))
def fcE (μ : mm_M) (c : Nat) : mm_M := hs (hs (hs (hs (hs μ 23 (upd (μ 23) c (-1))) 24 (upd (μ 24) c 0)) 26 (upd (μ 26) c 0)) 25 (upd (μ 25) c (-1))) 27 (rw0 (μ 27) c 60)
def fcF (μ : mm_M) (c n : Nat) (r : Int32) : mm_M := fcE (hs (fcB μ c n) 33 (upd (μ 33) n r)) c
def anR (μ : mm_M) (c nl : Nat) : Prop := ∃ j, j < nl ∧ ¬ μ 13 j = 0 ∧ ¬ μ 27 (c * 60 + j) ≤ 0
theorem mm_Qc_mono {Sh : List mm_C} {G : mm_G} {ret : Option FieldType} {RI RI' : Int32 → mm_M → Prop} {RV RV' : mm_M → Prop} {A : Nat → Prop} {a : Array Value} {s t : State} {o : Outcome} (hI : ∀ r u, RI r u → RI' r u) (hV : ∀ u, RV u → RV' u) (h : mm_Qc Sh G ret RI RV A a s o t) : mm_Qc Sh G ret RI' RV' A a s o t := by
  unfold mm_Qc at h ⊢
  by_cases hr : ret = none
  · rw [if_pos hr] at h ⊢
    obtain ⟨⟨u, h1, h2, h3⟩, h4⟩ := h
    exact ⟨⟨u, h1, hV u h2, h3⟩, h4⟩
  · rw [if_neg hr] at h ⊢
    obtain ⟨⟨r, u, h1, h2, h3⟩, h4⟩ := h
    exact ⟨⟨r, u, h1, hI r u h2, h3⟩, h4⟩
/-- a contract's end may be widened -/
theorem mm_mono {Sh : List mm_C} {k : Nat} {av : List Value} {μ : mm_M} {RI RI' : Int32 → mm_M → Prop} {RV RV' : mm_M → Prop} (h : mm_Cs Sh k av μ RI RV) (hI : ∀ r u, RI r u → RI' r u) (hV : ∀ u, RV u → RV' u) : mm_Cs Sh k av μ RI' RV' := by
  intro l G sz p e ha hc hk s m args below hf happ hP hK
  obtain ⟨n, o, h1, h2, h3, hq, hL⟩ := h l G sz p e ha hc hk s m args below hf happ hP hK
  exact ⟨n, o, h1, h2, h3, mm_Qc_mono hI hV hq, hL⟩
section C7
variable {μ : mm_M} {RI : Int32 → mm_M → Prop} {RV : mm_M → Prop}
theorem cpy_at {f g : Nat → Int32} {c n j : Nat} (hj : j < 60) : va_cpy f g (c * 60) (n * 60) 60 (n * 60 + j) = f (c * 60 + j) := by
  rw [pk_cpy_in (by omega) (by omega)]
  congr 1
  omega
/-- the cookers from c on, one after the other: a relation of memories -/
def fcR (nl : Nat) (c : Nat) (μ ν : mm_M) : Prop :=
  ((μ 23 c = -1 ∨ μ 0 8 < μ 25 c) ∧ ν = μ) ∨
  (¬ μ 23 c = -1 ∧ ¬ μ 0 8 < μ 25 c ∧ ∃ n, n < 100 ∧ μ 5 7 = nI n ∧ ((anR μ c nl ∧ ν = fcF μ c n 1) ∨ (¬ anR μ c nl ∧ ν = fcF μ c n 0)))
theorem c_fcStep {nl c : Nat} (hN : μ 1 6 = nI nl) (hn : nl ≤ 60) (hc : c < 3) {o2 : Option Value} (hb : ¬ μ 23 c = -1 → ¬ μ 0 8 < μ 25 c → ∃ n, n < 100 ∧ μ 5 7 = nI n) (k : ∀ ν o, fcR nl c μ ν → mm_Rn hh_S 64 RI RV 2 [some (.ref 0), some (.int (nI (c + 1))), o] [] ν) : mm_Rn hh_S 64 RI RV 2 [some (.ref 0), some (.int (nI c)), o2] [] μ := by
  (refine mm_run ok_64 (fun t => t == 2) 12 ?_; rw [lb_64_2, rb_64]; simp only [↓w_aload_0, ↓w_bast, ↓w_bipush, ↓w_fall, ↓w_getf, ↓w_goto, ↓w_iald, ↓w_ic_eq, ↓w_ic_ge, ↓w_ic_gt, ↓w_iconst, ↓w_if_ne, ↓w_iinc, ↓w_iload_1, ↓w_iload_2, ↓w_imul, ↓w_istore_1, ↓w_istore_2, ↓w_vret, ↓li_0, ↓li_s, ↓lr_0, ↓lr_s, ↓gf_0_0, ↓gf_0_3, ↓gf_0_4, ↓gf_0_8, ↓gf_4_2, ↓gf_5_5, ↓gf_5_6, ↓rc_1, ↓rc_4, ↓rc_5, ↓ar_25, ↓ar_33, ↓ar_34, ↓w_c1, ↓w_c12, ↓w_c16, ↓w_c34, ↓wl_64_0, ↓wl_64_2, ↓wl_64_79, ↓wl_64_87, ↓wl_64_93, hs_wr, hs_cp, hs_s, hs_n, hs_hs, upd_s, upd_n, upd_upd, ne_eq, Nat.reduceEqDiff, c1_i, c1_r, c2_i, c2_r, ↓reduceIte, List.set_cons_zero, List.set_cons_succ, mm_cb, List.length_cons, List.length_nil, List.all_cons, List.all_nil, Nat.zero_add, Nat.reduceAdd, Nat.reduceLeDiff, Nat.zero_le, decide_true, Bool.and_self, Bool.and_true, true_and, and_true, forall_const, Bool.or_false, Bool.false_or, Bool.or_true, Bool.true_or, Bool.false_eq_true, Nat.reduceBEq, beq_self_eq_true, ha_11, ha_01, hb_10, hb_0x, imp_self, false_implies, not_true_eq_false, not_false_eq_true])
  rw [nI_cl (show c < 2147483648 by omega), nI_1]
  refine ⟨fun q => ?_, fun q => ?_⟩
  · rw [show (3 : Int32) = nI 3 from rfl] at q
    have := le_nI (by omega) (by omega) q
    omega
  · refine q_isFree hc (fun u => br1n (k μ _ (Or.inl ⟨Or.inl u, rfl⟩))) (fun u => br0n ⟨in_nI hc (by omega), fun v => k μ _ (Or.inl ⟨Or.inr v, rfl⟩), fun v => ?_⟩)
    obtain ⟨n, hn1, en⟩ := hb u v
    refine q_addB en hn1 hc ⟨fun e => absurd e ?_, fun _ => ?_⟩
    · intro e
      have := i_nI (show n < 2147483648 by omega)
      rw [e, i_m1] at this
      omega
    · have key : ∀ r : Int32, ((anR μ c nl ∧ r = 1) ∨ (¬ anR μ c nl ∧ r = 0)) → vp_in (nI n) 100 ∧ r &&& 1 = r ∧ mm_Cs hh_S 16 [.ref 4, .int (nI c)] (hs (fcB μ c n) 33 (upd (fcB μ c n 33) (nI n).toNatClampNeg r)) (fun _ _ => False) (fun μ2 => mm_Rn hh_S 64 RI RV 2 [some (.ref 0), some (.int (nI (c + 1))), some (.int (nI n))] [] μ2) := by
        intro r hr
        refine ⟨in_nI hn1 (by omega), ?_, ?_⟩
        · rcases hr with ⟨-, rfl⟩ | ⟨-, rfl⟩ <;> decide
        · rw [nI_cl (show n < 2147483648 by omega)]
          refine q_empty hc (k _ _ (Or.inr ⟨u, v, n, hn1, en, ?_⟩))
          have e9 : fcB μ c n 33 = μ 33 := by
            unfold fcB
            simp only [hs_n, ne_eq, Nat.reduceEqDiff, not_false_eq_true]
          rw [e9]
          rcases hr with ⟨h, rfl⟩ | ⟨h, rfl⟩
          · exact Or.inl ⟨h, rfl⟩
          · exact Or.inr ⟨h, rfl⟩
      have hrec : ∀ j, fcB μ c n 13 j = μ 13 j := by
        intro j
        unfold fcB
        simp only [hs_n, ne_eq, Nat.reduceEqDiff, not_false_eq_true]
      have hfi : ∀ j, j < 60 → fcB μ c n 34 (n * 60 + j) = μ 27 (c * 60 + j) := by
        intro j hj
        unfold fcB
        simp only [hs_s, hs_n, ne_eq, Nat.reduceEqDiff, not_false_eq_true]
        exact cpy_at hj
      have hnl : fcB μ c n 1 6 = nI nl := by
        unfold fcB
        simp only [hs_n, ne_eq, Nat.reduceEqDiff, not_false_eq_true]
        exact hN
      refine q_anyRec (μ := fcB μ c n) hnl hn hn1 (fun h => key 1 (Or.inl ⟨?_, rfl⟩)) (fun h => key 0 (Or.inr ⟨fun z => ?_, rfl⟩))
      · obtain ⟨j, hj, a, b⟩ := h
        rw [hrec] at a
        rw [hfi j (by omega)] at b
        exact ⟨j, hj, a, b⟩
      · obtain ⟨j, hj, a, b⟩ := z
        have := h j hj (by rw [hrec]; exact a)
        rw [hfi j (by omega)] at this
        exact b this
theorem c_finish {nl : Nat} (hn : nl ≤ 60) (h : ∃ P0 P1 P2 : mm_M → Prop, (P0 μ) ∧ (∀ μ, P0 μ → μ 1 6 = nI nl ∧ (¬ μ 23 0 = -1 → ¬ μ 0 8 < μ 25 0 → ∃ n, n < 100 ∧ μ 5 7 = nI n) ∧ ∀ ν, fcR nl 0 μ ν → P1 ν) ∧ (∀ μ, P1 μ → μ 1 6 = nI nl ∧ (¬ μ 23 1 = -1 → ¬ μ 0 8 < μ 25 1 → ∃ n, n < 100 ∧ μ 5 7 = nI n) ∧ ∀ ν, fcR nl 1 μ ν → P2 ν) ∧ (∀ μ, P2 μ → μ 1 6 = nI nl ∧ (¬ μ 23 2 = -1 → ¬ μ 0 8 < μ 25 2 → ∃ n, n < 100 ∧ μ 5 7 = nI n) ∧ ∀ ν, fcR nl 2 μ ν → RV ν)) : mm_Cs hh_S 64 [.ref 0] μ RI RV := by
  obtain ⟨P0, P1, P2, h0, s0, s1, s2⟩ := h
  refine mm_in rfl (Nat.le_of_ble_eq_true rfl) ?_
  show mm_Rn hh_S 64 RI RV 0 [some (.ref 0), none, none] [] μ
  (refine mm_run ok_64 (fun t => t == 2) 12 ?_; rw [lb_64_0, rb_64]; simp only [↓w_aload_0, ↓w_bast, ↓w_bipush, ↓w_fall, ↓w_getf, ↓w_goto, ↓w_iald, ↓w_ic_eq, ↓w_ic_ge, ↓w_ic_gt, ↓w_iconst, ↓w_if_ne, ↓w_iinc, ↓w_iload_1, ↓w_iload_2, ↓w_imul, ↓w_istore_1, ↓w_istore_2, ↓w_vret, ↓li_0, ↓li_s, ↓lr_0, ↓lr_s, ↓gf_0_0, ↓gf_0_3, ↓gf_0_4, ↓gf_0_8, ↓gf_4_2, ↓gf_5_5, ↓gf_5_6, ↓rc_1, ↓rc_4, ↓rc_5, ↓ar_25, ↓ar_33, ↓ar_34, ↓w_c1, ↓w_c12, ↓w_c16, ↓w_c34, ↓wl_64_0, ↓wl_64_2, ↓wl_64_79, ↓wl_64_87, ↓wl_64_93, hs_wr, hs_cp, hs_s, hs_n, hs_hs, upd_s, upd_n, upd_upd, ne_eq, Nat.reduceEqDiff, c1_i, c1_r, c2_i, c2_r, ↓reduceIte, List.set_cons_zero, List.set_cons_succ, mm_cb, List.length_cons, List.length_nil, List.all_cons, List.all_nil, Nat.zero_add, Nat.reduceAdd, Nat.reduceLeDiff, Nat.zero_le, decide_true, Bool.and_self, Bool.and_true, true_and, and_true, forall_const, Bool.or_false, Bool.false_or, Bool.or_true, Bool.true_or, Bool.false_eq_true, Nat.reduceBEq, beq_self_eq_true, ha_11, ha_01, hb_10, hb_0x, imp_self, false_implies, not_true_eq_false, not_false_eq_true])
  obtain ⟨a1, a2, a3⟩ := s0 μ h0
  refine c_fcStep (c := 0) a1 hn (by omega) a2 (fun μ1 o1 g1 => ?_)
  obtain ⟨b1, b2, b3⟩ := s1 μ1 (a3 μ1 g1)
  refine c_fcStep (c := 1) b1 hn (by omega) b2 (fun μ2 o2 g2 => ?_)
  obtain ⟨d1, d2, d3⟩ := s2 μ2 (b3 μ2 g2)
  refine c_fcStep (c := 2) d1 hn (by omega) d2 (fun μ3 o3 g3 => ?_)
  (refine mm_run ok_64 (fun t => t == 2) 12 ?_; rw [lb_64_2, rb_64]; simp only [↓w_aload_0, ↓w_bast, ↓w_bipush, ↓w_fall, ↓w_getf, ↓w_goto, ↓w_iald, ↓w_ic_eq, ↓w_ic_ge, ↓w_ic_gt, ↓w_iconst, ↓w_if_ne, ↓w_iinc, ↓w_iload_1, ↓w_iload_2, ↓w_imul, ↓w_istore_1, ↓w_istore_2, ↓w_vret, ↓li_0, ↓li_s, ↓lr_0, ↓lr_s, ↓gf_0_0, ↓gf_0_3, ↓gf_0_4, ↓gf_0_8, ↓gf_4_2, ↓gf_5_5, ↓gf_5_6, ↓rc_1, ↓rc_4, ↓rc_5, ↓ar_25, ↓ar_33, ↓ar_34, ↓w_c1, ↓w_c12, ↓w_c16, ↓w_c34, ↓wl_64_0, ↓wl_64_2, ↓wl_64_79, ↓wl_64_87, ↓wl_64_93, hs_wr, hs_cp, hs_s, hs_n, hs_hs, upd_s, upd_n, upd_upd, ne_eq, Nat.reduceEqDiff, c1_i, c1_r, c2_i, c2_r, ↓reduceIte, List.set_cons_zero, List.set_cons_succ, mm_cb, List.length_cons, List.length_nil, List.all_cons, List.all_nil, Nat.zero_add, Nat.reduceAdd, Nat.reduceLeDiff, Nat.zero_le, decide_true, Bool.and_self, Bool.and_true, true_and, and_true, forall_const, Bool.or_false, Bool.false_or, Bool.or_true, Bool.true_or, Bool.false_eq_true, Nat.reduceBEq, beq_self_eq_true, ha_11, ha_01, hb_10, hb_0x, imp_self, false_implies, not_true_eq_false, not_false_eq_true])
  exact ⟨fun _ => d3 μ3 g3, fun q => absurd (by decide) q⟩
/-- the end of an hour, behind the charges -/
def spM (μ : mm_M) (nl : Nat) : mm_M := hs (hs μ 10 (fun j => if j < nl ∧ (!frB (μ 11) (μ 12) (μ 0 8) j) = true then 0 else μ 10 j)) 0 (upd (μ 0) 11 (μ 0 11 + su (fun j => if (!frB (μ 11) (μ 12) (μ 0 8) j) = true then μ 10 j else 0) nl))
def clM (μ : mm_M) (nc : Nat) : mm_M := hs (hs μ 40 (fun j => if j < nc ∧ clB (μ 38) (μ 40) (μ 0 8 / 168 - 1) j = true then 1 else μ 40 j)) 0 (upd (μ 0) 13 (μ 0 13 + su (fun j => if clB (μ 38) (μ 40) (μ 0 8 / 168 - 1) j = true then (μ 37 j - μ 39 j) * 2 * μ 20 (μ 36 j).toNatClampNeg else 0) nc))
def hrM (μ : mm_M) : mm_M := hs μ 0 (upd (upd (μ 0) 8 (μ 0 8 + 1)) 10 0)
theorem c_passHour {nl nc : Nat} (hn : nl ≤ 60) (hc : nc ≤ 20) (h : mm_Cs hh_S 64 [.ref 0] (hrM μ) (fun _ _ => False) (fun ν => ν 1 6 = nI nl ∧ ν 6 7 = nI nc ∧ (∀ i, i < nc → ∃ j, j < 4 ∧ ν 36 i = nI j) ∧ (¬ ν 0 8 - ν 0 8 / 168 * 168 = 0 → RV (spM ν nl)) ∧ (ν 0 8 - ν 0 8 / 168 * 168 = 0 → RV (clM (spM ν nl) nc)))) : mm_Cs hh_S 63 [.ref 0] μ RI RV := by
  refine mm_in rfl (Nat.le_of_ble_eq_true rfl) ?_
  show mm_Rn hh_S 63 RI RV 0 [some (.ref 0)] [] μ
  (refine mm_run ok_63 (fun t => false) 12 ?_; rw [lb_63_0, rb_63]; simp only [↓w_aload_0, ↓w_dup, ↓w_fall, ↓w_getf, ↓w_iadd, ↓w_iconst, ↓w_idiv, ↓w_if_ne, ↓w_irem, ↓w_isub, ↓w_putf, ↓w_sipush, ↓w_vret, ↓li_0, ↓li_s, ↓lr_0, ↓lr_s, ↓gf_0_0, ↓gf_0_1, ↓gf_0_11, ↓gf_0_13, ↓gf_0_5, ↓gf_0_8, ↓gf_2_5, ↓pf_0_10, ↓pf_0_11, ↓pf_0_13, ↓pf_0_8, ↓rc_0, ↓rc_1, ↓rc_6, ↓ar_20, ↓w_c11, ↓w_c35, ↓w_c64, ↓wl_63_0, ↓wl_63_83, hs_wr, hs_cp, hs_s, hs_n, hs_hs, upd_s, upd_n, upd_upd, ne_eq, Nat.reduceEqDiff, c1_i, c1_r, c2_i, c2_r, ↓reduceIte, List.set_cons_zero, List.set_cons_succ, mm_cb, List.length_cons, List.length_nil, List.all_cons, List.all_nil, Nat.zero_add, Nat.reduceAdd, Nat.reduceLeDiff, Nat.zero_le, decide_true, Bool.and_self, Bool.and_true, true_and, and_true, forall_const, Bool.or_false, Bool.false_or, Bool.or_true, Bool.true_or, Bool.false_eq_true, Nat.reduceBEq, beq_self_eq_true, ha_11, ha_01, hb_10, hb_0x, imp_self, false_implies, not_true_eq_false, not_false_eq_true])
  refine mm_mono h (fun _ _ z => z.elim) (fun ν hν => ?_)
  obtain ⟨a1, a2, a3, a4, a5⟩ := hν
  refine q_spoil a1 hn ⟨by decide, fun q => ?_, fun q => ⟨by decide, ?_⟩⟩
  · simp only [hs_n, ne_eq, Nat.reduceEqDiff, not_false_eq_true] at q ⊢
    exact a4 q
  · simp only [hs_n, ne_eq, Nat.reduceEqDiff, not_false_eq_true] at q
    refine q_close (n := nc) ?_ hc ?_ ?_
    · simp only [hs_n, ne_eq, Nat.reduceEqDiff, not_false_eq_true]
      exact a2
    · simp only [hs_n, ne_eq, Nat.reduceEqDiff, not_false_eq_true]
      exact a3
    · have g := a5 q
      unfold clM spM at g
      simp only [hs_s, hs_n, hs_hs, ne_eq, Nat.reduceEqDiff, not_false_eq_true, upd_n] at g ⊢
      rw [hs_aba (by decide)] at g
      rw [hs_aba (by decide)]
      exact g
end C7
