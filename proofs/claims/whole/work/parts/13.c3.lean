/-! batches, contracts: loops as folds -/
def fo {S : Type} (f : Nat → S → S) : Nat → S → S
  | 0, s => s
  | n + 1, s => f n (fo f n s)
theorem fo_stop {S : Type} {f : Nat → S → S} {stop : S → Prop} (h : ∀ j s, stop s → f j s = s) {i : Nat} {s : S} (hs : stop (fo f i s)) : ∀ n, i ≤ n → fo f n s = fo f i s := by
  intro n
  induction n with
  | zero => intro hi; rw [show i = 0 by omega]
  | succ n ih =>
    intro hi
    by_cases hin : i = n + 1
    · rw [hin]
    · have e := ih (by omega)
      show f n (fo f n s) = _
      rw [e, h n _ hs]
def fsB (kd ba : Nat → Int32) (k : Int32) (b : Nat) : Bool := decide (kd b = k) && decide (ba b = 0)
def cw (p d t : Int32) : Int32 := p + p / 10 * (if (t - d) / 168 / 4 < 3 then (t - d) / 168 / 4 else 3)
def so (f : Nat → Int32) : Nat → Int32
  | 0 => 0
  | n + 1 => so f n ||| f n
theorem or_0 (x : Int32) : x ||| 0 = x := by
  apply Int32.toBitVec_inj.mp
  simp
theorem so_if_t {f : Nat → Int32} {p : Nat → Bool} {i : Nat} (h : p i = true) : so (fun j => if p j = true then f j else 0) (i + 1) = so (fun j => if p j = true then f j else 0) i ||| f i := by
  show so _ i ||| (if p i = true then f i else 0) = _
  rw [if_pos h]
theorem so_if_f {f : Nat → Int32} {p : Nat → Bool} {i : Nat} (h : ¬ p i = true) : so (fun j => if p j = true then f j else 0) (i + 1) = so (fun j => if p j = true then f j else 0) i := by
  show so _ i ||| (if p i = true then f i else 0) = _
  rw [if_neg h, or_0]
/-- selling, a batch -/
abbrev dlT : Type := Int32 × Int32 × (Nat → Int32) × (Nat → Int32)
def dlS (kd ba dn : Nat → Int32) (k cu p t : Int32) (b : Nat) (s : dlT) : dlT :=
  if s.1 ≤ 0 then s else if fsB kd ba k b = true ∧ ¬ s.2.2.1 b ≤ 0 then
    (s.1 - (if s.1 < s.2.2.1 b then s.1 else s.2.2.1 b), s.2.1 + (if s.1 < s.2.2.1 b then s.1 else s.2.2.1 b) * cw p (dn b) t, upd s.2.2.1 b (s.2.2.1 b - (if s.1 < s.2.2.1 b then s.1 else s.2.2.1 b)), upd s.2.2.2 b (s.2.2.2 b ||| 1 <<< (cu &&& 31)))
  else s
/-- a contract is served -/
abbrev svT : Type := Int32 × (Nat → Int32)
def svC (ov cu kd : Nat → Int32) (c k : Int32) (q : Nat) : Bool := decide (ov q = 0) && decide (cu q = c) && decide (kd q = k)
def svS (od ov cu kd wa : Nat → Int32) (c k : Int32) (i : Nat) (s : svT) : svT :=
  if s.1 ≤ 0 then s else if svC ov cu kd c k (od i).toNatClampNeg = true then
    (s.1 - (if s.1 < wa (od i).toNatClampNeg - s.2 (od i).toNatClampNeg then s.1 else wa (od i).toNatClampNeg - s.2 (od i).toNatClampNeg), upd s.2 (od i).toNatClampNeg (s.2 (od i).toNatClampNeg + (if s.1 < wa (od i).toNatClampNeg - s.2 (od i).toNatClampNeg then s.1 else wa (od i).toNatClampNeg - s.2 (od i).toNatClampNeg)))
  else s
/-- what is left for a contract, those before it served -/
def shS (od ov kd wa ha : Nat → Int32) (k : Int32) (i : Nat) (r : Int32) : Int32 :=
  if ov (od i).toNatClampNeg = 0 ∧ kd (od i).toNatClampNeg = k then r - (if r < wa (od i).toNatClampNeg - ha (od i).toNatClampNeg then r else wa (od i).toNatClampNeg - ha (od i).toNatClampNeg) else r
def clB (wk ov : Nat → Int32) (w : Int32) (j : Nat) : Bool := decide (wk j = w) && decide (ov j = 0)
/-- the newest goes to its place in an order -/
def pin (ky : Nat → Int32) (nw : Int32) : Nat → (Nat → Int32) → (Nat → Int32)
  | 0, o => upd o 0 nw
  | a + 1, o => if ky nw.toNatClampNeg < ky (o a).toNatClampNeg then pin ky nw a (upd o (a + 1) (o a)) else upd o (a + 1) nw
section C3
variable {μ : mm_M} {RI : Int32 → mm_M → Prop} {RV : mm_M → Prop}
theorem q_isForSale {b : Nat} (hb : b < 100) {k : Int32} (h1 : fsB (μ 28) (μ 33) k b = true → RI 1 μ) (h0 : ¬ fsB (μ 28) (μ 33) k b = true → RI 0 μ) : mm_Cs hh_S 2 [.ref 5, .int (nI b), .int k] μ RI RV := by
  have hi := in_nI hb (by omega)
  refine mm_in rfl (Nat.le_of_ble_eq_true rfl) ?_
  show mm_Rn hh_S 2 RI RV 0 [some (.ref 5), some (.int (nI b)), some (.int k)] [] μ
  (refine mm_run ok_2 (fun t => false) 9 ?_; rw [lb_2_0, rb_2]; simp only [↓w_aload_0, ↓w_bald, ↓w_fall, ↓w_getf, ↓w_goto, ↓w_iald, ↓w_ic_ne, ↓w_iconst, ↓w_if_ne, ↓w_iload_1, ↓w_iload_2, ↓w_iret, ↓li_0, ↓li_s, ↓lr_0, ↓lr_s, ↓gf_5_0, ↓gf_5_5, ↓ar_28, ↓ar_33, ↓wl_2_0, ↓wl_2_23, ↓wl_2_24, hs_wr, hs_cp, hs_s, hs_n, hs_hs, upd_s, upd_n, upd_upd, ne_eq, Nat.reduceEqDiff, c1_i, c1_r, c2_i, c2_r, ↓reduceIte, List.set_cons_zero, List.set_cons_succ, mm_cb, List.length_cons, List.length_nil, List.all_cons, List.all_nil, Nat.zero_add, Nat.reduceAdd, Nat.reduceLeDiff, Nat.zero_le, decide_true, Bool.and_self, Bool.and_true, true_and, and_true, forall_const, Bool.or_false, Bool.false_or, Bool.or_true, Bool.true_or, Bool.false_eq_true, Nat.reduceBEq, beq_self_eq_true, ha_11, ha_01, hb_10, hb_0x, imp_self, false_implies, not_true_eq_false, not_false_eq_true])
  rw [nI_cl (by omega)]
  unfold fsB at h1 h0
  simp only [Bool.and_eq_true, decide_eq_true_eq] at h1 h0
  exact ⟨hi, fun q => h0 (fun z => q z.1), fun q => ⟨hi, fun r => h0 (fun z => r z.2), fun r => h1 ⟨q, r⟩⟩⟩
theorem q_stock {n : Nat} (hN : μ 5 7 = nI n) (hn : n ≤ 100) {k : Int32} (h : RI (su (fun b => if fsB (μ 28) (μ 33) k b = true then μ 30 b else 0) n) μ) : mm_Cs hh_S 3 [.ref 5, .int k] μ RI RV := by
  have lp := up_ind (n := n) (P := fun i => mm_Rn hh_S 3 RI RV 4 [some (.ref 5), some (.int k), some (.int (su (fun b => if fsB (μ 28) (μ 33) k b = true then μ 30 b else 0) i)), some (.int (nI i))] [] μ) (fun i hi ih => by
    (refine mm_run ok_3 (fun t => t == 4) 9 ?_; rw [lb_3_4, rb_3]; simp only [↓w_aload_0, ↓w_fall, ↓w_getf, ↓w_goto, ↓w_iadd, ↓w_iald, ↓w_ic_ge, ↓w_iconst, ↓w_if_eq, ↓w_iinc, ↓w_iload_1, ↓w_iload_2, ↓w_iload_3, ↓w_iret, ↓w_istore_2, ↓w_istore_3, ↓li_0, ↓li_s, ↓lr_0, ↓lr_s, ↓gf_5_2, ↓gf_5_7, ↓rc_5, ↓ar_30, ↓w_c2, ↓wl_3_0, ↓wl_3_4, ↓wl_3_30, ↓wl_3_36, hs_wr, hs_cp, hs_s, hs_n, hs_hs, upd_s, upd_n, upd_upd, ne_eq, Nat.reduceEqDiff, c1_i, c1_r, c2_i, c2_r, ↓reduceIte, List.set_cons_zero, List.set_cons_succ, mm_cb, List.length_cons, List.length_nil, List.all_cons, List.all_nil, Nat.zero_add, Nat.reduceAdd, Nat.reduceLeDiff, Nat.zero_le, decide_true, Bool.and_self, Bool.and_true, true_and, and_true, forall_const, Bool.or_false, Bool.false_or, Bool.or_true, Bool.true_or, Bool.false_eq_true, Nat.reduceBEq, beq_self_eq_true, ha_11, ha_01, hb_10, hb_0x, imp_self, false_implies, not_true_eq_false, not_false_eq_true])
    rw [hN, nI_cl (by omega), nI_1]
    refine ⟨fun c => ?_, fun c => ?_⟩
    · have := le_nI (by omega) (by omega) c
      rw [show i = n by omega]
      exact h
    · have := nle_nI (by omega) (by omega) c
      refine q_isForSale (by omega) (fun u => br1 ?_) (fun u => br0 ?_)
      · rw [← su_if_t (f := μ 30) u]
        exact ⟨in_nI (by omega) (by omega), ih (i + 1) (by omega) (by omega)⟩
      · rw [← su_if_f (f := μ 30) u]
        exact ih (i + 1) (by omega) (by omega))
  refine mm_in rfl (Nat.le_of_ble_eq_true rfl) ?_
  show mm_Rn hh_S 3 RI RV 0 [some (.ref 5), some (.int k), none, none] [] μ
  (refine mm_run ok_3 (fun t => t == 4) 9 ?_; rw [lb_3_0, rb_3]; simp only [↓w_aload_0, ↓w_fall, ↓w_getf, ↓w_goto, ↓w_iadd, ↓w_iald, ↓w_ic_ge, ↓w_iconst, ↓w_if_eq, ↓w_iinc, ↓w_iload_1, ↓w_iload_2, ↓w_iload_3, ↓w_iret, ↓w_istore_2, ↓w_istore_3, ↓li_0, ↓li_s, ↓lr_0, ↓lr_s, ↓gf_5_2, ↓gf_5_7, ↓rc_5, ↓ar_30, ↓w_c2, ↓wl_3_0, ↓wl_3_4, ↓wl_3_30, ↓wl_3_36, hs_wr, hs_cp, hs_s, hs_n, hs_hs, upd_s, upd_n, upd_upd, ne_eq, Nat.reduceEqDiff, c1_i, c1_r, c2_i, c2_r, ↓reduceIte, List.set_cons_zero, List.set_cons_succ, mm_cb, List.length_cons, List.length_nil, List.all_cons, List.all_nil, Nat.zero_add, Nat.reduceAdd, Nat.reduceLeDiff, Nat.zero_le, decide_true, Bool.and_self, Bool.and_true, true_and, and_true, forall_const, Bool.or_false, Bool.false_or, Bool.or_true, Bool.true_or, Bool.false_eq_true, Nat.reduceBEq, beq_self_eq_true, ha_11, ha_01, hb_10, hb_0x, imp_self, false_implies, not_true_eq_false, not_false_eq_true])
  exact lp 0 (Nat.zero_le _)
theorem q_caseWorth {b : Nat} (hb : b < 100) {p t : Int32} (h : RI (cw p (μ 31 b) t) μ) : mm_Cs hh_S 4 [.ref 5, .int (nI b), .int p, .int t] μ RI RV := by
  refine mm_in rfl (Nat.le_of_ble_eq_true rfl) ?_
  show mm_Rn hh_S 4 RI RV 0 [some (.ref 5), some (.int (nI b)), some (.int p), some (.int t), none] [] μ
  (refine mm_run ok_4 (fun t => false) 9 ?_; rw [lb_4_0, rb_4]; simp only [↓w_aload_0, ↓w_bipush, ↓w_getf, ↓w_iadd, ↓w_iald, ↓w_iconst, ↓w_idiv, ↓w_iload, ↓w_iload_1, ↓w_iload_2, ↓w_iload_3, ↓w_imul, ↓w_iret, ↓w_istore, ↓w_isub, ↓w_min, ↓w_sipush, ↓li_0, ↓li_s, ↓lr_0, ↓lr_s, ↓gf_5_3, ↓ar_31, ↓wl_4_0, hs_wr, hs_cp, hs_s, hs_n, hs_hs, upd_s, upd_n, upd_upd, ne_eq, Nat.reduceEqDiff, c1_i, c1_r, c2_i, c2_r, ↓reduceIte, List.set_cons_zero, List.set_cons_succ, mm_cb, List.length_cons, List.length_nil, List.all_cons, List.all_nil, Nat.zero_add, Nat.reduceAdd, Nat.reduceLeDiff, Nat.zero_le, decide_true, Bool.and_self, Bool.and_true, true_and, and_true, forall_const, Bool.or_false, Bool.false_or, Bool.or_true, Bool.true_or, Bool.false_eq_true, Nat.reduceBEq, beq_self_eq_true, ha_11, ha_01, hb_10, hb_0x, imp_self, false_implies, not_true_eq_false, not_false_eq_true])
  rw [nI_cl (by omega)]
  exact ⟨in_nI hb (by omega), by decide, by decide, by decide, h⟩
theorem hs_aba {μ : mm_M} {a b : Nat} {x y z : Nat → Int32} (h : b ≠ a) : hs (hs (hs μ a x) b y) a z = hs (hs μ a z) b y := by
  rw [hs_sw h, hs_hs]
theorem q_deliver {n : Nat} (hN : μ 5 7 = nI n) (hn : n ≤ 100) {cu k m p t : Int32} (h : RI (fo (dlS (μ 28) (μ 33) (μ 31) k cu p t) n (m, 0, μ 30, μ 32)).2.1 (hs (hs μ 30 (fo (dlS (μ 28) (μ 33) (μ 31) k cu p t) n (m, 0, μ 30, μ 32)).2.2.1) 32 (fo (dlS (μ 28) (μ 33) (μ 31) k cu p t) n (m, 0, μ 30, μ 32)).2.2.2)) : mm_Cs hh_S 5 [.ref 5, .int cu, .int k, .int m, .int p, .int t] μ RI RV := by
  generalize hF : dlS (μ 28) (μ 33) (μ 31) k cu p t = F at h
  generalize hs0 : (m, (0 : Int32), μ 30, μ 32) = s0 at h
  have hstop : ∀ j s, s.1 ≤ 0 → F j s = s := by
    intro j s hs
    rw [← hF]
    unfold dlS
    rw [if_pos hs]
  have lp := up_ind (n := n) (P := fun i => ∀ o9, mm_Rn hh_S 5 RI RV 9 [some (.ref 5), some (.int cu), some (.int k), some (.int m), some (.int p), some (.int t), some (.int (fo F i s0).1), some (.int (fo F i s0).2.1), some (.int (nI i)), o9] [] (hs (hs μ 30 (fo F i s0).2.2.1) 32 (fo F i s0).2.2.2)) (fun i hi ih => by
    intro o9
    have ih := ih (i + 1) (by omega)
    have e1 : fo F (i + 1) s0 = F i (fo F i s0) := rfl
    have est := fo_stop (stop := fun s => s.1 ≤ 0) hstop (i := i) (s := s0)
    rw [e1] at ih
    generalize hS : fo F i s0 = s at ih est ⊢
    obtain ⟨r, pd, lf, bu⟩ := s
    rw [← hF] at ih
    unfold dlS at ih
    dsimp only at ih est ⊢
    (refine mm_run ok_5 (fun t => t == 9) 9 ?_; rw [lb_5_9, rb_5]; simp only [↓w_aload_0, ↓w_dup2, ↓w_fall, ↓w_getf, ↓w_goto, ↓w_iadd, ↓w_iald, ↓w_iast, ↓w_ic_ge, ↓w_iconst, ↓w_if_eq, ↓w_if_le, ↓w_iinc, ↓w_iload, ↓w_iload_1, ↓w_iload_2, ↓w_iload_3, ↓w_imul, ↓w_ior, ↓w_iret, ↓w_ishl, ↓w_istore, ↓w_isub, ↓w_min, ↓li_0, ↓li_s, ↓lr_0, ↓lr_s, ↓gf_5_2, ↓gf_5_4, ↓gf_5_7, ↓rc_5, ↓ar_30, ↓ar_32, ↓w_c2, ↓w_c4, ↓wl_5_0, ↓wl_5_9, ↓wl_5_107, ↓wl_5_113, hs_wr, hs_cp, hs_s, hs_n, hs_hs, upd_s, upd_n, upd_upd, ne_eq, Nat.reduceEqDiff, c1_i, c1_r, c2_i, c2_r, ↓reduceIte, List.set_cons_zero, List.set_cons_succ, mm_cb, List.length_cons, List.length_nil, List.all_cons, List.all_nil, Nat.zero_add, Nat.reduceAdd, Nat.reduceLeDiff, Nat.zero_le, decide_true, Bool.and_self, Bool.and_true, true_and, and_true, forall_const, Bool.or_false, Bool.false_or, Bool.or_true, Bool.true_or, Bool.false_eq_true, Nat.reduceBEq, beq_self_eq_true, ha_11, ha_01, hb_10, hb_0x, imp_self, false_implies, not_true_eq_false, not_false_eq_true])
    rw [hN, nI_cl (by omega), nI_1]
    refine ⟨fun c => ?_, fun c => ?_⟩
    · have := le_nI (by omega) (by omega) c
      have e : i = n := by omega
      rw [e] at hS
      rw [hS] at h
      exact h
    · have := nle_nI (by omega) (by omega) c
      have ih := ih (by omega)
      refine ⟨fun q => ?_, fun q => ?_⟩
      · rw [est q n (by omega)] at h
        exact h
      · rw [if_neg q] at ih
        refine q_isForSale (by omega) (fun u => br1 ⟨in_nI (by omega) (by omega), fun v => ?_, fun v => ?_⟩) (fun u => br0 ?_)
        · simp only [hs_s, hs_n, ne_eq, Nat.reduceEqDiff, not_false_eq_true] at u v
          rw [if_neg (fun z => z.2 v)] at ih
          exact ih _
        · simp only [hs_s, hs_n, ne_eq, Nat.reduceEqDiff, not_false_eq_true] at u v
          rw [if_pos ⟨u, v⟩] at ih
          refine ⟨in_nI (by omega) (by omega), in_nI (by omega) (by omega), in_nI (by omega) (by omega), ?_⟩
          refine q_caseWorth (by omega) ⟨in_nI (by omega) (by omega), in_nI (by omega) (by omega), ?_⟩
          simp only [hs_s, hs_n, ne_eq, Nat.reduceEqDiff, not_false_eq_true]
          rw [hs_aba (by decide), hs_aba (by decide)]
          exact ih _
        · simp only [hs_s, hs_n, ne_eq, Nat.reduceEqDiff, not_false_eq_true] at u
          rw [if_neg (fun z => u z.1)] at ih
          exact ih _)
  refine mm_in rfl (Nat.le_of_ble_eq_true rfl) ?_
  show mm_Rn hh_S 5 RI RV 0 [some (.ref 5), some (.int cu), some (.int k), some (.int m), some (.int p), some (.int t), none, none, none, none] [] μ
  (refine mm_run ok_5 (fun t => t == 9) 9 ?_; rw [lb_5_0, rb_5]; simp only [↓w_aload_0, ↓w_dup2, ↓w_fall, ↓w_getf, ↓w_goto, ↓w_iadd, ↓w_iald, ↓w_iast, ↓w_ic_ge, ↓w_iconst, ↓w_if_eq, ↓w_if_le, ↓w_iinc, ↓w_iload, ↓w_iload_1, ↓w_iload_2, ↓w_iload_3, ↓w_imul, ↓w_ior, ↓w_iret, ↓w_ishl, ↓w_istore, ↓w_isub, ↓w_min, ↓li_0, ↓li_s, ↓lr_0, ↓lr_s, ↓gf_5_2, ↓gf_5_4, ↓gf_5_7, ↓rc_5, ↓ar_30, ↓ar_32, ↓w_c2, ↓w_c4, ↓wl_5_0, ↓wl_5_9, ↓wl_5_107, ↓wl_5_113, hs_wr, hs_cp, hs_s, hs_n, hs_hs, upd_s, upd_n, upd_upd, ne_eq, Nat.reduceEqDiff, c1_i, c1_r, c2_i, c2_r, ↓reduceIte, List.set_cons_zero, List.set_cons_succ, mm_cb, List.length_cons, List.length_nil, List.all_cons, List.all_nil, Nat.zero_add, Nat.reduceAdd, Nat.reduceLeDiff, Nat.zero_le, decide_true, Bool.and_self, Bool.and_true, true_and, and_true, forall_const, Bool.or_false, Bool.false_or, Bool.or_true, Bool.true_or, Bool.false_eq_true, Nat.reduceBEq, beq_self_eq_true, ha_11, ha_01, hb_10, hb_0x, imp_self, false_implies, not_true_eq_false, not_false_eq_true])
  have := lp 0 (Nat.zero_le _) none
  rw [← hs0] at this
  simp only [fo, hs_id] at this
  exact this
theorem q_bar {n l : Nat} (hN : μ 5 7 = nI n) (hn : n ≤ 100) (hl : l < 60) (h : RI (so (fun b => if decide (¬ μ 34 (b * 60 + l) ≤ 0) = true then μ 32 b else 0) n) (hs μ 33 (fun b => if b < n ∧ ¬ μ 34 (b * 60 + l) ≤ 0 then 1 else μ 33 b))) : mm_Cs hh_S 6 [.ref 5, .int (nI l)] μ RI RV := by
  have lp := up_ind (n := n) (P := fun i => mm_Rn hh_S 6 RI RV 4 [some (.ref 5), some (.int (nI l)), some (.int (so (fun b => if decide (¬ μ 34 (b * 60 + l) ≤ 0) = true then μ 32 b else 0) i)), some (.int (nI i))] [] (hs μ 33 (fun b => if b < i ∧ ¬ μ 34 (b * 60 + l) ≤ 0 then 1 else μ 33 b))) (fun i hi ih => by
    (refine mm_run ok_6 (fun t => t == 4) 9 ?_; rw [lb_6_4, rb_6]; simp only [↓w_aload_0, ↓w_bast, ↓w_bipush, ↓w_fall, ↓w_getf, ↓w_goto, ↓w_iadd, ↓w_iald, ↓w_ic_ge, ↓w_iconst, ↓w_if_le, ↓w_iinc, ↓w_iload_1, ↓w_iload_2, ↓w_iload_3, ↓w_imul, ↓w_ior, ↓w_iret, ↓w_istore_2, ↓w_istore_3, ↓li_0, ↓li_s, ↓lr_0, ↓lr_s, ↓gf_5_4, ↓gf_5_5, ↓gf_5_6, ↓gf_5_7, ↓ar_32, ↓ar_33, ↓ar_34, ↓wl_6_0, ↓wl_6_4, ↓wl_6_42, ↓wl_6_48, hs_wr, hs_cp, hs_s, hs_n, hs_hs, upd_s, upd_n, upd_upd, ne_eq, Nat.reduceEqDiff, c1_i, c1_r, c2_i, c2_r, ↓reduceIte, List.set_cons_zero, List.set_cons_succ, mm_cb, List.length_cons, List.length_nil, List.all_cons, List.all_nil, Nat.zero_add, Nat.reduceAdd, Nat.reduceLeDiff, Nat.zero_le, decide_true, Bool.and_self, Bool.and_true, true_and, and_true, forall_const, Bool.or_false, Bool.false_or, Bool.or_true, Bool.true_or, Bool.false_eq_true, Nat.reduceBEq, beq_self_eq_true, ha_11, ha_01, hb_10, hb_0x, imp_self, false_implies, not_true_eq_false, not_false_eq_true])
    rw [hN, nI_cl (by omega), nI_1, ixm]
    refine ⟨fun c => ?_, fun c => ?_⟩
    · have := le_nI (by omega) (by omega) c
      rw [show i = n by omega]
      exact h
    · have := nle_nI (by omega) (by omega) c
      have ih := ih (i + 1) (by omega) (by omega)
      rw [nI_cl (by omega)]
      refine ⟨in_nI (by omega) (by omega), fun q => ?_, fun q => ⟨in_nI (by omega) (by omega), in_nI (by omega) (by omega), ?_⟩⟩
      · rw [so_if_f (f := μ 32) (p := fun b => decide (¬ μ 34 (b * 60 + l) ≤ 0)) (by simp [q])] at ih
        have e : (fun b => if b < i + 1 ∧ ¬ μ 34 (b * 60 + l) ≤ 0 then (1 : Int32) else μ 33 b) = (fun b => if b < i ∧ ¬ μ 34 (b * 60 + l) ≤ 0 then 1 else μ 33 b) := by
          funext j
          by_cases hj : j = i
          · subst hj
            simp [q]
          · simp only [show (j < i + 1) = (j < i) by apply propext; omega]
        rw [e] at ih
        exact ih
      · rw [so_if_t (f := μ 32) (p := fun b => decide (¬ μ 34 (b * 60 + l) ≤ 0)) (by simp [q])] at ih
        have e : upd (fun b => if b < i ∧ ¬ μ 34 (b * 60 + l) ≤ 0 then (1 : Int32) else μ 33 b) i 1 = (fun b => if b < i + 1 ∧ ¬ μ 34 (b * 60 + l) ≤ 0 then 1 else μ 33 b) := by
          funext j
          unfold upd
          by_cases hj : j = i
          · subst hj
            rw [if_pos rfl, if_pos ⟨by omega, q⟩]
          · simp only [hj, if_false, show (j < i + 1) = (j < i) by apply propext; omega]
        rw [e]
        exact ih)
  refine mm_in rfl (Nat.le_of_ble_eq_true rfl) ?_
  show mm_Rn hh_S 6 RI RV 0 [some (.ref 5), some (.int (nI l)), none, none] [] μ
  (refine mm_run ok_6 (fun t => t == 4) 9 ?_; rw [lb_6_0, rb_6]; simp only [↓w_aload_0, ↓w_bast, ↓w_bipush, ↓w_fall, ↓w_getf, ↓w_goto, ↓w_iadd, ↓w_iald, ↓w_ic_ge, ↓w_iconst, ↓w_if_le, ↓w_iinc, ↓w_iload_1, ↓w_iload_2, ↓w_iload_3, ↓w_imul, ↓w_ior, ↓w_iret, ↓w_istore_2, ↓w_istore_3, ↓li_0, ↓li_s, ↓lr_0, ↓lr_s, ↓gf_5_4, ↓gf_5_5, ↓gf_5_6, ↓gf_5_7, ↓ar_32, ↓ar_33, ↓ar_34, ↓wl_6_0, ↓wl_6_4, ↓wl_6_42, ↓wl_6_48, hs_wr, hs_cp, hs_s, hs_n, hs_hs, upd_s, upd_n, upd_upd, ne_eq, Nat.reduceEqDiff, c1_i, c1_r, c2_i, c2_r, ↓reduceIte, List.set_cons_zero, List.set_cons_succ, mm_cb, List.length_cons, List.length_nil, List.all_cons, List.all_nil, Nat.zero_add, Nat.reduceAdd, Nat.reduceLeDiff, Nat.zero_le, decide_true, Bool.and_self, Bool.and_true, true_and, and_true, forall_const, Bool.or_false, Bool.false_or, Bool.or_true, Bool.true_or, Bool.false_eq_true, Nat.reduceBEq, beq_self_eq_true, ha_11, ha_01, hb_10, hb_0x, imp_self, false_implies, not_true_eq_false, not_false_eq_true])
  have := lp 0 (Nat.zero_le _)
  have e : (fun b => if b < 0 ∧ ¬ μ 34 (b * 60 + l) ≤ 0 then (1 : Int32) else μ 33 b) = μ 33 := by
    funext j
    simp
  rw [e, hs_id] at this
  exact this
theorem m60 (b : Nat) : nI b * 60 = nI (b * 60) := by
  rw [show (60 : Int32) = nI 60 from rfl, pk_mul]
theorem q_addB {n j : Nat} (hN : μ 5 7 = nI n) (hn : n < 100) (hj : j < 3) (h : RI (nI n) (hs (hs (hs (hs (hs (hs μ 28 (upd (μ 28) n (μ 23 j))) 29 (upd (μ 29) n (μ 24 j))) 30 (upd (μ 30) n (μ 24 j))) 31 (upd (μ 31) n (μ 25 j))) 34 (va_cpy (μ 27) (μ 34) (j * 60) (n * 60) 60)) 5 (upd (upd (μ 5) 8 (μ 5 8 + μ 26 j)) 7 (nI (n + 1))))) : mm_Cs hh_S 1 [.ref 5, .ref 4, .int (nI j)] μ RI RV := by
  have hi := in_nI hj (by omega)
  have hi2 := in_nI hn (by omega)
  refine mm_in rfl (Nat.le_of_ble_eq_true rfl) ?_
  show mm_Rn hh_S 1 RI RV 0 [some (.ref 5), some (.ref 4), some (.int (nI j)), none] [] μ
  (refine mm_run ok_1 (fun t => false) 9 ?_; rw [lb_1_0, rb_1]; simp only [↓w_aload_0, ↓w_aload_1, ↓w_bipush, ↓w_cpy, ↓w_dup, ↓w_getf, ↓w_iadd, ↓w_iald, ↓w_iast, ↓w_ic_lt, ↓w_iconst, ↓w_iload_2, ↓w_iload_3, ↓w_imul, ↓w_iret, ↓w_istore_3, ↓w_putf, ↓li_0, ↓li_s, ↓lr_0, ↓lr_s, ↓gf_4_0, ↓gf_4_1, ↓gf_4_2, ↓gf_4_3, ↓gf_4_4, ↓gf_5_0, ↓gf_5_1, ↓gf_5_2, ↓gf_5_3, ↓gf_5_6, ↓gf_5_7, ↓gf_5_8, ↓pf_5_7, ↓pf_5_8, ↓ar_23, ↓al_23, ↓ar_24, ↓al_24, ↓ar_25, ↓al_25, ↓ar_26, ↓al_26, ↓ar_27, ↓al_27, ↓ar_28, ↓al_28, ↓ar_29, ↓al_29, ↓ar_30, ↓al_30, ↓ar_31, ↓al_31, ↓ar_34, ↓al_34, ↓wl_1_0, ↓wl_1_11, hs_wr, hs_cp, hs_s, hs_n, hs_hs, upd_s, upd_n, upd_upd, ne_eq, Nat.reduceEqDiff, c1_i, c1_r, c2_i, c2_r, ↓reduceIte, List.set_cons_zero, List.set_cons_succ, mm_cb, List.length_cons, List.length_nil, List.all_cons, List.all_nil, Nat.zero_add, Nat.reduceAdd, Nat.reduceLeDiff, Nat.zero_le, decide_true, Bool.and_self, Bool.and_true, true_and, and_true, forall_const, Bool.or_false, Bool.false_or, Bool.or_true, Bool.true_or, Bool.false_eq_true, Nat.reduceBEq, beq_self_eq_true, ha_11, ha_01, hb_10, hb_0x, imp_self, false_implies, not_true_eq_false, not_false_eq_true])
  rw [hN, m60, m60, nI_cl (show n < 2147483648 by omega), nI_cl (show j < 2147483648 by omega), nI_cl (show n * 60 < 2147483648 by omega), nI_cl (show j * 60 < 2147483648 by omega), nI_1, show Int32.toNatClampNeg 60 = 60 by decide]
  refine ⟨fun _ => ⟨hi, hi2, hi, hi2, hi, hi2, hi, hi2, nI_pos (by omega), nI_pos (by omega), by decide, by omega, by omega, hi, h⟩, fun c => absurd ?_ c⟩
  rw [i_lt, i_nI (by omega), show (100 : Int32).toInt = 100 by decide]
  omega
end C3
