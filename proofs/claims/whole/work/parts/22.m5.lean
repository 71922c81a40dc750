/-! the reference packs -/
abbrev pmT : Type := Int32 × (Nat → Int32) × (Nat → Int32)
def pmF (μ : mm_M) (n k : Nat) (lf : Nat → Int32) : Int32 := fo (fiS (μ 51) (cdB (hs μ 50 lf) k)) n (-1)
def pmS (μ : mm_M) (n c k : Nat) (_ : Nat) (s : pmT) : pmT :=
  if s.1 ≤ 0 then s else
    (s.1 - (if s.1 ≤ s.2.1 (pmF μ n k s.2.1).toNatClampNeg then s.1 else s.2.1 (pmF μ n k s.2.1).toNatClampNeg), upd s.2.1 (pmF μ n k s.2.1).toNatClampNeg (s.2.1 (pmF μ n k s.2.1).toNatClampNeg - (if s.1 ≤ s.2.1 (pmF μ n k s.2.1).toNatClampNeg then s.1 else s.2.1 (pmF μ n k s.2.1).toNatClampNeg)), upd s.2.2 (c * 60 + (pmF μ n k s.2.1).toNatClampNeg) (s.2.2 (c * 60 + (pmF μ n k s.2.1).toNatClampNeg) + (if s.1 ≤ s.2.1 (pmF μ n k s.2.1).toNatClampNeg then s.1 else s.2.1 (pmF μ n k s.2.1).toNatClampNeg)))
def fsh (w : Int32) : Int32 := w / 10 - w / 10 / 10 * 10
def VPm (μ : mm_M) (n c k s : Nat) (x : Int32) : Prop := μ 58 c = -1 ∧ ¬ μ 55 k ≤ 0 ∧ (1 ≤ x ∧ x ≤ 50) ∧ μ 48 18 + su (fun j => if chB (μ 58) j = true then 1 else 0) 3 < 100 ∧ ¬ su (fun j => if cdB μ k j = true then μ 50 j else 0) n < x * fsh (μ 54 k) ∧ ¬ μ 56 s < x ∧ μ 48 12 + x * fsh (μ 54 k) ≤ 100 * su (fun j => if tmB (μ 57) (μ 48 0) j = true then 1 else 0) 3
def pnM (μ : mm_M) (c k s : Nat) (x : Int32) (S : pmT) : mm_M := hs (hs (hs (hs (hs (hs (hs μ 56 (upd (μ 56) s (μ 56 s - x))) 48 (upd (μ 48) 12 (μ 48 12 + x * fsh (μ 54 k)))) 50 S.2.1) 61 S.2.2) 58 (upd (μ 58) c (nI k))) 59 (upd (μ 59) c x)) 60 (upd (μ 60) c (μ 48 0 + (μ 54 k - μ 54 k / 10 * 10)))
section M5
variable {μ : mm_M} {RI : Int32 → mm_M → Prop} {RV : mm_M → Prop}
/-- the loop that takes fish: N turns are enough, and each finds a lot -/
theorem r_pack163 {n c k N : Nat} (hN : μ 48 1 = nI n) (hn : n ≤ 60) (hc : c < 3) (hk : k < 4) {x kg : Int32} {S0 : pmT} (hz : (fo (pmS μ n c k) N S0).1 ≤ 0) (hf : ∀ i, i < N → ¬ (fo (pmS μ n c k) i S0).1 ≤ 0 → ∃ j, j < n ∧ pmF μ n k (fo (pmS μ n c k) i S0).2.1 = nI j) (h : RI kg (hs (hs (hs (hs (hs μ 50 (fo (pmS μ n c k) N S0).2.1) 61 (fo (pmS μ n c k) N S0).2.2) 58 (upd (μ 58) c (nI k))) 59 (upd (μ 59) c x)) 60 (upd (μ 60) c (μ 48 0 + (μ 54 k - μ 54 k / 10 * 10))))) : ∀ o6 o7, mm_Rn hh_S 87 RI RV 163 [some (.ref 48), some (.int (nI c)), some (.int (nI k)), some (.int x), some (.int kg), some (.int S0.1), o6, o7] [] (hs (hs μ 50 S0.2.1) 61 S0.2.2) := by
  have hic := in_nI hc (by omega)
  have hstop : ∀ j s, s.1 ≤ 0 → pmS μ n c k j s = s := by
    intro j s hs
    unfold pmS
    rw [if_pos hs]
  have lp := up_ind (n := N) (P := fun i => ∀ o6 o7, mm_Rn hh_S 87 RI RV 163 [some (.ref 48), some (.int (nI c)), some (.int (nI k)), some (.int x), some (.int kg), some (.int (fo (pmS μ n c k) i S0).1), o6, o7] [] (hs (hs μ 50 (fo (pmS μ n c k) i S0).2.1) 61 (fo (pmS μ n c k) i S0).2.2)) (fun i hi ih => by
    intro o6 o7
    have ih := ih (i + 1) (by omega)
    have e1 : fo (pmS μ n c k) (i + 1) S0 = pmS μ n c k i (fo (pmS μ n c k) i S0) := rfl
    have est := fo_stop (stop := fun s => s.1 ≤ 0) hstop (i := i) (s := S0)
    have hf := hf i
    rw [e1] at ih
    generalize hS : fo (pmS μ n c k) i S0 = s at ih est hf ⊢
    obtain ⟨r, lf, ro⟩ := s
    unfold pmS at ih
    dsimp only at ih est hf ⊢
    (refine mm_run ok_87 (fun t => t == 133 || t == 163) 12 ?_; rw [lb_87_163, rb_87]; simp only [↓w_aload_0, ↓w_bipush, ↓w_dup, ↓w_dup2, ↓w_fall, ↓w_getf, ↓w_goto, ↓w_iadd, ↓w_iald, ↓w_iast, ↓w_ic_ge, ↓w_ic_le, ↓w_ic_lt, ↓w_ic_ne, ↓w_iconst, ↓w_if_eq, ↓w_if_le, ↓w_iinc, ↓w_iload, ↓w_iload_1, ↓w_iload_2, ↓w_iload_3, ↓w_imul, ↓w_irem, ↓w_iret, ↓w_istore, ↓w_isub, ↓w_putf, ↓li_0, ↓li_s, ↓lr_0, ↓lr_s, ↓gf_48_0, ↓gf_48_10, ↓gf_48_12, ↓gf_48_13, ↓gf_48_14, ↓gf_48_15, ↓gf_48_16, ↓gf_48_18, ↓gf_48_3, ↓gf_48_8, ↓pf_48_12, ↓rc_48, ↓ar_50, ↓ar_54, ↓ar_56, ↓ar_58, ↓ar_59, ↓ar_60, ↓ar_61, ↓w_c68, ↓w_c77, ↓w_c79, ↓w_c80, ↓w_c83, ↓w_c84, ↓w_c85, ↓w_c86, ↓wl_87_0, ↓wl_87_45, ↓wl_87_51, ↓wl_87_53, ↓wl_87_103, ↓wl_87_105, ↓wl_87_133, ↓wl_87_159, ↓wl_87_163, ↓wl_87_197, ↓wl_87_199, ↓wl_87_240, hs_wr, hs_cp, hs_s, hs_n, hs_hs, upd_s, upd_n, upd_upd, ne_eq, Nat.reduceEqDiff, c1_i, c1_r, c2_i, c2_r, ↓reduceIte, List.set_cons_zero, List.set_cons_succ, mm_cb, List.length_cons, List.length_nil, List.all_cons, List.all_nil, Nat.zero_add, Nat.reduceAdd, Nat.reduceLeDiff, Nat.zero_le, decide_true, Bool.and_self, Bool.and_true, true_and, and_true, forall_const, Bool.or_false, Bool.false_or, Bool.or_true, Bool.true_or, Bool.false_eq_true, Nat.reduceBEq, beq_self_eq_true, ha_11, ha_01, hb_10, hb_0x, imp_self, false_implies, not_true_eq_false, not_false_eq_true])
    refine ⟨fun q => ?_, fun q => ?_⟩
    · rw [nI_cl (show c < 2147483648 by omega), nI_cl (show k < 2147483648 by omega)]
      refine ⟨hic, hic, in_nI hk (by omega), by decide, hic, ?_⟩
      rw [est q N hi] at h
      exact h
    · have hlt : i < N := by
        by_cases e : i = N
        · subst e
          rw [hS] at hz
          exact absurd hz q
        · omega
      have ih := ih (by omega)
      obtain ⟨j, hj, ej⟩ := hf hlt q
      have hij := in_nI (show j < 60 by omega) (by omega)
      rw [if_neg q, ej, nI_cl (show j < 2147483648 by omega)] at ih
      have hcd : cdB (hs (hs μ 50 lf) 61 ro) k = cdB (hs μ 50 lf) k := by
        funext z
        unfold cdB
        simp only [hs_s, hs_n, ne_eq, Nat.reduceEqDiff, not_false_eq_true]
      refine r_first (n := n) (by simp only [hs_n, ne_eq, Nat.reduceEqDiff, not_false_eq_true]; exact hN) hn hk ?_
      have ef : fo (fiS ((hs (hs μ 50 lf) 61 ro) 51) (cdB (hs (hs μ 50 lf) 61 ro) k)) n (-1) = nI j := by
        rw [hcd]
        simp only [hs_n, ne_eq, Nat.reduceEqDiff, not_false_eq_true]
        exact ej
      rw [ef, ixm2, nI_cl (show j < 2147483648 by omega), nI_cl (show c * 60 + j < 2147483648 by omega)]
      simp only [hs_s, hs_n, ne_eq, Nat.reduceEqDiff, not_false_eq_true]
      refine ⟨hij, fun z => ⟨hij, hij, in_nI (by omega) (by omega), in_nI (by omega) (by omega), ?_⟩, fun z => ⟨hij, hij, hij, in_nI (by omega) (by omega), in_nI (by omega) (by omega), ?_⟩⟩
      · rw [if_pos z] at ih
        rw [hs_aba (by decide), hs_aba (by decide)]
        exact ih _ _
      · rw [if_neg z] at ih
        rw [hs_aba (by decide), hs_aba (by decide)]
        exact ih _ _)
  exact lp 0 (Nat.zero_le _)
theorem r_pack133 {c k : Nat} (hc : c < 3) {x kg : Int32} {o6 o7 : Option Value} (h : mm_Rn hh_S 87 RI RV 163 [some (.ref 48), some (.int (nI c)), some (.int (nI k)), some (.int x), some (.int kg), some (.int kg), o6, o7] [] (hs μ 61 (rw0 (μ 61) c 60))) : mm_Rn hh_S 87 RI RV 133 [some (.ref 48), some (.int (nI c)), some (.int (nI k)), some (.int x), some (.int kg), some (.int 0), o6, o7] [] μ := by
  have lp := up_ind (n := 60) (P := fun i => mm_Rn hh_S 87 RI RV 133 [some (.ref 48), some (.int (nI c)), some (.int (nI k)), some (.int x), some (.int kg), some (.int (nI i)), o6, o7] [] (hs μ 61 (rw0 (μ 61) c i))) (fun i hi ih => by
    (refine mm_run ok_87 (fun t => t == 133 || t == 163) 12 ?_; rw [lb_87_133, rb_87]; simp only [↓w_aload_0, ↓w_bipush, ↓w_dup, ↓w_dup2, ↓w_fall, ↓w_getf, ↓w_goto, ↓w_iadd, ↓w_iald, ↓w_iast, ↓w_ic_ge, ↓w_ic_le, ↓w_ic_lt, ↓w_ic_ne, ↓w_iconst, ↓w_if_eq, ↓w_if_le, ↓w_iinc, ↓w_iload, ↓w_iload_1, ↓w_iload_2, ↓w_iload_3, ↓w_imul, ↓w_irem, ↓w_iret, ↓w_istore, ↓w_isub, ↓w_putf, ↓li_0, ↓li_s, ↓lr_0, ↓lr_s, ↓gf_48_0, ↓gf_48_10, ↓gf_48_12, ↓gf_48_13, ↓gf_48_14, ↓gf_48_15, ↓gf_48_16, ↓gf_48_18, ↓gf_48_3, ↓gf_48_8, ↓pf_48_12, ↓rc_48, ↓ar_50, ↓ar_54, ↓ar_56, ↓ar_58, ↓ar_59, ↓ar_60, ↓ar_61, ↓w_c68, ↓w_c77, ↓w_c79, ↓w_c80, ↓w_c83, ↓w_c84, ↓w_c85, ↓w_c86, ↓wl_87_0, ↓wl_87_45, ↓wl_87_51, ↓wl_87_53, ↓wl_87_103, ↓wl_87_105, ↓wl_87_133, ↓wl_87_159, ↓wl_87_163, ↓wl_87_197, ↓wl_87_199, ↓wl_87_240, hs_wr, hs_cp, hs_s, hs_n, hs_hs, upd_s, upd_n, upd_upd, ne_eq, Nat.reduceEqDiff, c1_i, c1_r, c2_i, c2_r, ↓reduceIte, List.set_cons_zero, List.set_cons_succ, mm_cb, List.length_cons, List.length_nil, List.all_cons, List.all_nil, Nat.zero_add, Nat.reduceAdd, Nat.reduceLeDiff, Nat.zero_le, decide_true, Bool.and_self, Bool.and_true, true_and, and_true, forall_const, Bool.or_false, Bool.false_or, Bool.or_true, Bool.true_or, Bool.false_eq_true, Nat.reduceBEq, beq_self_eq_true, ha_11, ha_01, hb_10, hb_0x, imp_self, false_implies, not_true_eq_false, not_false_eq_true])
    rw [ixm2, nI_cl (by omega), nI_1, rw0_s, show (60 : Int32) = nI 60 from rfl]
    refine ⟨fun q => ?_, fun q => ?_⟩
    · have := le_nI (by omega) (by omega) q
      rw [show i = 60 by omega]
      exact h
    · have := nle_nI (by omega) (by omega) q
      exact ⟨in_nI (by omega) (by omega), ih (i + 1) (by omega) (by omega)⟩)
  have := lp 0 (Nat.zero_le _)
  rw [rw0_0, hs_id] at this
  exact this
/-- the loop's turns over the packed memory are those over the old one -/
theorem r_pack {n : Nat} (hN : μ 48 1 = nI n) (hn : n ≤ 60) (hsk : ∀ k, k < 4 → ∃ s, s < 2 ∧ μ 54 k / 100 - μ 54 k / 100 / 10 * 10 = nI s) {a b x : Int32}
    (h0 : (∀ c k s, c < 3 → k < 4 → s < 2 → a = nI c → b = nI k → μ 54 k / 100 - μ 54 k / 100 / 10 * 10 = nI s → ¬ VPm μ n c k s x) → RI (-1) μ)
    (h1 : ∀ c k s, c < 3 → k < 4 → s < 2 → a = nI c → b = nI k → μ 54 k / 100 - μ 54 k / 100 / 10 * 10 = nI s → VPm μ n c k s x → ∃ N, (fo (pmS μ n c k) N (x * fsh (μ 54 k), μ 50, rw0 (μ 61) c 60)).1 ≤ 0 ∧ (∀ i, i < N → ¬ (fo (pmS μ n c k) i (x * fsh (μ 54 k), μ 50, rw0 (μ 61) c 60)).1 ≤ 0 → ∃ j, j < n ∧ pmF μ n k (fo (pmS μ n c k) i (x * fsh (μ 54 k), μ 50, rw0 (μ 61) c 60)).2.1 = nI j) ∧ RI (x * fsh (μ 54 k)) (pnM μ c k s x (fo (pmS μ n c k) N (x * fsh (μ 54 k), μ 50, rw0 (μ 61) c 60)))) : mm_Cs hh_S 87 [.ref 48, .int a, .int b, .int x] μ RI RV := by
  refine mm_in rfl (Nat.le_of_ble_eq_true rfl) ?_
  show mm_Rn hh_S 87 RI RV 0 [some (.ref 48), some (.int a), some (.int b), some (.int x), none, none, none, none] [] μ
  (refine mm_run ok_87 (fun t => t == 45 || t == 53 || t == 105 || t == 133 || t == 163) 12 ?_; rw [lb_87_0, rb_87]; simp only [↓w_aload_0, ↓w_bipush, ↓w_dup, ↓w_dup2, ↓w_fall, ↓w_getf, ↓w_goto, ↓w_iadd, ↓w_iald, ↓w_iast, ↓w_ic_ge, ↓w_ic_le, ↓w_ic_lt, ↓w_ic_ne, ↓w_iconst, ↓w_if_eq, ↓w_if_le, ↓w_iinc, ↓w_iload, ↓w_iload_1, ↓w_iload_2, ↓w_iload_3, ↓w_imul, ↓w_irem, ↓w_iret, ↓w_istore, ↓w_isub, ↓w_putf, ↓li_0, ↓li_s, ↓lr_0, ↓lr_s, ↓gf_48_0, ↓gf_48_10, ↓gf_48_12, ↓gf_48_13, ↓gf_48_14, ↓gf_48_15, ↓gf_48_16, ↓gf_48_18, ↓gf_48_3, ↓gf_48_8, ↓pf_48_12, ↓rc_48, ↓ar_50, ↓ar_54, ↓ar_56, ↓ar_58, ↓ar_59, ↓ar_60, ↓ar_61, ↓w_c68, ↓w_c77, ↓w_c79, ↓w_c80, ↓w_c83, ↓w_c84, ↓w_c85, ↓w_c86, ↓wl_87_0, ↓wl_87_45, ↓wl_87_51, ↓wl_87_53, ↓wl_87_103, ↓wl_87_105, ↓wl_87_133, ↓wl_87_159, ↓wl_87_163, ↓wl_87_197, ↓wl_87_199, ↓wl_87_240, hs_wr, hs_cp, hs_s, hs_n, hs_hs, upd_s, upd_n, upd_upd, ne_eq, Nat.reduceEqDiff, c1_i, c1_r, c2_i, c2_r, ↓reduceIte, List.set_cons_zero, List.set_cons_succ, mm_cb, List.length_cons, List.length_nil, List.all_cons, List.all_nil, Nat.zero_add, Nat.reduceAdd, Nat.reduceLeDiff, Nat.zero_le, decide_true, Bool.and_self, Bool.and_true, true_and, and_true, forall_const, Bool.or_false, Bool.false_or, Bool.or_true, Bool.true_or, Bool.false_eq_true, Nat.reduceBEq, beq_self_eq_true, ha_11, ha_01, hb_10, hb_0x, imp_self, false_implies, not_true_eq_false, not_false_eq_true])
  refine q_in (fun a1 a2 => br1 ?_) (fun h => br0 (h0 (fun c k s hc hk hs ea eb es => absurd ea (ix_nlit (n := 3) i_0 (by decide) h c hc))))
  obtain ⟨c, hc, ea⟩ := ix_lit (n := 3) i_0 (by decide) a1 a2
  subst ea
  have hic := in_nI hc (by omega)
  rw [nI_cl (show c < 2147483648 by omega)]
  refine ⟨hic, fun u => h0 (fun c2 k s hc2 hk hs ea eb es z => u ?_), fun u => ?_⟩
  · have e := inj100 (by omega) (by omega) ea
    subst e
    exact z.1
  refine r_isTold (fun k hk eb hkn => br1 ?_) (fun h => br0 (h0 (fun c k s hc hk hs ea eb es z => z.2.1 (h k hk eb))))
  subst eb
  obtain ⟨s, hs2, es⟩ := hsk k hk
  refine q_in (fun x1 x2 => br1 ?_) (fun h => br0 (h0 (fun c k s hc hk hs ea eb es z => h z.2.2.1)))
  have hno : ¬ VPm μ n c k s x → RI (-1) μ := fun nv => h0 (fun c2 k2 s2 hc2 hk2 hs22 ea eb es2 z => nv (by
    have e0 := inj100 (by omega) (by omega) ea
    subst e0
    have e1 := inj100 (by omega) (by omega) eb
    subst e1
    have e2 := inj100 (by omega) (by omega) (es.symm.trans es2)
    subst e2
    exact z))
  have hyes := h1 c k s hc hk hs2 rfl rfl es
  clear h0 h1
  refine r_charges ?_
  generalize hch : su (fun j => if chB (μ 58) j = true then 1 else 0) 3 = ch
  (refine mm_run ok_87 (fun t => t == 53 || t == 105 || t == 133 || t == 163) 12 ?_; rw [lb_87_45, rb_87]; simp only [↓w_aload_0, ↓w_bipush, ↓w_dup, ↓w_dup2, ↓w_fall, ↓w_getf, ↓w_goto, ↓w_iadd, ↓w_iald, ↓w_iast, ↓w_ic_ge, ↓w_ic_le, ↓w_ic_lt, ↓w_ic_ne, ↓w_iconst, ↓w_if_eq, ↓w_if_le, ↓w_iinc, ↓w_iload, ↓w_iload_1, ↓w_iload_2, ↓w_iload_3, ↓w_imul, ↓w_irem, ↓w_iret, ↓w_istore, ↓w_isub, ↓w_putf, ↓li_0, ↓li_s, ↓lr_0, ↓lr_s, ↓gf_48_0, ↓gf_48_10, ↓gf_48_12, ↓gf_48_13, ↓gf_48_14, ↓gf_48_15, ↓gf_48_16, ↓gf_48_18, ↓gf_48_3, ↓gf_48_8, ↓pf_48_12, ↓rc_48, ↓ar_50, ↓ar_54, ↓ar_56, ↓ar_58, ↓ar_59, ↓ar_60, ↓ar_61, ↓w_c68, ↓w_c77, ↓w_c79, ↓w_c80, ↓w_c83, ↓w_c84, ↓w_c85, ↓w_c86, ↓wl_87_0, ↓wl_87_45, ↓wl_87_51, ↓wl_87_53, ↓wl_87_103, ↓wl_87_105, ↓wl_87_133, ↓wl_87_159, ↓wl_87_163, ↓wl_87_197, ↓wl_87_199, ↓wl_87_240, hs_wr, hs_cp, hs_s, hs_n, hs_hs, upd_s, upd_n, upd_upd, ne_eq, Nat.reduceEqDiff, c1_i, c1_r, c2_i, c2_r, ↓reduceIte, List.set_cons_zero, List.set_cons_succ, mm_cb, List.length_cons, List.length_nil, List.all_cons, List.all_nil, Nat.zero_add, Nat.reduceAdd, Nat.reduceLeDiff, Nat.zero_le, decide_true, Bool.and_self, Bool.and_true, true_and, and_true, forall_const, Bool.or_false, Bool.false_or, Bool.or_true, Bool.true_or, Bool.false_eq_true, Nat.reduceBEq, beq_self_eq_true, ha_11, ha_01, hb_10, hb_0x, imp_self, false_implies, not_true_eq_false, not_false_eq_true])
  refine ⟨fun d => ?_, fun d => hno (fun z => d (by have := z.2.2.2.1; rw [hch] at this; exact this))⟩
  (refine mm_run ok_87 (fun t => t == 105 || t == 133 || t == 163) 12 ?_; rw [lb_87_53, rb_87]; simp only [↓w_aload_0, ↓w_bipush, ↓w_dup, ↓w_dup2, ↓w_fall, ↓w_getf, ↓w_goto, ↓w_iadd, ↓w_iald, ↓w_iast, ↓w_ic_ge, ↓w_ic_le, ↓w_ic_lt, ↓w_ic_ne, ↓w_iconst, ↓w_if_eq, ↓w_if_le, ↓w_iinc, ↓w_iload, ↓w_iload_1, ↓w_iload_2, ↓w_iload_3, ↓w_imul, ↓w_irem, ↓w_iret, ↓w_istore, ↓w_isub, ↓w_putf, ↓li_0, ↓li_s, ↓lr_0, ↓lr_s, ↓gf_48_0, ↓gf_48_10, ↓gf_48_12, ↓gf_48_13, ↓gf_48_14, ↓gf_48_15, ↓gf_48_16, ↓gf_48_18, ↓gf_48_3, ↓gf_48_8, ↓pf_48_12, ↓rc_48, ↓ar_50, ↓ar_54, ↓ar_56, ↓ar_58, ↓ar_59, ↓ar_60, ↓ar_61, ↓w_c68, ↓w_c77, ↓w_c79, ↓w_c80, ↓w_c83, ↓w_c84, ↓w_c85, ↓w_c86, ↓wl_87_0, ↓wl_87_45, ↓wl_87_51, ↓wl_87_53, ↓wl_87_103, ↓wl_87_105, ↓wl_87_133, ↓wl_87_159, ↓wl_87_163, ↓wl_87_197, ↓wl_87_199, ↓wl_87_240, hs_wr, hs_cp, hs_s, hs_n, hs_hs, upd_s, upd_n, upd_upd, ne_eq, Nat.reduceEqDiff, c1_i, c1_r, c2_i, c2_r, ↓reduceIte, List.set_cons_zero, List.set_cons_succ, mm_cb, List.length_cons, List.length_nil, List.all_cons, List.all_nil, Nat.zero_add, Nat.reduceAdd, Nat.reduceLeDiff, Nat.zero_le, decide_true, Bool.and_self, Bool.and_true, true_and, and_true, forall_const, Bool.or_false, Bool.false_or, Bool.or_true, Bool.true_or, Bool.false_eq_true, Nat.reduceBEq, beq_self_eq_true, ha_11, ha_01, hb_10, hb_0x, imp_self, false_implies, not_true_eq_false, not_false_eq_true])
  refine r_fishOf hk (r_there hN hn hk ⟨fun f => hno (fun z => z.2.2.2.2.1 f), fun f => ?_⟩)
  refine r_sauceOf hk ?_
  rw [es, nI_cl (show s < 2147483648 by omega)]
  refine ⟨in_nI hs2 (by omega), fun g => hno (fun z => z.2.2.2.2.2.1 g), fun g => r_crewsThere ⟨fun v => ?_, fun v => hno (fun z => v z.2.2.2.2.2.2)⟩⟩
  obtain ⟨N, hz, hf, hr⟩ := hyes ⟨u, hkn, ⟨x1, x2⟩, by rw [hch]; exact d, f, g, v⟩
  (refine mm_run ok_87 (fun t => t == 133 || t == 163) 12 ?_; rw [lb_87_105, rb_87]; simp only [↓w_aload_0, ↓w_bipush, ↓w_dup, ↓w_dup2, ↓w_fall, ↓w_getf, ↓w_goto, ↓w_iadd, ↓w_iald, ↓w_iast, ↓w_ic_ge, ↓w_ic_le, ↓w_ic_lt, ↓w_ic_ne, ↓w_iconst, ↓w_if_eq, ↓w_if_le, ↓w_iinc, ↓w_iload, ↓w_iload_1, ↓w_iload_2, ↓w_iload_3, ↓w_imul, ↓w_irem, ↓w_iret, ↓w_istore, ↓w_isub, ↓w_putf, ↓li_0, ↓li_s, ↓lr_0, ↓lr_s, ↓gf_48_0, ↓gf_48_10, ↓gf_48_12, ↓gf_48_13, ↓gf_48_14, ↓gf_48_15, ↓gf_48_16, ↓gf_48_18, ↓gf_48_3, ↓gf_48_8, ↓pf_48_12, ↓rc_48, ↓ar_50, ↓ar_54, ↓ar_56, ↓ar_58, ↓ar_59, ↓ar_60, ↓ar_61, ↓w_c68, ↓w_c77, ↓w_c79, ↓w_c80, ↓w_c83, ↓w_c84, ↓w_c85, ↓w_c86, ↓wl_87_0, ↓wl_87_45, ↓wl_87_51, ↓wl_87_53, ↓wl_87_103, ↓wl_87_105, ↓wl_87_133, ↓wl_87_159, ↓wl_87_163, ↓wl_87_197, ↓wl_87_199, ↓wl_87_240, hs_wr, hs_cp, hs_s, hs_n, hs_hs, upd_s, upd_n, upd_upd, ne_eq, Nat.reduceEqDiff, c1_i, c1_r, c2_i, c2_r, ↓reduceIte, List.set_cons_zero, List.set_cons_succ, mm_cb, List.length_cons, List.length_nil, List.all_cons, List.all_nil, Nat.zero_add, Nat.reduceAdd, Nat.reduceLeDiff, Nat.zero_le, decide_true, Bool.and_self, Bool.and_true, true_and, and_true, forall_const, Bool.or_false, Bool.false_or, Bool.or_true, Bool.true_or, Bool.false_eq_true, Nat.reduceBEq, beq_self_eq_true, ha_11, ha_01, hb_10, hb_0x, imp_self, false_implies, not_true_eq_false, not_false_eq_true])
  refine r_sauceOf hk ?_
  rw [es, nI_cl (show s < 2147483648 by omega)]
  refine ⟨in_nI hs2 (by omega), in_nI hs2 (by omega), ?_⟩
  refine r_pack133 hc ?_
  have epm : pmS (hs (hs μ 56 (upd (μ 56) s (μ 56 s - x))) 48 (upd (μ 48) 12 (μ 48 12 + x * fsh (μ 54 k)))) n c k = pmS μ n c k := by
    have e1 : ∀ lf, pmF (hs (hs μ 56 (upd (μ 56) s (μ 56 s - x))) 48 (upd (μ 48) 12 (μ 48 12 + x * fsh (μ 54 k)))) n k lf = pmF μ n k lf := by
      intro lf
      unfold pmF cdB
      simp only [hs_s, hs_n, ne_eq, Nat.reduceEqDiff, not_false_eq_true, upd_n (show (0 : Nat) ≠ 12 by decide)]
    unfold pmS
    simp only [e1]
  have e2 : (hs (hs μ 56 (upd (μ 56) s (μ 56 s - x))) 48 (upd (μ 48) 12 (μ 48 12 + x * fsh (μ 54 k)))) 50 = μ 50 := by simp only [hs_n, ne_eq, Nat.reduceEqDiff, not_false_eq_true]
  have e3 : (hs (hs μ 56 (upd (μ 56) s (μ 56 s - x))) 48 (upd (μ 48) 12 (μ 48 12 + x * fsh (μ 54 k)))) 61 = μ 61 := by simp only [hs_n, ne_eq, Nat.reduceEqDiff, not_false_eq_true]
  have key := r_pack163 (μ := hs (hs μ 56 (upd (μ 56) s (μ 56 s - x))) 48 (upd (μ 48) 12 (μ 48 12 + x * fsh (μ 54 k)))) (RI := RI) (RV := RV) (n := n) (c := c) (k := k) (N := N) (x := x) (kg := x * fsh (μ 54 k)) (S0 := (x * fsh (μ 54 k), μ 50, rw0 (μ 61) c 60)) (by simp only [hs_s, upd_n, ne_eq, Nat.reduceEqDiff, not_false_eq_true]; exact hN) hn hc hk (by rw [epm]; exact hz) (by
      rw [epm]
      intro i hi hq
      obtain ⟨j, hj, ej⟩ := hf i hi hq
      refine ⟨j, hj, ?_⟩
      rw [← ej]
      unfold pmF cdB
      simp only [hs_s, hs_n, ne_eq, Nat.reduceEqDiff, not_false_eq_true, upd_n (show (0 : Nat) ≠ 12 by decide)]) (by
      rw [epm]
      simp only [hs_s, hs_n, ne_eq, Nat.reduceEqDiff, not_false_eq_true, upd_n (show (0 : Nat) ≠ 12 by decide)]
      exact hr) none none
  have ekg : μ 54 k / 10 - μ 54 k / 10 / 10 * 10 = fsh (μ 54 k) := rfl
  rw [ekg, e3]
  dsimp only at key
  rw [← e2, hs_id] at key
  exact key
end M5
