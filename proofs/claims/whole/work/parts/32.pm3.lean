/-! the reference's planner: plans, plan, worth -/
def Pm (μ ν : mm_M) : Prop := (∀ c, c ≠ 48 → (c < 75 ∨ 77 < c) → ν c = μ c) ∧ ∀ i, i ≠ 38 → ν 48 i = μ 48 i
theorem Pm_row {μ ν : mm_M} {c : Nat} {r : Nat → Int32} (h : Pm μ ν) (hc : 75 ≤ c ∧ c ≤ 77) : Pm μ (hs ν c r) := ⟨fun d h1 h2 => by
  have h2' : d < 75 ∨ 77 < d := h2
  rw [hs_n (by omega)]
  exact h.1 d h1 h2, fun i hi => by rw [hs_n (show 48 ≠ c by omega)]; exact h.2 i hi⟩
theorem Pm_bw {μ ν : mm_M} {x : Int32} (h : Pm μ ν) : Pm μ (hs ν 48 (upd (ν 48) 38 x)) := ⟨fun d h1 h2 => by rw [hs_n h1]; exact h.1 d h1 h2, fun i hi => by rw [hs_s, upd_n hi]; exact h.2 i hi⟩
/-- the fish of a size, as the reference counts it -/
def skI (μ : mm_M) (n z : Nat) : Int32 := su (fun j => if (fmB (μ 51) (μ 52) (μ 50) (μ 48 0) j = true ∧ μ 53 j = 0) ∧ μ 49 j = nI z then μ 50 j else 0) n
/-- what the kinds from 4 - m on are worth -/
def vd (P n : Nat → Nat) : Nat → Nat
  | 0 => 0
  | m + 1 => vd P n m + n (3 - m) * P (3 - m)
theorem vd_4 {P n : Nat → Nat} : vd P n 4 = wo P n 4 := by
  show 0 + n 3 * P 3 + n 2 * P 2 + n 1 * P 1 + n 0 * P 0 = 0 + n 0 * P 0 + n 1 * P 1 + n 2 * P 2 + n 3 * P 3
  omega
theorem vd_b {P n : Nat → Nat} (hP : ∀ k, k < 4 → P k ≤ 99) (hn : Ok P n) : ∀ m, m ≤ 4 → vd P n m ≤ m * 1980
  | 0, _ => Nat.le_refl _
  | m + 1, h => by
    have := vd_b hP hn m (by omega)
    have h1 : n (3 - m) * P (3 - m) ≤ 20 * 99 := Nat.mul_le_mul (hn (3 - m) (by omega)).1 (hP (3 - m) (by omega))
    have e : vd P n (m + 1) = vd P n m + n (3 - m) * P (3 - m) := rfl
    omega
theorem rq_le {P : Nat → Nat} {c : Nat} : ∀ m, rq P c m ≤ c
  | 0 => Nat.le_refl _
  | m + 1 => by
    have := rq_le (P := P) (c := c) m
    unfold rq
    split <;> omega
section PM3
variable {μ : mm_M} {RI : Int32 → mm_M → Prop} {RV : mm_M → Prop} {P F T S M Z t : Nat → Nat}
theorem KM_of {ν : mm_M} (h1 : ν 55 = μ 55) (h2 : ν 54 = μ 54) (h : KM μ P F T S) : KM ν P F T S := by
  intro k hk
  rw [h1, h2]
  exact h k hk
/-- one code's digits -/
theorem r_digits {A c : Nat} {ν : mm_M} (hK : KM ν P F T S) (hc : c < 200000) (h : ∀ tr, (∀ k, k < 4 → tr k = nI (dig P c k)) → mm_Rn hh_S 94 RI RV 126 [some (.ref 48), some (.int (nI A)), some (.int (nI c)), some (.int (nI (rq P c 4))), some (.int (nI (wo P (dig P c) 4))), some (.int (-1))] [] (hs ν 76 tr)) : mm_Rn hh_S 94 RI RV 126 [some (.ref 48), some (.int (nI A)), some (.int (nI c)), some (.int (nI c)), some (.int 0), some (.int 3)] [] ν := by
  have hP99 : ∀ k, k < 4 → P k ≤ 99 := fun k hk => (hK k hk).2.2.2.2.1
  have lp := up_ind (n := 4) (P := fun m => ∀ tr, (∀ k, k < 4 → 4 ≤ k + m → tr k = nI (dig P c k)) → mm_Rn hh_S 94 RI RV 126 [some (.ref 48), some (.int (nI A)), some (.int (nI c)), some (.int (nI (rq P c m))), some (.int (nI (vd P (dig P c) m))), some (.int (nI (4 - m) - 1))] [] (hs ν 76 tr)) (fun m hm ih => by
    intro tr htr
    have ih := ih (m + 1) (by omega)
    by_cases e4 : m = 4
    · subst e4
      rw [vd_4]
      exact h tr (fun k hk => htr k hk (by omega))
    · have ih := ih (by omega)
      have hx : 3 - m < 4 := by omega
      obtain ⟨k1, k2, k3, k4, k5, k6, k7, k8, k9⟩ := hK (3 - m) hx
      have hin := in_nI hx (show 4 < 2147483648 by omega)
      have hr := rq_le (P := P) (c := c) m
      have e1 : rq P c (m + 1) = if 1 ≤ P (3 - m) then rq P c m / 21 else rq P c m := rfl
      have e2 : vd P (dig P c) (m + 1) = vd P (dig P c) m + dig P c (3 - m) * P (3 - m) := rfl
      have e3 : dig P c (3 - m) = if 1 ≤ P (3 - m) then rq P c m % 21 else 0 := by
        unfold dig
        rw [show 3 - (3 - m) = m by omega]
      have e5 : nI (3 - m) + -1 = nI (4 - (m + 1)) - 1 := by rw [show 4 - (m + 1) = 3 - m by omega, Int32.sub_eq_add_neg]
      rw [show 4 - m = (3 - m) + 1 by omega, nI_pred]
      have htr2 : ∀ y, y = dig P c (3 - m) → ∀ k, k < 4 → 4 ≤ k + (m + 1) → upd tr (3 - m) (nI y) k = nI (dig P c k) := fun y hy k hk hk2 => by
        by_cases e : k = 3 - m
        · subst e
          rw [upd_s, hy]
        · rw [upd_n e]
          exact htr k hk (by omega)
      have pr : ν 55 (3 - m) = nI (P (3 - m)) := k1
      generalize hxx : 3 - m = x at *
      (refine mm_run ok_94 (fun t => t == 126) 12 ?_; rw [lb_94_126, rb_94]; simp only [↓w_aload_0, ↓w_bald, ↓w_bipush, ↓w_dup2, ↓w_fall, ↓w_getf, ↓w_goto, ↓w_iadd, ↓w_iald, ↓w_iast, ↓w_ic_ge, ↓w_ic_le, ↓w_iconst, ↓w_idiv, ↓w_if_eq, ↓w_if_le, ↓w_if_lt, ↓w_if_ne, ↓w_iinc, ↓w_iload, ↓w_iload_1, ↓w_iload_2, ↓w_iload_3, ↓w_imul, ↓w_irem, ↓w_istore, ↓w_istore_1, ↓w_istore_2, ↓w_istore_3, ↓w_putf, ↓w_vret, ↓li_0, ↓li_s, ↓lr_0, ↓lr_s, ↓gf_48_1, ↓gf_48_2, ↓gf_48_3, ↓gf_48_35, ↓gf_48_36, ↓gf_48_37, ↓gf_48_38, ↓gf_48_6, ↓gf_48_9, ↓pf_48_38, ↓rc_48, ↓ar_49, ↓ar_50, ↓ar_53, ↓ar_55, ↓ar_75, ↓ar_76, ↓ar_77, ↓w_c71, ↓w_c93, ↓wl_94_0, ↓wl_94_2, ↓wl_94_20, ↓wl_94_22, ↓wl_94_67, ↓wl_94_73, ↓wl_94_82, ↓wl_94_102, ↓wl_94_103, ↓wl_94_111, ↓wl_94_113, ↓wl_94_126, ↓wl_94_154, ↓wl_94_155, ↓wl_94_171, ↓wl_94_197, ↓wl_94_216, ↓wl_94_225, ↓wl_94_251, ↓wl_94_257, hs_wr, hs_cp, hs_s, hs_n, hs_hs, upd_s, upd_n, upd_upd, ne_eq, Nat.reduceEqDiff, c1_i, c1_r, c2_i, c2_r, ↓reduceIte, List.set_cons_zero, List.set_cons_succ, mm_cb, List.length_cons, List.length_nil, List.all_cons, List.all_nil, Nat.zero_add, Nat.reduceAdd, Nat.reduceLeDiff, Nat.zero_le, decide_true, Bool.and_self, Bool.and_true, true_and, and_true, forall_const, Bool.or_false, Bool.false_or, Bool.or_true, Bool.true_or, Bool.false_eq_true, Nat.reduceBEq, beq_self_eq_true, ha_11, ha_01, hb_10, hb_0x, imp_self, false_implies, not_true_eq_false, not_false_eq_true])
      rw [nI_cl (show x < 2147483648 by omega), pr, e5]
      refine ⟨fun q => absurd q (nI_nlt (a := x) (b := 0) (by omega) (by omega)), fun _ => ⟨hin, fun u => ⟨hin, hin, fun u => ⟨hin, hin, ?_⟩, fun v => absurd u v⟩, fun u => ⟨by decide, hin, hin, fun v => absurd v u, fun v => ⟨by decide, hin, hin, ?_⟩⟩⟩⟩
      · have p0 : ¬ 1 ≤ P x := by
          have := (le0_nI (by omega)).mp u
          omega
        rw [if_neg p0] at e1 e3
        have := ih (upd tr x (nI 0)) (htr2 0 e3.symm)
        rw [e1, e2, e3, Nat.zero_mul, Nat.add_zero] at this
        rw [Int32.zero_mul, Int32.add_zero]
        exact this
      · have p1 : 1 ≤ P x := by
          have : ¬ P x = 0 := fun w => u ((le0_nI (by omega)).mpr w)
          omega
        rw [if_pos p1] at e1 e3
        have := ih (upd tr x (nI (rq P c m % 21))) (htr2 _ e3.symm)
        rw [e1, e2, e3] at this
        have d1 : nI (rq P c m) / 21 = nI (rq P c m / 21) := div_i (d := 21) (by omega) (by omega) (by omega)
        have d2 : nI (rq P c m) - nI (rq P c m / 21) * 21 = nI (rq P c m % 21) := by
          rw [show (21 : Int32) = nI 21 from rfl, i_mulN, sub_nI (by omega)]
          congr 1
          omega
        rw [d1, d2, i_mulN, i_addN]
        exact this)
  have := lp 0 (Nat.zero_le _) (ν 76) (fun k h1 h2 => by omega)
  rw [hs_id] at this
  exact this
/-- the copy of the plan that was tried -/
theorem r_copy {A c : Nat} {o3 o4 : Int32} {ν : mm_M} (h : ∀ be, (∀ k, k < 4 → be k = ν 76 k) → mm_Rn hh_S 94 RI RV 113 [some (.ref 48), some (.int (nI A)), some (.int (nI (c + 1))), some (.int o3), some (.int o4), some (.int 4)] [] (hs ν 77 be)) : mm_Rn hh_S 94 RI RV 225 [some (.ref 48), some (.int (nI A)), some (.int (nI c)), some (.int o3), some (.int o4), some (.int 0)] [] ν := by
  have lp := up_ind (n := 4) (P := fun i => ∀ be, (∀ k, k < i → be k = ν 76 k) → mm_Rn hh_S 94 RI RV 225 [some (.ref 48), some (.int (nI A)), some (.int (nI c)), some (.int o3), some (.int o4), some (.int (nI i))] [] (hs ν 77 be)) (fun i hi ih => by
    intro be hbe
    have ih := ih (i + 1) (by omega)
    (refine mm_run ok_94 (fun t => t == 113 || t == 225) 12 ?_; rw [lb_94_225, rb_94]; simp only [↓w_aload_0, ↓w_bald, ↓w_bipush, ↓w_dup2, ↓w_fall, ↓w_getf, ↓w_goto, ↓w_iadd, ↓w_iald, ↓w_iast, ↓w_ic_ge, ↓w_ic_le, ↓w_iconst, ↓w_idiv, ↓w_if_eq, ↓w_if_le, ↓w_if_lt, ↓w_if_ne, ↓w_iinc, ↓w_iload, ↓w_iload_1, ↓w_iload_2, ↓w_iload_3, ↓w_imul, ↓w_irem, ↓w_istore, ↓w_istore_1, ↓w_istore_2, ↓w_istore_3, ↓w_putf, ↓w_vret, ↓li_0, ↓li_s, ↓lr_0, ↓lr_s, ↓gf_48_1, ↓gf_48_2, ↓gf_48_3, ↓gf_48_35, ↓gf_48_36, ↓gf_48_37, ↓gf_48_38, ↓gf_48_6, ↓gf_48_9, ↓pf_48_38, ↓rc_48, ↓ar_49, ↓ar_50, ↓ar_53, ↓ar_55, ↓ar_75, ↓ar_76, ↓ar_77, ↓w_c71, ↓w_c93, ↓wl_94_0, ↓wl_94_2, ↓wl_94_20, ↓wl_94_22, ↓wl_94_67, ↓wl_94_73, ↓wl_94_82, ↓wl_94_102, ↓wl_94_103, ↓wl_94_111, ↓wl_94_113, ↓wl_94_126, ↓wl_94_154, ↓wl_94_155, ↓wl_94_171, ↓wl_94_197, ↓wl_94_216, ↓wl_94_225, ↓wl_94_251, ↓wl_94_257, hs_wr, hs_cp, hs_s, hs_n, hs_hs, upd_s, upd_n, upd_upd, ne_eq, Nat.reduceEqDiff, c1_i, c1_r, c2_i, c2_r, ↓reduceIte, List.set_cons_zero, List.set_cons_succ, mm_cb, List.length_cons, List.length_nil, List.all_cons, List.all_nil, Nat.zero_add, Nat.reduceAdd, Nat.reduceLeDiff, Nat.zero_le, decide_true, Bool.and_self, Bool.and_true, true_and, and_true, forall_const, Bool.or_false, Bool.false_or, Bool.or_true, Bool.true_or, Bool.false_eq_true, Nat.reduceBEq, beq_self_eq_true, ha_11, ha_01, hb_10, hb_0x, imp_self, false_implies, not_true_eq_false, not_false_eq_true])
    rw [nI_1, nI_1, nI_cl (show i < 2147483648 by omega), show (4 : Int32) = nI 4 from rfl]
    refine ⟨fun q => ?_, fun q => ?_⟩
    · have ei : i = 4 := by
        have := le_nI (by omega) (by omega) q
        omega
      subst ei
      exact h be hbe
    · have hi4 := nle_nI (by omega) (by omega) q
      have hin := in_nI hi4 (show 4 < 2147483648 by omega)
      refine ⟨hin, hin, ih (by omega) _ (fun k hk => ?_)⟩
      by_cases e : k = i
      · subst e
        rw [upd_s]
      · rw [upd_n e]
        exact hbe k (by omega))
  have := lp 0 (Nat.zero_le _) (ν 77) (fun k hk => by omega)
  rw [hs_id] at this
  exact this
/-- the loop over the codes -/
theorem r_codes (hK : KM μ P F T S) (hM : ∀ s, s < 2 → μ 56 s = nI (M s) ∧ M s ≤ 1000000) (hZ2 : ∀ z, z < 3 → Z z ≤ 300000) (h : ∀ ν, Pm μ ν → (∃ b w, Opt P F T S M (RZ Z) b w ∧ (∀ k, k < 4 → ν 77 k = nI (b k)) ∧ ν 48 38 = nI w) → RV ν) : ∀ c, c ≤ aL P 4 → ∀ (ν : mm_M) (o3 o4 o5 : Option Value), Pm μ ν → (∀ z, z < 3 → ν 75 z = nI (Z z)) → EnI P F T S M (RZ Z) c (ν 48 38) (ν 77) → mm_Rn hh_S 94 RI RV 113 [some (.ref 48), some (.int (nI (aL P 4))), some (.int (nI c)), o3, o4, o5] [] ν := by
  have hPF : ∀ k, k < 4 → (1 ≤ F k ↔ 1 ≤ P k) := fun k hk => (hK k hk).2.2.2.2.2.2.2.2
  have hP99 : ∀ k, k < 4 → P k ≤ 99 := fun k hk => (hK k hk).2.2.2.2.1
  have hA : aL P 4 ≤ 194481 := (aL_le 4).2
  refine up_ind (fun c hc ih => ?_)
  intro ν o3 o4 o5 hPm hst hE
  have ih := ih (c + 1) (by omega)
  (refine mm_run ok_94 (fun t => t == 126) 12 ?_; rw [lb_94_113, rb_94]; simp only [↓w_aload_0, ↓w_bald, ↓w_bipush, ↓w_dup2, ↓w_fall, ↓w_getf, ↓w_goto, ↓w_iadd, ↓w_iald, ↓w_iast, ↓w_ic_ge, ↓w_ic_le, ↓w_iconst, ↓w_idiv, ↓w_if_eq, ↓w_if_le, ↓w_if_lt, ↓w_if_ne, ↓w_iinc, ↓w_iload, ↓w_iload_1, ↓w_iload_2, ↓w_iload_3, ↓w_imul, ↓w_irem, ↓w_istore, ↓w_istore_1, ↓w_istore_2, ↓w_istore_3, ↓w_putf, ↓w_vret, ↓li_0, ↓li_s, ↓lr_0, ↓lr_s, ↓gf_48_1, ↓gf_48_2, ↓gf_48_3, ↓gf_48_35, ↓gf_48_36, ↓gf_48_37, ↓gf_48_38, ↓gf_48_6, ↓gf_48_9, ↓pf_48_38, ↓rc_48, ↓ar_49, ↓ar_50, ↓ar_53, ↓ar_55, ↓ar_75, ↓ar_76, ↓ar_77, ↓w_c71, ↓w_c93, ↓wl_94_0, ↓wl_94_2, ↓wl_94_20, ↓wl_94_22, ↓wl_94_67, ↓wl_94_73, ↓wl_94_82, ↓wl_94_102, ↓wl_94_103, ↓wl_94_111, ↓wl_94_113, ↓wl_94_126, ↓wl_94_154, ↓wl_94_155, ↓wl_94_171, ↓wl_94_197, ↓wl_94_216, ↓wl_94_225, ↓wl_94_251, ↓wl_94_257, hs_wr, hs_cp, hs_s, hs_n, hs_hs, upd_s, upd_n, upd_upd, ne_eq, Nat.reduceEqDiff, c1_i, c1_r, c2_i, c2_r, ↓reduceIte, List.set_cons_zero, List.set_cons_succ, mm_cb, List.length_cons, List.length_nil, List.all_cons, List.all_nil, Nat.zero_add, Nat.reduceAdd, Nat.reduceLeDiff, Nat.zero_le, decide_true, Bool.and_self, Bool.and_true, true_and, and_true, forall_const, Bool.or_false, Bool.false_or, Bool.or_true, Bool.true_or, Bool.false_eq_true, Nat.reduceBEq, beq_self_eq_true, ha_11, ha_01, hb_10, hb_0x, imp_self, false_implies, not_true_eq_false, not_false_eq_true])
  refine ⟨fun q => ?_, fun q => ?_⟩
  · have ec : c = aL P 4 := by
      have := le_nI (by omega) (by omega) q
      omega
    subst ec
    exact h ν hPm (EnI_end hPF hE)
  · have hcA := nle_nI (by omega) (by omega) q
    have ih := ih (by omega)
    have eP : ν 55 = μ 55 := hPm.1 _ (by decide) (by decide)
    have eK : ν 54 = μ 54 := hPm.1 _ (by decide) (by decide)
    have eS : ν 56 = μ 56 := hPm.1 _ (by decide) (by decide)
    refine r_digits (KM_of eP eK hK) (by omega) (fun tr htr => ?_)
    have hPm2 : Pm μ (hs ν 76 tr) := Pm_row hPm (by decide)
    have vb := vd_b (n := dig P c) hP99 (dig_ok c) 4 (Nat.le_refl 4)
    rw [vd_4] at vb
    have eb : (hs ν 76 tr) 48 38 = ν 48 38 := by rw [hs_n (by decide)]
    have ebe : (hs ν 76 tr) 77 = ν 77 := by rw [hs_n (by decide)]
    have hst2 : ∀ z, z < 3 → (hs ν 76 tr) 75 z = nI (Z z) := fun z hz => by rw [hs_n (by decide)]; exact hst z hz
    have etr : (hs ν 76 tr) 76 = tr := hs_s
    have eK2 : KM (hs ν 76 tr) P F T S := KM_of (by rw [hs_n (by decide)]; exact eP) (by rw [hs_n (by decide)]; exact eK) hK
    have hM2 : ∀ s, s < 2 → (hs ν 76 tr) 56 s = nI (M s) ∧ M s ≤ 1000000 := fun s hs => by rw [hs_n (by decide), eS]; exact hM s hs
    generalize hs ν 76 tr = ξ at *
    rw [← eb, ← ebe] at hE
    clear eb ebe
    (refine mm_run ok_94 (fun t => t == 113 || t == 126 || t == 225) 12 ?_; rw [lb_94_126, rb_94]; simp only [↓w_aload_0, ↓w_bald, ↓w_bipush, ↓w_dup2, ↓w_fall, ↓w_getf, ↓w_goto, ↓w_iadd, ↓w_iald, ↓w_iast, ↓w_ic_ge, ↓w_ic_le, ↓w_iconst, ↓w_idiv, ↓w_if_eq, ↓w_if_le, ↓w_if_lt, ↓w_if_ne, ↓w_iinc, ↓w_iload, ↓w_iload_1, ↓w_iload_2, ↓w_iload_3, ↓w_imul, ↓w_irem, ↓w_istore, ↓w_istore_1, ↓w_istore_2, ↓w_istore_3, ↓w_putf, ↓w_vret, ↓li_0, ↓li_s, ↓lr_0, ↓lr_s, ↓gf_48_1, ↓gf_48_2, ↓gf_48_3, ↓gf_48_35, ↓gf_48_36, ↓gf_48_37, ↓gf_48_38, ↓gf_48_6, ↓gf_48_9, ↓pf_48_38, ↓rc_48, ↓ar_49, ↓ar_50, ↓ar_53, ↓ar_55, ↓ar_75, ↓ar_76, ↓ar_77, ↓w_c71, ↓w_c93, ↓wl_94_0, ↓wl_94_2, ↓wl_94_20, ↓wl_94_22, ↓wl_94_67, ↓wl_94_73, ↓wl_94_82, ↓wl_94_102, ↓wl_94_103, ↓wl_94_111, ↓wl_94_113, ↓wl_94_126, ↓wl_94_154, ↓wl_94_155, ↓wl_94_171, ↓wl_94_197, ↓wl_94_216, ↓wl_94_225, ↓wl_94_251, ↓wl_94_257, hs_wr, hs_cp, hs_s, hs_n, hs_hs, upd_s, upd_n, upd_upd, ne_eq, Nat.reduceEqDiff, c1_i, c1_r, c2_i, c2_r, ↓reduceIte, List.set_cons_zero, List.set_cons_succ, mm_cb, List.length_cons, List.length_nil, List.all_cons, List.all_nil, Nat.zero_add, Nat.reduceAdd, Nat.reduceLeDiff, Nat.zero_le, decide_true, Bool.and_self, Bool.and_true, true_and, and_true, forall_const, Bool.or_false, Bool.false_or, Bool.or_true, Bool.true_or, Bool.false_eq_true, Nat.reduceBEq, beq_self_eq_true, ha_11, ha_01, hb_10, hb_0x, imp_self, false_implies, not_true_eq_false, not_false_eq_true])
    rw [nI_1]
    refine ⟨fun _ => ⟨fun u => ?_, fun u => ?_⟩, fun v => absurd (by decide) v⟩
    · refine ih ξ _ _ _ hPm2 hst2 ?_
      rcases hE with ⟨-, hb⟩ | ⟨d, d1, d2, d3, d4, d5, d6⟩
      · rw [hb, i_le, i_nI (by omega), i_m1] at u
        omega
      · have wb := vd_b (n := dig P d) hP99 (dig_ok d) 4 (Nat.le_refl 4)
        rw [vd_4] at wb
        rw [d3] at u
        have u2 := le_nI (by omega) (by omega) u
        refine Or.inr ⟨d, by omega, d2, d3, d4, d5, fun d' h1 h2 => ?_⟩
        by_cases e : d' = c
        · subst e
          omega
        · exact d6 d' (by omega) h2
    · refine r_canBe (M := M) (Z := Z) (t := dig P c) eK2 (fun k hk => ?_) hM2 (fun z hz => ⟨hst2 z hz, hZ2 z hz⟩) (fun hp => ⟨fun _ => ?_, fun z => absurd z (by decide)⟩) (fun hp => ⟨fun z => absurd rfl z, fun _ => ?_⟩)
      · rw [etr]
        refine ⟨htr k hk, ((dig_ok c) k hk).1, fun f0 => ((dig_ok c) k hk).2 ?_⟩
        have := hPF k hk
        omega
      · refine r_copy (fun be hbe => ih _ _ _ _ (Pm_row (Pm_bw hPm2) (by decide)) (fun z hz => ?_) ?_)
        · rw [hs_n (by decide), hs_n (by decide)]
          exact hst2 z hz
        · refine Or.inr ⟨c, by omega, hcA, ?_, fun k hk => ?_, hp, fun d' h1 h2 => ?_⟩
          · rw [hs_n (by decide), hs_s, upd_s]
          · rw [hs_s, hbe k hk, hs_n (by decide), etr]
            exact htr k hk
          · by_cases e : d' = c
            · subst e
              exact Or.inr ⟨rfl, Nat.le_refl _⟩
            · left
              rcases hE with ⟨ha, -⟩ | ⟨d, d1, d2, d3, d4, d5, d6⟩
              · exact absurd h2 (ha d' (by omega))
              · have wb := vd_b (n := dig P d) hP99 (dig_ok d) 4 (Nat.le_refl 4)
                rw [vd_4] at wb
                rw [d3] at u
                have u2 := nle_nI (by omega) (by omega) u
                have := d6 d' (by omega) h2
                omega
      · refine ih ξ _ _ _ hPm2 hst2 ?_
        rcases hE with ⟨ha, hb⟩ | ⟨d, d1, d2, d3, d4, d5, d6⟩
        · refine Or.inl ⟨fun d hd => ?_, hb⟩
          by_cases e : d = c
          · subst e
            exact hp
          · exact ha d (by omega)
        · refine Or.inr ⟨d, by omega, d2, d3, d4, d5, fun d' h1 h2 => ?_⟩
          by_cases e : d' = c
          · subst e
            exact absurd h2 hp
          · exact d6 d' (by omega) h2
end PM3
