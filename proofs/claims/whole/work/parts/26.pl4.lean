section PL4
variable {μ : mm_M} {RI : Int32 → mm_M → Prop} {RV : mm_M → Prop} {P F T S M R hp cc : Nat → Nat}
/-- the body of the search's loop at level 3 -/
theorem q_srB3 {x c : Nat} {t b : Nat → Nat} {w : Nat} {tr be : Nat → Int32} {least : Int32} (hn : SrC 113 P F T S M R hp 4) (hK : KD μ P F T S) (hD : PD μ F T S M R hp 3 t) (ht : pf F T S M R 3 t) (htr : ∀ k, k < 3 → tr k = nI (t k)) (hb : ∀ k, k < 4 → be k = nI (b k)) (hw5 : w ≤ 100000) (hc20 : c ≤ 20) (hc : mcP F T S M R t 3 c) (hx : x ≤ c) (hl : ¬ nI x < least) (hS : St P F T S M R (fun n => Gt 3 t n ∨ (Ext 3 t n ∧ x + 1 ≤ n 3)) b w) (kP : wo P t 3 + x * P 3 + hp 4 < w → RV (srM μ tr be w)) (kN : ∀ tr2 be2 b2 w2, (∀ k, k < 3 → tr2 k = nI (t k)) → (∀ k, k < 4 → be2 k = nI (b2 k)) → w2 ≤ 100000 → St P F T S M R (fun n => Gt 3 t n ∨ (Ext 3 t n ∧ x ≤ n 3)) b2 w2 → ∀ o7, mm_Rn hh_S 112 RI RV 36 [some (.ref 7), some (.ref 2), some (.int (nI 3)), some (.int (nI (wo P t 3))), some (.int (nI c)), some (.int least), some (.int (nI x - 1)), o7] [] (srM μ tr2 be2 w2)) : ∀ o7, mm_Rn hh_S 112 RI RV 36 [some (.ref 7), some (.ref 2), some (.int (nI 3)), some (.int (nI (wo P t 3))), some (.int (nI c)), some (.int least), some (.int (nI x)), o7] [] (srM μ tr be w) := by
  intro o7
  obtain ⟨k1, k2, k3, k4, k5, k6, k7, k8, k9⟩ := hK 3 (by omega)
  have hg := wo_le (P := P) (fun k hk => (hK k hk).2.2.2.2.1) 3 (by omega) ht
  have hxp : x * P 3 ≤ 20 * 99 := Nat.mul_le_mul (by omega) k5
  have hh5 := (hD.2.2 4 (by omega)).2
  have ep : srM μ tr be w 20 = μ 20 := by unfold srM; simp only [hs_n, ne_eq, Nat.reduceEqDiff, not_false_eq_true]
  have eh : srM μ tr be w 45 = μ 45 := by unfold srM; simp only [hs_n, ne_eq, Nat.reduceEqDiff, not_false_eq_true]
  have ew : srM μ tr be w 7 7 = nI w := by unfold srM; rw [hs_s, upd_s]
  have et : srM μ tr be w 46 = tr := by unfold srM; simp only [hs_s, hs_n, ne_eq, Nat.reduceEqDiff, not_false_eq_true]
  have em : srM μ tr be w 43 = μ 43 := by unfold srM; simp only [hs_n, ne_eq, Nat.reduceEqDiff, not_false_eq_true]
  have er : srM μ tr be w 44 = μ 44 := by unfold srM; simp only [hs_n, ne_eq, Nat.reduceEqDiff, not_false_eq_true]
  have ek : srM μ tr be w 16 = μ 16 := by unfold srM; simp only [hs_n, ne_eq, Nat.reduceEqDiff, not_false_eq_true]
  have es : srM μ tr be w 17 = μ 17 := by unfold srM; simp only [hs_n, ne_eq, Nat.reduceEqDiff, not_false_eq_true]
  have ef : srM μ tr be w 18 = μ 18 := by unfold srM; simp only [hs_n, ne_eq, Nat.reduceEqDiff, not_false_eq_true]
  have eb : srM μ tr be w 47 = be := by unfold srM; simp only [hs_s, hs_n, ne_eq, Nat.reduceEqDiff, not_false_eq_true]
  (refine mm_run ok_112 (fun t => t == 36) 12 ?_; rw [lb_112_36, rb_112]; simp only [↓w_aload_0, ↓w_aload_1, ↓w_fall, ↓w_getf, ↓w_goto, ↓w_iadd, ↓w_iald, ↓w_iast, ↓w_ic_ge, ↓w_ic_lt, ↓w_ic_ne, ↓w_iconst, ↓w_iinc, ↓w_iload, ↓w_iload_2, ↓w_iload_3, ↓w_imul, ↓w_ineg, ↓w_istore, ↓w_vret, ↓li_0, ↓li_s, ↓lr_0, ↓lr_s, ↓gf_2_5, ↓gf_7_3, ↓gf_7_4, ↓gf_7_7, ↓rc_7, ↓ar_20, ↓ar_45, ↓ar_46, ↓w_c113, ↓w_c38, ↓w_c39, ↓w_c40, ↓wl_112_0, ↓wl_112_11, ↓wl_112_29, ↓wl_112_30, ↓wl_112_36, ↓wl_112_75, ↓wl_112_116, hs_wr, hs_cp, hs_s, hs_n, hs_hs, upd_s, upd_n, upd_upd, ne_eq, Nat.reduceEqDiff, c1_i, c1_r, c2_i, c2_r, ↓reduceIte, List.set_cons_zero, List.set_cons_succ, mm_cb, List.length_cons, List.length_nil, List.all_cons, List.all_nil, Nat.zero_add, Nat.reduceAdd, Nat.reduceLeDiff, Nat.zero_le, decide_true, Bool.and_self, Bool.and_true, true_and, and_true, forall_const, Bool.or_false, Bool.false_or, Bool.or_true, Bool.true_or, Bool.false_eq_true, Nat.reduceBEq, beq_self_eq_true, ha_11, ha_01, hb_10, hb_0x, imp_self, false_implies, not_true_eq_false, not_false_eq_true])
  rw [show (nI 3).toNatClampNeg = 3 by decide, show nI 3 + 1 = nI 4 by decide, show (nI 4).toNatClampNeg = 4 by decide, ep, eh, ew, et, k1, (hD.2.2 4 (by omega)).1, i_mulN, i_addN, i_addN]
  refine ⟨fun q => absurd q hl, fun _ => ⟨in_nI (by omega) (by omega), in_nI (by omega) (by omega), fun q => ⟨in_nI (by omega) (by omega), ?_⟩, fun q => kP ?_⟩⟩
  · have hp2 := mcP_pf (by omega) k7 hc ht hx
    refine q_use (T := T 3) (s := S 3) (by omega) (by simp only [hs_n, ne_eq, Nat.reduceEqDiff, not_false_eq_true, ek]; exact k3) k7 (by simp only [hs_n, ne_eq, Nat.reduceEqDiff, not_false_eq_true, es]; exact k4) k8 ?_
    simp only [hs_s, hs_n, ne_eq, Nat.reduceEqDiff, not_false_eq_true, em, er, ef]
    have eg : wo P t 3 + x * P 3 = wo P (ux t 3 x) 4 := by
      show _ = wo P (ux t 3 x) 3 + ux t 3 x 3 * P 3
      rw [wo_ext 3 ux_ext, ux_s]
    rw [eg]
    have hKy : KD (srM μ tr be w) P F T S := KD_of ep ef ek es hK
    have hDy : PD (srM μ tr be w) F T S M R hp 3 t := by
      unfold PD
      rw [em, er, eh]
      exact hD
    have hD2 := PD_use (x := x) (show 3 < 4 by omega) hKy hDy hp2 (upd tr 3 (nI x))
    rw [em, er, ef] at hD2
    refine hn _ (ux t 3 x) b w _ _ (KD_of (by simp only [hs_n, ne_eq, Nat.reduceEqDiff, not_false_eq_true, ep]) (by simp only [hs_n, ne_eq, Nat.reduceEqDiff, not_false_eq_true, ef]) (by simp only [hs_n, ne_eq, Nat.reduceEqDiff, not_false_eq_true, ek]) (by simp only [hs_n, ne_eq, Nat.reduceEqDiff, not_false_eq_true, es]) hK) hD2 hp2 (fun k hk => ?_) (fun k hk => ?_) ?_ hw5 (hS.mono (fun n _ hv => Or.inl (gt_ux.mp hv))) (fun tr2 be2 b2 w2 h1 h2 h3 h4 => ?_)
    · simp only [hs_s, hs_n, ne_eq, Nat.reduceEqDiff, not_false_eq_true]
      by_cases e : k = 3
      · subst e
        rw [upd_s, ux_s]
      · rw [upd_n e, ux_ext k (by omega)]
        exact htr k (by omega)
    · simp only [hs_n, ne_eq, Nat.reduceEqDiff, not_false_eq_true, eb]
      exact hb k hk
    · simp only [hs_n, ne_eq, Nat.reduceEqDiff, not_false_eq_true]
      exact ew
    · simp only [hs_s, hs_n, ne_eq, Nat.reduceEqDiff, not_false_eq_true] at h1
      refine q_use (T := T 3) (s := S 3) (by omega) (by unfold srM; simp only [hs_n, ne_eq, Nat.reduceEqDiff, not_false_eq_true]; exact k3) k7 (by unfold srM; simp only [hs_n, ne_eq, Nat.reduceEqDiff, not_false_eq_true]; exact k4) k8 ?_
      have hN := kN tr2 be2 b2 w2 (fun k hk => by
        rw [h1 k (by omega), upd_n (by omega)]
        exact htr k hk) h2 h3 (h4.mono (fun n _ hv => by
        rcases hv with hv | ⟨hv, hx2⟩
        · exact Or.inl (Or.inl (gt_ux.mpr (Or.inl hv)))
        · by_cases e : n 3 = x
          · exact Or.inl (Or.inr (ext_ux.mpr ⟨hv, e⟩))
          · exact Or.inl (Or.inl (gt_ux.mpr (Or.inr ⟨hv, by omega⟩)))))
      rw [← srM_fin (tr := tr) (be := be) (w := w) (x1 := upd tr 3 (nI x)) (m1 := upd (μ 43) (S 3) (μ 43 (S 3) - nI x)) (r1 := usR (μ 44) (T 3) (nI x * μ 18 3) 8)] at hN
      rw [show nI x + -1 = nI x - 1 by rw [Int32.sub_eq_add_neg]]
      have e43 : srM (hs (hs (hs (srM μ tr be w) 46 (upd tr 3 (nI x))) 43 (upd (μ 43) (S 3) (μ 43 (S 3) - nI x))) 44 (usR (μ 44) (T 3) (nI x * μ 18 3) 8)) tr2 be2 w2 43 = upd (μ 43) (S 3) (μ 43 (S 3) - nI x) := by
        unfold srM
        simp only [hs_s, hs_n, ne_eq, Nat.reduceEqDiff, not_false_eq_true]
      have e44 : srM (hs (hs (hs (srM μ tr be w) 46 (upd tr 3 (nI x))) 43 (upd (μ 43) (S 3) (μ 43 (S 3) - nI x))) 44 (usR (μ 44) (T 3) (nI x * μ 18 3) 8)) tr2 be2 w2 44 = usR (μ 44) (T 3) (nI x * μ 18 3) 8 := by
        unfold srM
        simp only [hs_s, hs_n, ne_eq, Nat.reduceEqDiff, not_false_eq_true]
      have e18 : srM (hs (hs (hs (srM μ tr be w) 46 (upd tr 3 (nI x))) 43 (upd (μ 43) (S 3) (μ 43 (S 3) - nI x))) 44 (usR (μ 44) (T 3) (nI x * μ 18 3) 8)) tr2 be2 w2 18 = μ 18 := by
        unfold srM
        simp only [hs_n, ne_eq, Nat.reduceEqDiff, not_false_eq_true]
      rw [e43, e44, e18, upd_s, upd_upd, use_back1, upd_id, usR_back]
      exact hN _
  · rw [i_le, i_nI (by omega), i_nI (by omega)] at q
    omega
theorem q_search3 (h4 : hp 4 = 0) (hh : ∀ k, k < 4 → hp k = hp (k + 1) + P k * cc k) (hcc : ∀ n, pf F T S M R 4 n → ∀ k, k < 4 → n k ≤ cc k) (hn : SrC 113 P F T S M R hp 4) : SrC 112 P F T S M R hp 3 := by
  intro μ t b w RI RV hK hD ht htr hb hw hw5 hS h
  obtain ⟨k1, k2, k3, k4, k5, k6, k7, k8, k9⟩ := hK 3 (by omega)
  refine mm_in rfl (Nat.le_of_ble_eq_true rfl) ?_
  show mm_Rn hh_S 112 RI RV 0 [some (.ref 7), some (.ref 2), some (.int (nI 3)), some (.int (nI (wo P t 3))), none, none, none, none] [] μ
  (refine mm_run ok_112 (fun t => t == 36) 12 ?_; rw [lb_112_0, rb_112]; simp only [↓w_aload_0, ↓w_aload_1, ↓w_fall, ↓w_getf, ↓w_goto, ↓w_iadd, ↓w_iald, ↓w_iast, ↓w_ic_ge, ↓w_ic_lt, ↓w_ic_ne, ↓w_iconst, ↓w_iinc, ↓w_iload, ↓w_iload_2, ↓w_iload_3, ↓w_imul, ↓w_ineg, ↓w_istore, ↓w_vret, ↓li_0, ↓li_s, ↓lr_0, ↓lr_s, ↓gf_2_5, ↓gf_7_3, ↓gf_7_4, ↓gf_7_7, ↓rc_7, ↓ar_20, ↓ar_45, ↓ar_46, ↓w_c113, ↓w_c38, ↓w_c39, ↓w_c40, ↓wl_112_0, ↓wl_112_11, ↓wl_112_29, ↓wl_112_30, ↓wl_112_36, ↓wl_112_75, ↓wl_112_116, hs_wr, hs_cp, hs_s, hs_n, hs_hs, upd_s, upd_n, upd_upd, ne_eq, Nat.reduceEqDiff, c1_i, c1_r, c2_i, c2_r, ↓reduceIte, List.set_cons_zero, List.set_cons_succ, mm_cb, List.length_cons, List.length_nil, List.all_cons, List.all_nil, Nat.zero_add, Nat.reduceAdd, Nat.reduceLeDiff, Nat.zero_le, decide_true, Bool.and_self, Bool.and_true, true_and, and_true, forall_const, Bool.or_false, Bool.false_or, Bool.or_true, Bool.true_or, Bool.false_eq_true, Nat.reduceBEq, beq_self_eq_true, ha_11, ha_01, hb_10, hb_0x, imp_self, false_implies, not_true_eq_false, not_false_eq_true])
  refine ⟨fun _ => q_mostP (by omega) hK hD (fun c hc20 hc => ⟨fun q => absurd (by decide) q, fun _ => ?_⟩), fun q => absurd (by decide) q⟩
  have hS1 : St P F T S M R (fun n => Gt 3 t n ∨ (Ext 3 t n ∧ c + 1 ≤ n 3)) b w := hS.mono (fun n hn2 hv => by
    rcases hv with hv | ⟨hv, hx⟩
    · exact Or.inl hv
    · have := mcP_le (by omega) k8 (fun h => (k9 h).1) k7 hc hn2 hv
      omega)
  have := q_srB3 (RI := RI) (RV := RV) (least := nI c) (tr := μ 46) (be := μ 47) hn hK hD ht htr hb hw5 hc20 hc (Nat.le_refl c) (by rw [i_lt]; omega) hS1 (fun q => h _ _ b w (fun _ _ => rfl) hb hw5 (prune (by omega) h4 hh hcc hS1 q)) (fun tr2 be2 b2 w2 c1 c2 c3 c4 o7 => by
    have g := h tr2 be2 b2 w2 (fun k hk => by rw [c1 k hk, htr k hk]) c2 c3 (c4.mono (fun n hn2 hv => by
      rcases hv with hv | hv
      · exact Or.inl (Or.inl hv)
      · by_cases hx : c ≤ n 3
        · exact Or.inl (Or.inr ⟨hv, hx⟩)
        · right
          have hF1 : 1 ≤ F 3 := by
            by_cases h0 : F 3 = 0
            · have := hc.1 h0
              omega
            · omega
          have hP1 := (k9 hF1).2
          have hm := mcP_pf (by omega) k7 hc ht (Nat.le_refl c)
          have hv2 : wo P (ux t 3 c) 4 < w2 ∨ wo P (ux t 3 c) 4 = w2 := (c4.1 _ hm (Or.inr ⟨ux_ext, by rw [ux_s]; exact Nat.le_refl c⟩)).elim Or.inl (fun z => Or.inr z.1)
          have e1 : wo P (ux t 3 c) 4 = wo P t 3 + c * P 3 := by
            show wo P (ux t 3 c) 3 + ux t 3 c 3 * P 3 = _
            rw [wo_ext 3 ux_ext, ux_s]
          have e2 : wo P n 4 = wo P t 3 + n 3 * P 3 := by
            show wo P n 3 + n 3 * P 3 = _
            rw [wo_ext 3 hv]
          have h3 : (n 3 + 1) * P 3 ≤ c * P 3 := Nat.mul_le_mul_right _ (by omega)
          rw [Nat.add_mul, Nat.one_mul] at h3
          omega))
    (refine mm_run ok_112 (fun t => t == 36) 12 ?_; rw [lb_112_36, rb_112]; simp only [↓w_aload_0, ↓w_aload_1, ↓w_fall, ↓w_getf, ↓w_goto, ↓w_iadd, ↓w_iald, ↓w_iast, ↓w_ic_ge, ↓w_ic_lt, ↓w_ic_ne, ↓w_iconst, ↓w_iinc, ↓w_iload, ↓w_iload_2, ↓w_iload_3, ↓w_imul, ↓w_ineg, ↓w_istore, ↓w_vret, ↓li_0, ↓li_s, ↓lr_0, ↓lr_s, ↓gf_2_5, ↓gf_7_3, ↓gf_7_4, ↓gf_7_7, ↓rc_7, ↓ar_20, ↓ar_45, ↓ar_46, ↓w_c113, ↓w_c38, ↓w_c39, ↓w_c40, ↓wl_112_0, ↓wl_112_11, ↓wl_112_29, ↓wl_112_30, ↓wl_112_36, ↓wl_112_75, ↓wl_112_116, hs_wr, hs_cp, hs_s, hs_n, hs_hs, upd_s, upd_n, upd_upd, ne_eq, Nat.reduceEqDiff, c1_i, c1_r, c2_i, c2_r, ↓reduceIte, List.set_cons_zero, List.set_cons_succ, mm_cb, List.length_cons, List.length_nil, List.all_cons, List.all_nil, Nat.zero_add, Nat.reduceAdd, Nat.reduceLeDiff, Nat.zero_le, decide_true, Bool.and_self, Bool.and_true, true_and, and_true, forall_const, Bool.or_false, Bool.false_or, Bool.or_true, Bool.true_or, Bool.false_eq_true, Nat.reduceBEq, beq_self_eq_true, ha_11, ha_01, hb_10, hb_0x, imp_self, false_implies, not_true_eq_false, not_false_eq_true])
    refine ⟨fun _ => g, fun q => absurd ?_ q⟩
    rw [i_lt, i_sub (by rw [i_nI (by omega), i_1]; omega) (by rw [i_nI (by omega), i_1]; omega), i_nI (by omega), i_1]
    omega) none
  rw [srM_id hw] at this
  exact this
/-- the body of the search's loop at level 2 -/
theorem q_srB2 {x c : Nat} {t b : Nat → Nat} {w : Nat} {tr be : Nat → Int32} {least : Int32} (hn : SrC 112 P F T S M R hp 3) (hK : KD μ P F T S) (hD : PD μ F T S M R hp 2 t) (ht : pf F T S M R 2 t) (htr : ∀ k, k < 2 → tr k = nI (t k)) (hb : ∀ k, k < 4 → be k = nI (b k)) (hw5 : w ≤ 100000) (hc20 : c ≤ 20) (hc : mcP F T S M R t 2 c) (hx : x ≤ c) (hl : ¬ nI x < least) (hS : St P F T S M R (fun n => Gt 2 t n ∨ (Ext 2 t n ∧ x + 1 ≤ n 2)) b w) (kP : wo P t 2 + x * P 2 + hp 3 < w → RV (srM μ tr be w)) (kN : ∀ tr2 be2 b2 w2, (∀ k, k < 2 → tr2 k = nI (t k)) → (∀ k, k < 4 → be2 k = nI (b2 k)) → w2 ≤ 100000 → St P F T S M R (fun n => Gt 2 t n ∨ (Ext 2 t n ∧ x ≤ n 2)) b2 w2 → ∀ o7, mm_Rn hh_S 111 RI RV 36 [some (.ref 7), some (.ref 2), some (.int (nI 2)), some (.int (nI (wo P t 2))), some (.int (nI c)), some (.int least), some (.int (nI x - 1)), o7] [] (srM μ tr2 be2 w2)) : ∀ o7, mm_Rn hh_S 111 RI RV 36 [some (.ref 7), some (.ref 2), some (.int (nI 2)), some (.int (nI (wo P t 2))), some (.int (nI c)), some (.int least), some (.int (nI x)), o7] [] (srM μ tr be w) := by
  intro o7
  obtain ⟨k1, k2, k3, k4, k5, k6, k7, k8, k9⟩ := hK 2 (by omega)
  have hg := wo_le (P := P) (fun k hk => (hK k hk).2.2.2.2.1) 2 (by omega) ht
  have hxp : x * P 2 ≤ 20 * 99 := Nat.mul_le_mul (by omega) k5
  have hh5 := (hD.2.2 3 (by omega)).2
  have ep : srM μ tr be w 20 = μ 20 := by unfold srM; simp only [hs_n, ne_eq, Nat.reduceEqDiff, not_false_eq_true]
  have eh : srM μ tr be w 45 = μ 45 := by unfold srM; simp only [hs_n, ne_eq, Nat.reduceEqDiff, not_false_eq_true]
  have ew : srM μ tr be w 7 7 = nI w := by unfold srM; rw [hs_s, upd_s]
  have et : srM μ tr be w 46 = tr := by unfold srM; simp only [hs_s, hs_n, ne_eq, Nat.reduceEqDiff, not_false_eq_true]
  have em : srM μ tr be w 43 = μ 43 := by unfold srM; simp only [hs_n, ne_eq, Nat.reduceEqDiff, not_false_eq_true]
  have er : srM μ tr be w 44 = μ 44 := by unfold srM; simp only [hs_n, ne_eq, Nat.reduceEqDiff, not_false_eq_true]
  have ek : srM μ tr be w 16 = μ 16 := by unfold srM; simp only [hs_n, ne_eq, Nat.reduceEqDiff, not_false_eq_true]
  have es : srM μ tr be w 17 = μ 17 := by unfold srM; simp only [hs_n, ne_eq, Nat.reduceEqDiff, not_false_eq_true]
  have ef : srM μ tr be w 18 = μ 18 := by unfold srM; simp only [hs_n, ne_eq, Nat.reduceEqDiff, not_false_eq_true]
  have eb : srM μ tr be w 47 = be := by unfold srM; simp only [hs_s, hs_n, ne_eq, Nat.reduceEqDiff, not_false_eq_true]
  (refine mm_run ok_111 (fun t => t == 36) 12 ?_; rw [lb_111_36, rb_111]; simp only [↓w_aload_0, ↓w_aload_1, ↓w_fall, ↓w_getf, ↓w_goto, ↓w_iadd, ↓w_iald, ↓w_iast, ↓w_ic_ge, ↓w_ic_lt, ↓w_ic_ne, ↓w_iconst, ↓w_iinc, ↓w_iload, ↓w_iload_2, ↓w_iload_3, ↓w_imul, ↓w_ineg, ↓w_istore, ↓w_vret, ↓li_0, ↓li_s, ↓lr_0, ↓lr_s, ↓gf_2_5, ↓gf_7_3, ↓gf_7_4, ↓gf_7_7, ↓rc_7, ↓ar_20, ↓ar_45, ↓ar_46, ↓w_c112, ↓w_c38, ↓w_c39, ↓w_c40, ↓wl_111_0, ↓wl_111_11, ↓wl_111_29, ↓wl_111_30, ↓wl_111_36, ↓wl_111_75, ↓wl_111_116, hs_wr, hs_cp, hs_s, hs_n, hs_hs, upd_s, upd_n, upd_upd, ne_eq, Nat.reduceEqDiff, c1_i, c1_r, c2_i, c2_r, ↓reduceIte, List.set_cons_zero, List.set_cons_succ, mm_cb, List.length_cons, List.length_nil, List.all_cons, List.all_nil, Nat.zero_add, Nat.reduceAdd, Nat.reduceLeDiff, Nat.zero_le, decide_true, Bool.and_self, Bool.and_true, true_and, and_true, forall_const, Bool.or_false, Bool.false_or, Bool.or_true, Bool.true_or, Bool.false_eq_true, Nat.reduceBEq, beq_self_eq_true, ha_11, ha_01, hb_10, hb_0x, imp_self, false_implies, not_true_eq_false, not_false_eq_true])
  rw [show (nI 2).toNatClampNeg = 2 by decide, show nI 2 + 1 = nI 3 by decide, show (nI 3).toNatClampNeg = 3 by decide, ep, eh, ew, et, k1, (hD.2.2 3 (by omega)).1, i_mulN, i_addN, i_addN]
  refine ⟨fun q => absurd q hl, fun _ => ⟨in_nI (by omega) (by omega), in_nI (by omega) (by omega), fun q => ⟨in_nI (by omega) (by omega), ?_⟩, fun q => kP ?_⟩⟩
  · have hp2 := mcP_pf (by omega) k7 hc ht hx
    refine q_use (T := T 2) (s := S 2) (by omega) (by simp only [hs_n, ne_eq, Nat.reduceEqDiff, not_false_eq_true, ek]; exact k3) k7 (by simp only [hs_n, ne_eq, Nat.reduceEqDiff, not_false_eq_true, es]; exact k4) k8 ?_
    simp only [hs_s, hs_n, ne_eq, Nat.reduceEqDiff, not_false_eq_true, em, er, ef]
    have eg : wo P t 2 + x * P 2 = wo P (ux t 2 x) 3 := by
      show _ = wo P (ux t 2 x) 2 + ux t 2 x 2 * P 2
      rw [wo_ext 2 ux_ext, ux_s]
    rw [eg]
    have hKy : KD (srM μ tr be w) P F T S := KD_of ep ef ek es hK
    have hDy : PD (srM μ tr be w) F T S M R hp 2 t := by
      unfold PD
      rw [em, er, eh]
      exact hD
    have hD2 := PD_use (x := x) (show 2 < 4 by omega) hKy hDy hp2 (upd tr 2 (nI x))
    rw [em, er, ef] at hD2
    refine hn _ (ux t 2 x) b w _ _ (KD_of (by simp only [hs_n, ne_eq, Nat.reduceEqDiff, not_false_eq_true, ep]) (by simp only [hs_n, ne_eq, Nat.reduceEqDiff, not_false_eq_true, ef]) (by simp only [hs_n, ne_eq, Nat.reduceEqDiff, not_false_eq_true, ek]) (by simp only [hs_n, ne_eq, Nat.reduceEqDiff, not_false_eq_true, es]) hK) hD2 hp2 (fun k hk => ?_) (fun k hk => ?_) ?_ hw5 (hS.mono (fun n _ hv => Or.inl (gt_ux.mp hv))) (fun tr2 be2 b2 w2 h1 h2 h3 h4 => ?_)
    · simp only [hs_s, hs_n, ne_eq, Nat.reduceEqDiff, not_false_eq_true]
      by_cases e : k = 2
      · subst e
        rw [upd_s, ux_s]
      · rw [upd_n e, ux_ext k (by omega)]
        exact htr k (by omega)
    · simp only [hs_n, ne_eq, Nat.reduceEqDiff, not_false_eq_true, eb]
      exact hb k hk
    · simp only [hs_n, ne_eq, Nat.reduceEqDiff, not_false_eq_true]
      exact ew
    · simp only [hs_s, hs_n, ne_eq, Nat.reduceEqDiff, not_false_eq_true] at h1
      refine q_use (T := T 2) (s := S 2) (by omega) (by unfold srM; simp only [hs_n, ne_eq, Nat.reduceEqDiff, not_false_eq_true]; exact k3) k7 (by unfold srM; simp only [hs_n, ne_eq, Nat.reduceEqDiff, not_false_eq_true]; exact k4) k8 ?_
      have hN := kN tr2 be2 b2 w2 (fun k hk => by
        rw [h1 k (by omega), upd_n (by omega)]
        exact htr k hk) h2 h3 (h4.mono (fun n _ hv => by
        rcases hv with hv | ⟨hv, hx2⟩
        · exact Or.inl (Or.inl (gt_ux.mpr (Or.inl hv)))
        · by_cases e : n 2 = x
          · exact Or.inl (Or.inr (ext_ux.mpr ⟨hv, e⟩))
          · exact Or.inl (Or.inl (gt_ux.mpr (Or.inr ⟨hv, by omega⟩)))))
      rw [← srM_fin (tr := tr) (be := be) (w := w) (x1 := upd tr 2 (nI x)) (m1 := upd (μ 43) (S 2) (μ 43 (S 2) - nI x)) (r1 := usR (μ 44) (T 2) (nI x * μ 18 2) 8)] at hN
      rw [show nI x + -1 = nI x - 1 by rw [Int32.sub_eq_add_neg]]
      have e43 : srM (hs (hs (hs (srM μ tr be w) 46 (upd tr 2 (nI x))) 43 (upd (μ 43) (S 2) (μ 43 (S 2) - nI x))) 44 (usR (μ 44) (T 2) (nI x * μ 18 2) 8)) tr2 be2 w2 43 = upd (μ 43) (S 2) (μ 43 (S 2) - nI x) := by
        unfold srM
        simp only [hs_s, hs_n, ne_eq, Nat.reduceEqDiff, not_false_eq_true]
      have e44 : srM (hs (hs (hs (srM μ tr be w) 46 (upd tr 2 (nI x))) 43 (upd (μ 43) (S 2) (μ 43 (S 2) - nI x))) 44 (usR (μ 44) (T 2) (nI x * μ 18 2) 8)) tr2 be2 w2 44 = usR (μ 44) (T 2) (nI x * μ 18 2) 8 := by
        unfold srM
        simp only [hs_s, hs_n, ne_eq, Nat.reduceEqDiff, not_false_eq_true]
      have e18 : srM (hs (hs (hs (srM μ tr be w) 46 (upd tr 2 (nI x))) 43 (upd (μ 43) (S 2) (μ 43 (S 2) - nI x))) 44 (usR (μ 44) (T 2) (nI x * μ 18 2) 8)) tr2 be2 w2 18 = μ 18 := by
        unfold srM
        simp only [hs_n, ne_eq, Nat.reduceEqDiff, not_false_eq_true]
      rw [e43, e44, e18, upd_s, upd_upd, use_back1, upd_id, usR_back]
      exact hN _
  · rw [i_le, i_nI (by omega), i_nI (by omega)] at q
    omega
theorem q_search2 (h4 : hp 4 = 0) (hh : ∀ k, k < 4 → hp k = hp (k + 1) + P k * cc k) (hcc : ∀ n, pf F T S M R 4 n → ∀ k, k < 4 → n k ≤ cc k) (hn : SrC 112 P F T S M R hp 3) : SrC 111 P F T S M R hp 2 := by
  intro μ t b w RI RV hK hD ht htr hb hw hw5 hS h
  obtain ⟨k1, k2, k3, k4, k5, k6, k7, k8, k9⟩ := hK 2 (by omega)
  refine mm_in rfl (Nat.le_of_ble_eq_true rfl) ?_
  show mm_Rn hh_S 111 RI RV 0 [some (.ref 7), some (.ref 2), some (.int (nI 2)), some (.int (nI (wo P t 2))), none, none, none, none] [] μ
  (refine mm_run ok_111 (fun t => t == 36) 12 ?_; rw [lb_111_0, rb_111]; simp only [↓w_aload_0, ↓w_aload_1, ↓w_fall, ↓w_getf, ↓w_goto, ↓w_iadd, ↓w_iald, ↓w_iast, ↓w_ic_ge, ↓w_ic_lt, ↓w_ic_ne, ↓w_iconst, ↓w_iinc, ↓w_iload, ↓w_iload_2, ↓w_iload_3, ↓w_imul, ↓w_ineg, ↓w_istore, ↓w_vret, ↓li_0, ↓li_s, ↓lr_0, ↓lr_s, ↓gf_2_5, ↓gf_7_3, ↓gf_7_4, ↓gf_7_7, ↓rc_7, ↓ar_20, ↓ar_45, ↓ar_46, ↓w_c112, ↓w_c38, ↓w_c39, ↓w_c40, ↓wl_111_0, ↓wl_111_11, ↓wl_111_29, ↓wl_111_30, ↓wl_111_36, ↓wl_111_75, ↓wl_111_116, hs_wr, hs_cp, hs_s, hs_n, hs_hs, upd_s, upd_n, upd_upd, ne_eq, Nat.reduceEqDiff, c1_i, c1_r, c2_i, c2_r, ↓reduceIte, List.set_cons_zero, List.set_cons_succ, mm_cb, List.length_cons, List.length_nil, List.all_cons, List.all_nil, Nat.zero_add, Nat.reduceAdd, Nat.reduceLeDiff, Nat.zero_le, decide_true, Bool.and_self, Bool.and_true, true_and, and_true, forall_const, Bool.or_false, Bool.false_or, Bool.or_true, Bool.true_or, Bool.false_eq_true, Nat.reduceBEq, beq_self_eq_true, ha_11, ha_01, hb_10, hb_0x, imp_self, false_implies, not_true_eq_false, not_false_eq_true])
  refine ⟨fun _ => q_mostP (by omega) hK hD (fun c hc20 hc => ⟨fun _ => ?_, fun q => absurd q (by decide)⟩), fun q => absurd (by decide) q⟩
  have lp : ∀ y, y ≤ c + 1 → ∀ (tr be : Nat → Int32) (b1 : Nat → Nat) (w1 : Nat), (∀ k, k < 2 → tr k = nI (t k)) → (∀ k, k < 4 → be k = nI (b1 k)) → w1 ≤ 100000 → St P F T S M R (fun n => Gt 2 t n ∨ (Ext 2 t n ∧ y ≤ n 2)) b1 w1 → ∀ o7, mm_Rn hh_S 111 RI RV 36 [some (.ref 7), some (.ref 2), some (.int (nI 2)), some (.int (nI (wo P t 2))), some (.int (nI c)), some (.int 0), some (.int (nI y - 1)), o7] [] (srM μ tr be w1) := by
    intro y
    induction y with
    | zero =>
      intro hy tr be b1 w1 a1 a2 a3 a4 o7
      have g := h tr be b1 w1 (fun k hk => by rw [a1 k hk, htr k hk]) a2 a3 (a4.mono (fun n _ hv => Or.inl (hv.elim Or.inl (fun e => Or.inr ⟨e, Nat.zero_le _⟩))))
      (refine mm_run ok_111 (fun t => t == 36) 12 ?_; rw [lb_111_36, rb_111]; simp only [↓w_aload_0, ↓w_aload_1, ↓w_fall, ↓w_getf, ↓w_goto, ↓w_iadd, ↓w_iald, ↓w_iast, ↓w_ic_ge, ↓w_ic_lt, ↓w_ic_ne, ↓w_iconst, ↓w_iinc, ↓w_iload, ↓w_iload_2, ↓w_iload_3, ↓w_imul, ↓w_ineg, ↓w_istore, ↓w_vret, ↓li_0, ↓li_s, ↓lr_0, ↓lr_s, ↓gf_2_5, ↓gf_7_3, ↓gf_7_4, ↓gf_7_7, ↓rc_7, ↓ar_20, ↓ar_45, ↓ar_46, ↓w_c112, ↓w_c38, ↓w_c39, ↓w_c40, ↓wl_111_0, ↓wl_111_11, ↓wl_111_29, ↓wl_111_30, ↓wl_111_36, ↓wl_111_75, ↓wl_111_116, hs_wr, hs_cp, hs_s, hs_n, hs_hs, upd_s, upd_n, upd_upd, ne_eq, Nat.reduceEqDiff, c1_i, c1_r, c2_i, c2_r, ↓reduceIte, List.set_cons_zero, List.set_cons_succ, mm_cb, List.length_cons, List.length_nil, List.all_cons, List.all_nil, Nat.zero_add, Nat.reduceAdd, Nat.reduceLeDiff, Nat.zero_le, decide_true, Bool.and_self, Bool.and_true, true_and, and_true, forall_const, Bool.or_false, Bool.false_or, Bool.or_true, Bool.true_or, Bool.false_eq_true, Nat.reduceBEq, beq_self_eq_true, ha_11, ha_01, hb_10, hb_0x, imp_self, false_implies, not_true_eq_false, not_false_eq_true])
      exact ⟨fun _ => g, fun q => absurd (by decide) q⟩
    | succ x ih =>
      intro hy tr be b1 w1 a1 a2 a3 a4 o7
      rw [nI_pred]
      exact q_srB2 hn hK hD ht a1 a2 a3 hc20 hc (by omega) (nI_pos (by omega)) a4 (fun q => h tr be b1 w1 (fun k hk => by rw [a1 k hk, htr k hk]) a2 a3 (prune (by omega) h4 hh hcc a4 q)) (fun tr2 be2 b2 w2 c1 c2 c3 c4 o7 => ih (by omega) tr2 be2 b2 w2 c1 c2 c3 c4 o7) o7
  have := lp (c + 1) (Nat.le_refl _) (μ 46) (μ 47) b w htr hb hw5 (hS.mono (fun n hn2 hv => by
    rcases hv with hv | ⟨hv, hx⟩
    · exact Or.inl hv
    · have := mcP_le (by omega) k8 (fun h => (k9 h).1) k7 hc hn2 hv
      omega)) none
  rw [srM_id hw, nI_pred] at this
  exact this
/-- the body of the search's loop at level 1 -/
theorem q_srB1 {x c : Nat} {t b : Nat → Nat} {w : Nat} {tr be : Nat → Int32} {least : Int32} (hn : SrC 111 P F T S M R hp 2) (hK : KD μ P F T S) (hD : PD μ F T S M R hp 1 t) (ht : pf F T S M R 1 t) (htr : ∀ k, k < 1 → tr k = nI (t k)) (hb : ∀ k, k < 4 → be k = nI (b k)) (hw5 : w ≤ 100000) (hc20 : c ≤ 20) (hc : mcP F T S M R t 1 c) (hx : x ≤ c) (hl : ¬ nI x < least) (hS : St P F T S M R (fun n => Gt 1 t n ∨ (Ext 1 t n ∧ x + 1 ≤ n 1)) b w) (kP : wo P t 1 + x * P 1 + hp 2 < w → RV (srM μ tr be w)) (kN : ∀ tr2 be2 b2 w2, (∀ k, k < 1 → tr2 k = nI (t k)) → (∀ k, k < 4 → be2 k = nI (b2 k)) → w2 ≤ 100000 → St P F T S M R (fun n => Gt 1 t n ∨ (Ext 1 t n ∧ x ≤ n 1)) b2 w2 → ∀ o7, mm_Rn hh_S 110 RI RV 36 [some (.ref 7), some (.ref 2), some (.int (nI 1)), some (.int (nI (wo P t 1))), some (.int (nI c)), some (.int least), some (.int (nI x - 1)), o7] [] (srM μ tr2 be2 w2)) : ∀ o7, mm_Rn hh_S 110 RI RV 36 [some (.ref 7), some (.ref 2), some (.int (nI 1)), some (.int (nI (wo P t 1))), some (.int (nI c)), some (.int least), some (.int (nI x)), o7] [] (srM μ tr be w) := by
  intro o7
  obtain ⟨k1, k2, k3, k4, k5, k6, k7, k8, k9⟩ := hK 1 (by omega)
  have hg := wo_le (P := P) (fun k hk => (hK k hk).2.2.2.2.1) 1 (by omega) ht
  have hxp : x * P 1 ≤ 20 * 99 := Nat.mul_le_mul (by omega) k5
  have hh5 := (hD.2.2 2 (by omega)).2
  have ep : srM μ tr be w 20 = μ 20 := by unfold srM; simp only [hs_n, ne_eq, Nat.reduceEqDiff, not_false_eq_true]
  have eh : srM μ tr be w 45 = μ 45 := by unfold srM; simp only [hs_n, ne_eq, Nat.reduceEqDiff, not_false_eq_true]
  have ew : srM μ tr be w 7 7 = nI w := by unfold srM; rw [hs_s, upd_s]
  have et : srM μ tr be w 46 = tr := by unfold srM; simp only [hs_s, hs_n, ne_eq, Nat.reduceEqDiff, not_false_eq_true]
  have em : srM μ tr be w 43 = μ 43 := by unfold srM; simp only [hs_n, ne_eq, Nat.reduceEqDiff, not_false_eq_true]
  have er : srM μ tr be w 44 = μ 44 := by unfold srM; simp only [hs_n, ne_eq, Nat.reduceEqDiff, not_false_eq_true]
  have ek : srM μ tr be w 16 = μ 16 := by unfold srM; simp only [hs_n, ne_eq, Nat.reduceEqDiff, not_false_eq_true]
  have es : srM μ tr be w 17 = μ 17 := by unfold srM; simp only [hs_n, ne_eq, Nat.reduceEqDiff, not_false_eq_true]
  have ef : srM μ tr be w 18 = μ 18 := by unfold srM; simp only [hs_n, ne_eq, Nat.reduceEqDiff, not_false_eq_true]
  have eb : srM μ tr be w 47 = be := by unfold srM; simp only [hs_s, hs_n, ne_eq, Nat.reduceEqDiff, not_false_eq_true]
  (refine mm_run ok_110 (fun t => t == 36) 12 ?_; rw [lb_110_36, rb_110]; simp only [↓w_aload_0, ↓w_aload_1, ↓w_fall, ↓w_getf, ↓w_goto, ↓w_iadd, ↓w_iald, ↓w_iast, ↓w_ic_ge, ↓w_ic_lt, ↓w_ic_ne, ↓w_iconst, ↓w_iinc, ↓w_iload, ↓w_iload_2, ↓w_iload_3, ↓w_imul, ↓w_ineg, ↓w_istore, ↓w_vret, ↓li_0, ↓li_s, ↓lr_0, ↓lr_s, ↓gf_2_5, ↓gf_7_3, ↓gf_7_4, ↓gf_7_7, ↓rc_7, ↓ar_20, ↓ar_45, ↓ar_46, ↓w_c111, ↓w_c38, ↓w_c39, ↓w_c40, ↓wl_110_0, ↓wl_110_11, ↓wl_110_29, ↓wl_110_30, ↓wl_110_36, ↓wl_110_75, ↓wl_110_116, hs_wr, hs_cp, hs_s, hs_n, hs_hs, upd_s, upd_n, upd_upd, ne_eq, Nat.reduceEqDiff, c1_i, c1_r, c2_i, c2_r, ↓reduceIte, List.set_cons_zero, List.set_cons_succ, mm_cb, List.length_cons, List.length_nil, List.all_cons, List.all_nil, Nat.zero_add, Nat.reduceAdd, Nat.reduceLeDiff, Nat.zero_le, decide_true, Bool.and_self, Bool.and_true, true_and, and_true, forall_const, Bool.or_false, Bool.false_or, Bool.or_true, Bool.true_or, Bool.false_eq_true, Nat.reduceBEq, beq_self_eq_true, ha_11, ha_01, hb_10, hb_0x, imp_self, false_implies, not_true_eq_false, not_false_eq_true])
  rw [show (nI 1).toNatClampNeg = 1 by decide, show nI 1 + 1 = nI 2 by decide, show (nI 2).toNatClampNeg = 2 by decide, ep, eh, ew, et, k1, (hD.2.2 2 (by omega)).1, i_mulN, i_addN, i_addN]
  refine ⟨fun q => absurd q hl, fun _ => ⟨in_nI (by omega) (by omega), in_nI (by omega) (by omega), fun q => ⟨in_nI (by omega) (by omega), ?_⟩, fun q => kP ?_⟩⟩
  · have hp2 := mcP_pf (by omega) k7 hc ht hx
    refine q_use (T := T 1) (s := S 1) (by omega) (by simp only [hs_n, ne_eq, Nat.reduceEqDiff, not_false_eq_true, ek]; exact k3) k7 (by simp only [hs_n, ne_eq, Nat.reduceEqDiff, not_false_eq_true, es]; exact k4) k8 ?_
    simp only [hs_s, hs_n, ne_eq, Nat.reduceEqDiff, not_false_eq_true, em, er, ef]
    have eg : wo P t 1 + x * P 1 = wo P (ux t 1 x) 2 := by
      show _ = wo P (ux t 1 x) 1 + ux t 1 x 1 * P 1
      rw [wo_ext 1 ux_ext, ux_s]
    rw [eg]
    have hKy : KD (srM μ tr be w) P F T S := KD_of ep ef ek es hK
    have hDy : PD (srM μ tr be w) F T S M R hp 1 t := by
      unfold PD
      rw [em, er, eh]
      exact hD
    have hD2 := PD_use (x := x) (show 1 < 4 by omega) hKy hDy hp2 (upd tr 1 (nI x))
    rw [em, er, ef] at hD2
    refine hn _ (ux t 1 x) b w _ _ (KD_of (by simp only [hs_n, ne_eq, Nat.reduceEqDiff, not_false_eq_true, ep]) (by simp only [hs_n, ne_eq, Nat.reduceEqDiff, not_false_eq_true, ef]) (by simp only [hs_n, ne_eq, Nat.reduceEqDiff, not_false_eq_true, ek]) (by simp only [hs_n, ne_eq, Nat.reduceEqDiff, not_false_eq_true, es]) hK) hD2 hp2 (fun k hk => ?_) (fun k hk => ?_) ?_ hw5 (hS.mono (fun n _ hv => Or.inl (gt_ux.mp hv))) (fun tr2 be2 b2 w2 h1 h2 h3 h4 => ?_)
    · simp only [hs_s, hs_n, ne_eq, Nat.reduceEqDiff, not_false_eq_true]
      by_cases e : k = 1
      · subst e
        rw [upd_s, ux_s]
      · rw [upd_n e, ux_ext k (by omega)]
        exact htr k (by omega)
    · simp only [hs_n, ne_eq, Nat.reduceEqDiff, not_false_eq_true, eb]
      exact hb k hk
    · simp only [hs_n, ne_eq, Nat.reduceEqDiff, not_false_eq_true]
      exact ew
    · simp only [hs_s, hs_n, ne_eq, Nat.reduceEqDiff, not_false_eq_true] at h1
      refine q_use (T := T 1) (s := S 1) (by omega) (by unfold srM; simp only [hs_n, ne_eq, Nat.reduceEqDiff, not_false_eq_true]; exact k3) k7 (by unfold srM; simp only [hs_n, ne_eq, Nat.reduceEqDiff, not_false_eq_true]; exact k4) k8 ?_
      have hN := kN tr2 be2 b2 w2 (fun k hk => by
        rw [h1 k (by omega), upd_n (by omega)]
        exact htr k hk) h2 h3 (h4.mono (fun n _ hv => by
        rcases hv with hv | ⟨hv, hx2⟩
        · exact Or.inl (Or.inl (gt_ux.mpr (Or.inl hv)))
        · by_cases e : n 1 = x
          · exact Or.inl (Or.inr (ext_ux.mpr ⟨hv, e⟩))
          · exact Or.inl (Or.inl (gt_ux.mpr (Or.inr ⟨hv, by omega⟩)))))
      rw [← srM_fin (tr := tr) (be := be) (w := w) (x1 := upd tr 1 (nI x)) (m1 := upd (μ 43) (S 1) (μ 43 (S 1) - nI x)) (r1 := usR (μ 44) (T 1) (nI x * μ 18 1) 8)] at hN
      rw [show nI x + -1 = nI x - 1 by rw [Int32.sub_eq_add_neg]]
      have e43 : srM (hs (hs (hs (srM μ tr be w) 46 (upd tr 1 (nI x))) 43 (upd (μ 43) (S 1) (μ 43 (S 1) - nI x))) 44 (usR (μ 44) (T 1) (nI x * μ 18 1) 8)) tr2 be2 w2 43 = upd (μ 43) (S 1) (μ 43 (S 1) - nI x) := by
        unfold srM
        simp only [hs_s, hs_n, ne_eq, Nat.reduceEqDiff, not_false_eq_true]
      have e44 : srM (hs (hs (hs (srM μ tr be w) 46 (upd tr 1 (nI x))) 43 (upd (μ 43) (S 1) (μ 43 (S 1) - nI x))) 44 (usR (μ 44) (T 1) (nI x * μ 18 1) 8)) tr2 be2 w2 44 = usR (μ 44) (T 1) (nI x * μ 18 1) 8 := by
        unfold srM
        simp only [hs_s, hs_n, ne_eq, Nat.reduceEqDiff, not_false_eq_true]
      have e18 : srM (hs (hs (hs (srM μ tr be w) 46 (upd tr 1 (nI x))) 43 (upd (μ 43) (S 1) (μ 43 (S 1) - nI x))) 44 (usR (μ 44) (T 1) (nI x * μ 18 1) 8)) tr2 be2 w2 18 = μ 18 := by
        unfold srM
        simp only [hs_n, ne_eq, Nat.reduceEqDiff, not_false_eq_true]
      rw [e43, e44, e18, upd_s, upd_upd, use_back1, upd_id, usR_back]
      exact hN _
  · rw [i_le, i_nI (by omega), i_nI (by omega)] at q
    omega
theorem q_search1 (h4 : hp 4 = 0) (hh : ∀ k, k < 4 → hp k = hp (k + 1) + P k * cc k) (hcc : ∀ n, pf F T S M R 4 n → ∀ k, k < 4 → n k ≤ cc k) (hn : SrC 111 P F T S M R hp 2) : SrC 110 P F T S M R hp 1 := by
  intro μ t b w RI RV hK hD ht htr hb hw hw5 hS h
  obtain ⟨k1, k2, k3, k4, k5, k6, k7, k8, k9⟩ := hK 1 (by omega)
  refine mm_in rfl (Nat.le_of_ble_eq_true rfl) ?_
  show mm_Rn hh_S 110 RI RV 0 [some (.ref 7), some (.ref 2), some (.int (nI 1)), some (.int (nI (wo P t 1))), none, none, none, none] [] μ
  (refine mm_run ok_110 (fun t => t == 36) 12 ?_; rw [lb_110_0, rb_110]; simp only [↓w_aload_0, ↓w_aload_1, ↓w_fall, ↓w_getf, ↓w_goto, ↓w_iadd, ↓w_iald, ↓w_iast, ↓w_ic_ge, ↓w_ic_lt, ↓w_ic_ne, ↓w_iconst, ↓w_iinc, ↓w_iload, ↓w_iload_2, ↓w_iload_3, ↓w_imul, ↓w_ineg, ↓w_istore, ↓w_vret, ↓li_0, ↓li_s, ↓lr_0, ↓lr_s, ↓gf_2_5, ↓gf_7_3, ↓gf_7_4, ↓gf_7_7, ↓rc_7, ↓ar_20, ↓ar_45, ↓ar_46, ↓w_c111, ↓w_c38, ↓w_c39, ↓w_c40, ↓wl_110_0, ↓wl_110_11, ↓wl_110_29, ↓wl_110_30, ↓wl_110_36, ↓wl_110_75, ↓wl_110_116, hs_wr, hs_cp, hs_s, hs_n, hs_hs, upd_s, upd_n, upd_upd, ne_eq, Nat.reduceEqDiff, c1_i, c1_r, c2_i, c2_r, ↓reduceIte, List.set_cons_zero, List.set_cons_succ, mm_cb, List.length_cons, List.length_nil, List.all_cons, List.all_nil, Nat.zero_add, Nat.reduceAdd, Nat.reduceLeDiff, Nat.zero_le, decide_true, Bool.and_self, Bool.and_true, true_and, and_true, forall_const, Bool.or_false, Bool.false_or, Bool.or_true, Bool.true_or, Bool.false_eq_true, Nat.reduceBEq, beq_self_eq_true, ha_11, ha_01, hb_10, hb_0x, imp_self, false_implies, not_true_eq_false, not_false_eq_true])
  refine ⟨fun _ => q_mostP (by omega) hK hD (fun c hc20 hc => ⟨fun _ => ?_, fun q => absurd q (by decide)⟩), fun q => absurd (by decide) q⟩
  have lp : ∀ y, y ≤ c + 1 → ∀ (tr be : Nat → Int32) (b1 : Nat → Nat) (w1 : Nat), (∀ k, k < 1 → tr k = nI (t k)) → (∀ k, k < 4 → be k = nI (b1 k)) → w1 ≤ 100000 → St P F T S M R (fun n => Gt 1 t n ∨ (Ext 1 t n ∧ y ≤ n 1)) b1 w1 → ∀ o7, mm_Rn hh_S 110 RI RV 36 [some (.ref 7), some (.ref 2), some (.int (nI 1)), some (.int (nI (wo P t 1))), some (.int (nI c)), some (.int 0), some (.int (nI y - 1)), o7] [] (srM μ tr be w1) := by
    intro y
    induction y with
    | zero =>
      intro hy tr be b1 w1 a1 a2 a3 a4 o7
      have g := h tr be b1 w1 (fun k hk => by rw [a1 k hk, htr k hk]) a2 a3 (a4.mono (fun n _ hv => Or.inl (hv.elim Or.inl (fun e => Or.inr ⟨e, Nat.zero_le _⟩))))
      (refine mm_run ok_110 (fun t => t == 36) 12 ?_; rw [lb_110_36, rb_110]; simp only [↓w_aload_0, ↓w_aload_1, ↓w_fall, ↓w_getf, ↓w_goto, ↓w_iadd, ↓w_iald, ↓w_iast, ↓w_ic_ge, ↓w_ic_lt, ↓w_ic_ne, ↓w_iconst, ↓w_iinc, ↓w_iload, ↓w_iload_2, ↓w_iload_3, ↓w_imul, ↓w_ineg, ↓w_istore, ↓w_vret, ↓li_0, ↓li_s, ↓lr_0, ↓lr_s, ↓gf_2_5, ↓gf_7_3, ↓gf_7_4, ↓gf_7_7, ↓rc_7, ↓ar_20, ↓ar_45, ↓ar_46, ↓w_c111, ↓w_c38, ↓w_c39, ↓w_c40, ↓wl_110_0, ↓wl_110_11, ↓wl_110_29, ↓wl_110_30, ↓wl_110_36, ↓wl_110_75, ↓wl_110_116, hs_wr, hs_cp, hs_s, hs_n, hs_hs, upd_s, upd_n, upd_upd, ne_eq, Nat.reduceEqDiff, c1_i, c1_r, c2_i, c2_r, ↓reduceIte, List.set_cons_zero, List.set_cons_succ, mm_cb, List.length_cons, List.length_nil, List.all_cons, List.all_nil, Nat.zero_add, Nat.reduceAdd, Nat.reduceLeDiff, Nat.zero_le, decide_true, Bool.and_self, Bool.and_true, true_and, and_true, forall_const, Bool.or_false, Bool.false_or, Bool.or_true, Bool.true_or, Bool.false_eq_true, Nat.reduceBEq, beq_self_eq_true, ha_11, ha_01, hb_10, hb_0x, imp_self, false_implies, not_true_eq_false, not_false_eq_true])
      exact ⟨fun _ => g, fun q => absurd (by decide) q⟩
    | succ x ih =>
      intro hy tr be b1 w1 a1 a2 a3 a4 o7
      rw [nI_pred]
      exact q_srB1 hn hK hD ht a1 a2 a3 hc20 hc (by omega) (nI_pos (by omega)) a4 (fun q => h tr be b1 w1 (fun k hk => by rw [a1 k hk, htr k hk]) a2 a3 (prune (by omega) h4 hh hcc a4 q)) (fun tr2 be2 b2 w2 c1 c2 c3 c4 o7 => ih (by omega) tr2 be2 b2 w2 c1 c2 c3 c4 o7) o7
  have := lp (c + 1) (Nat.le_refl _) (μ 46) (μ 47) b w htr hb hw5 (hS.mono (fun n hn2 hv => by
    rcases hv with hv | ⟨hv, hx⟩
    · exact Or.inl hv
    · have := mcP_le (by omega) k8 (fun h => (k9 h).1) k7 hc hn2 hv
      omega)) none
  rw [srM_id hw, nI_pred] at this
  exact this
/-- the body of the search's loop at level 0 -/
theorem q_srB0 {x c : Nat} {t b : Nat → Nat} {w : Nat} {tr be : Nat → Int32} {least : Int32} (hn : SrC 110 P F T S M R hp 1) (hK : KD μ P F T S) (hD : PD μ F T S M R hp 0 t) (ht : pf F T S M R 0 t) (htr : ∀ k, k < 0 → tr k = nI (t k)) (hb : ∀ k, k < 4 → be k = nI (b k)) (hw5 : w ≤ 100000) (hc20 : c ≤ 20) (hc : mcP F T S M R t 0 c) (hx : x ≤ c) (hl : ¬ nI x < least) (hS : St P F T S M R (fun n => Gt 0 t n ∨ (Ext 0 t n ∧ x + 1 ≤ n 0)) b w) (kP : wo P t 0 + x * P 0 + hp 1 < w → RV (srM μ tr be w)) (kN : ∀ tr2 be2 b2 w2, (∀ k, k < 0 → tr2 k = nI (t k)) → (∀ k, k < 4 → be2 k = nI (b2 k)) → w2 ≤ 100000 → St P F T S M R (fun n => Gt 0 t n ∨ (Ext 0 t n ∧ x ≤ n 0)) b2 w2 → ∀ o7, mm_Rn hh_S 109 RI RV 36 [some (.ref 7), some (.ref 2), some (.int (nI 0)), some (.int (nI (wo P t 0))), some (.int (nI c)), some (.int least), some (.int (nI x - 1)), o7] [] (srM μ tr2 be2 w2)) : ∀ o7, mm_Rn hh_S 109 RI RV 36 [some (.ref 7), some (.ref 2), some (.int (nI 0)), some (.int (nI (wo P t 0))), some (.int (nI c)), some (.int least), some (.int (nI x)), o7] [] (srM μ tr be w) := by
  intro o7
  obtain ⟨k1, k2, k3, k4, k5, k6, k7, k8, k9⟩ := hK 0 (by omega)
  have hg := wo_le (P := P) (fun k hk => (hK k hk).2.2.2.2.1) 0 (by omega) ht
  have hxp : x * P 0 ≤ 20 * 99 := Nat.mul_le_mul (by omega) k5
  have hh5 := (hD.2.2 1 (by omega)).2
  have ep : srM μ tr be w 20 = μ 20 := by unfold srM; simp only [hs_n, ne_eq, Nat.reduceEqDiff, not_false_eq_true]
  have eh : srM μ tr be w 45 = μ 45 := by unfold srM; simp only [hs_n, ne_eq, Nat.reduceEqDiff, not_false_eq_true]
  have ew : srM μ tr be w 7 7 = nI w := by unfold srM; rw [hs_s, upd_s]
  have et : srM μ tr be w 46 = tr := by unfold srM; simp only [hs_s, hs_n, ne_eq, Nat.reduceEqDiff, not_false_eq_true]
  have em : srM μ tr be w 43 = μ 43 := by unfold srM; simp only [hs_n, ne_eq, Nat.reduceEqDiff, not_false_eq_true]
  have er : srM μ tr be w 44 = μ 44 := by unfold srM; simp only [hs_n, ne_eq, Nat.reduceEqDiff, not_false_eq_true]
  have ek : srM μ tr be w 16 = μ 16 := by unfold srM; simp only [hs_n, ne_eq, Nat.reduceEqDiff, not_false_eq_true]
  have es : srM μ tr be w 17 = μ 17 := by unfold srM; simp only [hs_n, ne_eq, Nat.reduceEqDiff, not_false_eq_true]
  have ef : srM μ tr be w 18 = μ 18 := by unfold srM; simp only [hs_n, ne_eq, Nat.reduceEqDiff, not_false_eq_true]
  have eb : srM μ tr be w 47 = be := by unfold srM; simp only [hs_s, hs_n, ne_eq, Nat.reduceEqDiff, not_false_eq_true]
  (refine mm_run ok_109 (fun t => t == 36) 12 ?_; rw [lb_109_36, rb_109]; simp only [↓w_aload_0, ↓w_aload_1, ↓w_fall, ↓w_getf, ↓w_goto, ↓w_iadd, ↓w_iald, ↓w_iast, ↓w_ic_ge, ↓w_ic_lt, ↓w_ic_ne, ↓w_iconst, ↓w_iinc, ↓w_iload, ↓w_iload_2, ↓w_iload_3, ↓w_imul, ↓w_ineg, ↓w_istore, ↓w_vret, ↓li_0, ↓li_s, ↓lr_0, ↓lr_s, ↓gf_2_5, ↓gf_7_3, ↓gf_7_4, ↓gf_7_7, ↓rc_7, ↓ar_20, ↓ar_45, ↓ar_46, ↓w_c110, ↓w_c38, ↓w_c39, ↓w_c40, ↓wl_109_0, ↓wl_109_11, ↓wl_109_29, ↓wl_109_30, ↓wl_109_36, ↓wl_109_75, ↓wl_109_116, hs_wr, hs_cp, hs_s, hs_n, hs_hs, upd_s, upd_n, upd_upd, ne_eq, Nat.reduceEqDiff, c1_i, c1_r, c2_i, c2_r, ↓reduceIte, List.set_cons_zero, List.set_cons_succ, mm_cb, List.length_cons, List.length_nil, List.all_cons, List.all_nil, Nat.zero_add, Nat.reduceAdd, Nat.reduceLeDiff, Nat.zero_le, decide_true, Bool.and_self, Bool.and_true, true_and, and_true, forall_const, Bool.or_false, Bool.false_or, Bool.or_true, Bool.true_or, Bool.false_eq_true, Nat.reduceBEq, beq_self_eq_true, ha_11, ha_01, hb_10, hb_0x, imp_self, false_implies, not_true_eq_false, not_false_eq_true])
  rw [show (nI 0).toNatClampNeg = 0 by decide, show nI 0 + 1 = nI 1 by decide, show (nI 1).toNatClampNeg = 1 by decide, ep, eh, ew, et, k1, (hD.2.2 1 (by omega)).1, i_mulN, i_addN, i_addN]
  refine ⟨fun q => absurd q hl, fun _ => ⟨in_nI (by omega) (by omega), in_nI (by omega) (by omega), fun q => ⟨in_nI (by omega) (by omega), ?_⟩, fun q => kP ?_⟩⟩
  · have hp2 := mcP_pf (by omega) k7 hc ht hx
    refine q_use (T := T 0) (s := S 0) (by omega) (by simp only [hs_n, ne_eq, Nat.reduceEqDiff, not_false_eq_true, ek]; exact k3) k7 (by simp only [hs_n, ne_eq, Nat.reduceEqDiff, not_false_eq_true, es]; exact k4) k8 ?_
    simp only [hs_s, hs_n, ne_eq, Nat.reduceEqDiff, not_false_eq_true, em, er, ef]
    have eg : wo P t 0 + x * P 0 = wo P (ux t 0 x) 1 := by
      show _ = wo P (ux t 0 x) 0 + ux t 0 x 0 * P 0
      rw [wo_ext 0 ux_ext, ux_s]
    rw [eg]
    have hKy : KD (srM μ tr be w) P F T S := KD_of ep ef ek es hK
    have hDy : PD (srM μ tr be w) F T S M R hp 0 t := by
      unfold PD
      rw [em, er, eh]
      exact hD
    have hD2 := PD_use (x := x) (show 0 < 4 by omega) hKy hDy hp2 (upd tr 0 (nI x))
    rw [em, er, ef] at hD2
    refine hn _ (ux t 0 x) b w _ _ (KD_of (by simp only [hs_n, ne_eq, Nat.reduceEqDiff, not_false_eq_true, ep]) (by simp only [hs_n, ne_eq, Nat.reduceEqDiff, not_false_eq_true, ef]) (by simp only [hs_n, ne_eq, Nat.reduceEqDiff, not_false_eq_true, ek]) (by simp only [hs_n, ne_eq, Nat.reduceEqDiff, not_false_eq_true, es]) hK) hD2 hp2 (fun k hk => ?_) (fun k hk => ?_) ?_ hw5 (hS.mono (fun n _ hv => Or.inl (gt_ux.mp hv))) (fun tr2 be2 b2 w2 h1 h2 h3 h4 => ?_)
    · simp only [hs_s, hs_n, ne_eq, Nat.reduceEqDiff, not_false_eq_true]
      by_cases e : k = 0
      · subst e
        rw [upd_s, ux_s]
      · rw [upd_n e, ux_ext k (by omega)]
        exact htr k (by omega)
    · simp only [hs_n, ne_eq, Nat.reduceEqDiff, not_false_eq_true, eb]
      exact hb k hk
    · simp only [hs_n, ne_eq, Nat.reduceEqDiff, not_false_eq_true]
      exact ew
    · simp only [hs_s, hs_n, ne_eq, Nat.reduceEqDiff, not_false_eq_true] at h1
      refine q_use (T := T 0) (s := S 0) (by omega) (by unfold srM; simp only [hs_n, ne_eq, Nat.reduceEqDiff, not_false_eq_true]; exact k3) k7 (by unfold srM; simp only [hs_n, ne_eq, Nat.reduceEqDiff, not_false_eq_true]; exact k4) k8 ?_
      have hN := kN tr2 be2 b2 w2 (fun k hk => by
        rw [h1 k (by omega), upd_n (by omega)]
        exact htr k hk) h2 h3 (h4.mono (fun n _ hv => by
        rcases hv with hv | ⟨hv, hx2⟩
        · exact Or.inl (Or.inl (gt_ux.mpr (Or.inl hv)))
        · by_cases e : n 0 = x
          · exact Or.inl (Or.inr (ext_ux.mpr ⟨hv, e⟩))
          · exact Or.inl (Or.inl (gt_ux.mpr (Or.inr ⟨hv, by omega⟩)))))
      rw [← srM_fin (tr := tr) (be := be) (w := w) (x1 := upd tr 0 (nI x)) (m1 := upd (μ 43) (S 0) (μ 43 (S 0) - nI x)) (r1 := usR (μ 44) (T 0) (nI x * μ 18 0) 8)] at hN
      rw [show nI x + -1 = nI x - 1 by rw [Int32.sub_eq_add_neg]]
      have e43 : srM (hs (hs (hs (srM μ tr be w) 46 (upd tr 0 (nI x))) 43 (upd (μ 43) (S 0) (μ 43 (S 0) - nI x))) 44 (usR (μ 44) (T 0) (nI x * μ 18 0) 8)) tr2 be2 w2 43 = upd (μ 43) (S 0) (μ 43 (S 0) - nI x) := by
        unfold srM
        simp only [hs_s, hs_n, ne_eq, Nat.reduceEqDiff, not_false_eq_true]
      have e44 : srM (hs (hs (hs (srM μ tr be w) 46 (upd tr 0 (nI x))) 43 (upd (μ 43) (S 0) (μ 43 (S 0) - nI x))) 44 (usR (μ 44) (T 0) (nI x * μ 18 0) 8)) tr2 be2 w2 44 = usR (μ 44) (T 0) (nI x * μ 18 0) 8 := by
        unfold srM
        simp only [hs_s, hs_n, ne_eq, Nat.reduceEqDiff, not_false_eq_true]
      have e18 : srM (hs (hs (hs (srM μ tr be w) 46 (upd tr 0 (nI x))) 43 (upd (μ 43) (S 0) (μ 43 (S 0) - nI x))) 44 (usR (μ 44) (T 0) (nI x * μ 18 0) 8)) tr2 be2 w2 18 = μ 18 := by
        unfold srM
        simp only [hs_n, ne_eq, Nat.reduceEqDiff, not_false_eq_true]
      rw [e43, e44, e18, upd_s, upd_upd, use_back1, upd_id, usR_back]
      exact hN _
  · rw [i_le, i_nI (by omega), i_nI (by omega)] at q
    omega
theorem q_search0 (h4 : hp 4 = 0) (hh : ∀ k, k < 4 → hp k = hp (k + 1) + P k * cc k) (hcc : ∀ n, pf F T S M R 4 n → ∀ k, k < 4 → n k ≤ cc k) (hn : SrC 110 P F T S M R hp 1) : SrC 109 P F T S M R hp 0 := by
  intro μ t b w RI RV hK hD ht htr hb hw hw5 hS h
  obtain ⟨k1, k2, k3, k4, k5, k6, k7, k8, k9⟩ := hK 0 (by omega)
  refine mm_in rfl (Nat.le_of_ble_eq_true rfl) ?_
  show mm_Rn hh_S 109 RI RV 0 [some (.ref 7), some (.ref 2), some (.int (nI 0)), some (.int (nI (wo P t 0))), none, none, none, none] [] μ
  (refine mm_run ok_109 (fun t => t == 36) 12 ?_; rw [lb_109_0, rb_109]; simp only [↓w_aload_0, ↓w_aload_1, ↓w_fall, ↓w_getf, ↓w_goto, ↓w_iadd, ↓w_iald, ↓w_iast, ↓w_ic_ge, ↓w_ic_lt, ↓w_ic_ne, ↓w_iconst, ↓w_iinc, ↓w_iload, ↓w_iload_2, ↓w_iload_3, ↓w_imul, ↓w_ineg, ↓w_istore, ↓w_vret, ↓li_0, ↓li_s, ↓lr_0, ↓lr_s, ↓gf_2_5, ↓gf_7_3, ↓gf_7_4, ↓gf_7_7, ↓rc_7, ↓ar_20, ↓ar_45, ↓ar_46, ↓w_c110, ↓w_c38, ↓w_c39, ↓w_c40, ↓wl_109_0, ↓wl_109_11, ↓wl_109_29, ↓wl_109_30, ↓wl_109_36, ↓wl_109_75, ↓wl_109_116, hs_wr, hs_cp, hs_s, hs_n, hs_hs, upd_s, upd_n, upd_upd, ne_eq, Nat.reduceEqDiff, c1_i, c1_r, c2_i, c2_r, ↓reduceIte, List.set_cons_zero, List.set_cons_succ, mm_cb, List.length_cons, List.length_nil, List.all_cons, List.all_nil, Nat.zero_add, Nat.reduceAdd, Nat.reduceLeDiff, Nat.zero_le, decide_true, Bool.and_self, Bool.and_true, true_and, and_true, forall_const, Bool.or_false, Bool.false_or, Bool.or_true, Bool.true_or, Bool.false_eq_true, Nat.reduceBEq, beq_self_eq_true, ha_11, ha_01, hb_10, hb_0x, imp_self, false_implies, not_true_eq_false, not_false_eq_true])
  refine ⟨fun _ => q_mostP (by omega) hK hD (fun c hc20 hc => ⟨fun _ => ?_, fun q => absurd q (by decide)⟩), fun q => absurd (by decide) q⟩
  have lp : ∀ y, y ≤ c + 1 → ∀ (tr be : Nat → Int32) (b1 : Nat → Nat) (w1 : Nat), (∀ k, k < 0 → tr k = nI (t k)) → (∀ k, k < 4 → be k = nI (b1 k)) → w1 ≤ 100000 → St P F T S M R (fun n => Gt 0 t n ∨ (Ext 0 t n ∧ y ≤ n 0)) b1 w1 → ∀ o7, mm_Rn hh_S 109 RI RV 36 [some (.ref 7), some (.ref 2), some (.int (nI 0)), some (.int (nI (wo P t 0))), some (.int (nI c)), some (.int 0), some (.int (nI y - 1)), o7] [] (srM μ tr be w1) := by
    intro y
    induction y with
    | zero =>
      intro hy tr be b1 w1 a1 a2 a3 a4 o7
      have g := h tr be b1 w1 (fun k hk => by rw [a1 k hk, htr k hk]) a2 a3 (a4.mono (fun n _ hv => Or.inl (hv.elim Or.inl (fun e => Or.inr ⟨e, Nat.zero_le _⟩))))
      (refine mm_run ok_109 (fun t => t == 36) 12 ?_; rw [lb_109_36, rb_109]; simp only [↓w_aload_0, ↓w_aload_1, ↓w_fall, ↓w_getf, ↓w_goto, ↓w_iadd, ↓w_iald, ↓w_iast, ↓w_ic_ge, ↓w_ic_lt, ↓w_ic_ne, ↓w_iconst, ↓w_iinc, ↓w_iload, ↓w_iload_2, ↓w_iload_3, ↓w_imul, ↓w_ineg, ↓w_istore, ↓w_vret, ↓li_0, ↓li_s, ↓lr_0, ↓lr_s, ↓gf_2_5, ↓gf_7_3, ↓gf_7_4, ↓gf_7_7, ↓rc_7, ↓ar_20, ↓ar_45, ↓ar_46, ↓w_c110, ↓w_c38, ↓w_c39, ↓w_c40, ↓wl_109_0, ↓wl_109_11, ↓wl_109_29, ↓wl_109_30, ↓wl_109_36, ↓wl_109_75, ↓wl_109_116, hs_wr, hs_cp, hs_s, hs_n, hs_hs, upd_s, upd_n, upd_upd, ne_eq, Nat.reduceEqDiff, c1_i, c1_r, c2_i, c2_r, ↓reduceIte, List.set_cons_zero, List.set_cons_succ, mm_cb, List.length_cons, List.length_nil, List.all_cons, List.all_nil, Nat.zero_add, Nat.reduceAdd, Nat.reduceLeDiff, Nat.zero_le, decide_true, Bool.and_self, Bool.and_true, true_and, and_true, forall_const, Bool.or_false, Bool.false_or, Bool.or_true, Bool.true_or, Bool.false_eq_true, Nat.reduceBEq, beq_self_eq_true, ha_11, ha_01, hb_10, hb_0x, imp_self, false_implies, not_true_eq_false, not_false_eq_true])
      exact ⟨fun _ => g, fun q => absurd (by decide) q⟩
    | succ x ih =>
      intro hy tr be b1 w1 a1 a2 a3 a4 o7
      rw [nI_pred]
      exact q_srB0 hn hK hD ht a1 a2 a3 hc20 hc (by omega) (nI_pos (by omega)) a4 (fun q => h tr be b1 w1 (fun k hk => by rw [a1 k hk, htr k hk]) a2 a3 (prune (by omega) h4 hh hcc a4 q)) (fun tr2 be2 b2 w2 c1 c2 c3 c4 o7 => ih (by omega) tr2 be2 b2 w2 c1 c2 c3 c4 o7) o7
  have := lp (c + 1) (Nat.le_refl _) (μ 46) (μ 47) b w htr hb hw5 (hS.mono (fun n hn2 hv => by
    rcases hv with hv | ⟨hv, hx⟩
    · exact Or.inl hv
    · have := mcP_le (by omega) k8 (fun h => (k9 h).1) k7 hc hn2 hv
      omega)) none
  rw [srM_id hw, nI_pred] at this
  exact this
end PL4
