/-! the class's planner: prepare, update -/
def RZ (Z : Nat → Nat) (a : Nat) : Nat := a % 2 * Z 0 + a / 2 % 2 * Z 1 + a / 4 % 2 * Z 2
def bz (a z : Nat) : Nat := a / 2 ^ z % 2
theorem bz_ok : ∀ a, a < 8 → ∀ z, z < 3 → (nI a >>> (nI z &&& 31)) &&& 1 = nI (bz a z) := by decide +kernel
def rz (Z : Nat → Nat) (a : Nat) : Nat → Nat
  | 0 => 0
  | z + 1 => rz Z a z + bz a z * Z z
theorem rz_3 {Z : Nat → Nat} {a : Nat} : rz Z a 3 = RZ Z a := by
  unfold RZ
  show 0 + bz a 0 * Z 0 + bz a 1 * Z 1 + bz a 2 * Z 2 = _
  unfold bz
  simp
theorem bz_le {a z : Nat} : bz a z ≤ 1 := by
  unfold bz
  omega
theorem rz_le {Z : Nat → Nat} {a : Nat} (h : ∀ z, z < 3 → Z z ≤ 300000) : ∀ z, z ≤ 3 → rz Z a z ≤ z * 300000
  | 0, _ => Nat.le_refl _
  | z + 1, hz => by
    have := rz_le (a := a) h z (by omega)
    have h1 := h z (by omega)
    have h2 : bz a z * Z z ≤ 1 * Z z := Nat.mul_le_mul_right _ bz_le
    have e : rz Z a (z + 1) = rz Z a z + bz a z * Z z := rfl
    omega
/-- the most of a kind if it is alone -/
def mc0 (F T S M R : Nat → Nat) (k c : Nat) : Prop := (F k = 0 → c = 0) ∧ (1 ≤ F k → ∀ x, x ≤ c ↔ mcO (F k) (M (S k)) R (T k) 8 x)
theorem mc0_le {F T S M R n : Nat → Nat} {k c : Nat} (hk : k < 4) (hS : S k < 2) (hT1 : 1 ≤ F k → 1 ≤ T k) (hc : mc0 F T S M R k c) (hn : pf F T S M R 4 n) : n k ≤ c := by
  by_cases h0 : F k = 0
  · rw [(hn.1 k hk).2 h0]; exact Nat.zero_le _
  · have h1 : 1 ≤ F k := by omega
    rw [hc.2 h1]
    refine ⟨(hn.1 k hk).1, ?_, fun a a1 a2 a3 => ?_⟩
    · have h2 := hn.2.1 (S k) hS
      have h3 : uM S n (S k) (k + 1) ≤ uM S n (S k) 4 := uM_mono (by omega)
      have e : uM S n (S k) (k + 1) = uM S n (S k) k + (if S k = S k then n k else 0) := rfl
      rw [if_pos rfl] at e
      omega
    · have h2 := hn.2.2 a (by have := hT1 h1; omega) (by omega)
      have h3 : uR F T n a (k + 1) ≤ uR F T n a 4 := uR_mono (by omega)
      have e : uR F T n a (k + 1) = uR F T n a k + (if sup a (T k) = true then n k * F k else 0) := rfl
      rw [if_pos a3] at e
      omega
theorem mcP_mc0 {F T S M R t : Nat → Nat} {k c : Nat} (h : (F k = 0 → c = 0) ∧ (1 ≤ F k → ∀ x, x ≤ c ↔ mcO (F k) (M (S k)) R (T k) 8 x)) : mc0 F T S M R k c := h
section PL5
variable {μ : mm_M} {RI : Int32 → mm_M → Prop} {RV : mm_M → Prop} {P F T S M : Nat → Nat}
theorem q_most0 {R : Nat → Nat} {k : Nat} (hk : k < 4) (hK : KD μ P F T S) (hM : ∀ s, s < 2 → μ 43 s = nI (M s) ∧ M s ≤ 1000000) (hR : ∀ a, 1 ≤ a → a ≤ 7 → μ 44 a = nI (R a) ∧ R a ≤ 1000000) (h : ∀ c, c ≤ 20 → mc0 F T S M R k c → RI (nI c) μ) : mm_Cs hh_S 39 [.ref 7, .ref 2, .int (nI k)] μ RI RV := by
  obtain ⟨k1, k2, k3, k4, k5, k6, k7, k8, k9⟩ := hK k hk
  exact q_mostCases (r := R) hk k2 k6 k3 k7 (fun h => (k9 h).1) k4 k8 (hM (S k) k8).1 (hM (S k) k8).2 hR (fun h0 => h 0 (by omega) ⟨fun _ => rfl, fun h1 => by omega⟩) (fun h1 c hc => h c ((hc c).mp (Nat.le_refl c)).1 ⟨fun h0 => by omega, fun _ => hc⟩)
theorem q_prep57 {R : Nat → Nat} (hK : KD μ P F T S) (hM : ∀ s, s < 2 → μ 43 s = nI (M s) ∧ M s ≤ 1000000) (hR : ∀ a, 1 ≤ a → a ≤ 7 → μ 44 a = nI (R a) ∧ R a ≤ 1000000) (h4 : μ 45 4 = 0) (h : ∀ (hop : Nat → Int32) (hp cc : Nat → Nat), (∀ k, k ≤ 4 → hop k = nI (hp k) ∧ hp k ≤ 100000) → hp 4 = 0 → (∀ k, k < 4 → hp k = hp (k + 1) + P k * cc k) → (∀ k, k < 4 → mc0 F T S M R k (cc k)) → RV (hs (hs μ 45 hop) 7 (upd (μ 7) 7 0))) : ∀ o3, mm_Rn hh_S 37 RI RV 57 [some (.ref 7), some (.ref 2), some (.int 3), o3] [] μ := by
  have lp : ∀ y, y ≤ 4 → ∀ (hop : Nat → Int32) (hp cc : Nat → Nat), (∀ k, y ≤ k → k ≤ 4 → hop k = nI (hp k) ∧ hp k ≤ (4 - k) * 1980) → hp 4 = 0 → (∀ k, y ≤ k → k < 4 → hp k = hp (k + 1) + P k * cc k) → (∀ k, y ≤ k → k < 4 → mc0 F T S M R k (cc k)) → ∀ o3, mm_Rn hh_S 37 RI RV 57 [some (.ref 7), some (.ref 2), some (.int (nI y - 1)), o3] [] (hs μ 45 hop) := by
    intro y
    induction y with
    | zero =>
      intro hy hop hp cc a1 a2 a3 a4 o3
      have g := h hop hp cc (fun k hk => ⟨(a1 k (by omega) hk).1, by have := (a1 k (by omega) hk).2; omega⟩) a2 (fun k hk => a3 k (by omega) hk) (fun k hk => a4 k (by omega) hk)
      (refine mm_run ok_37 (fun t => t == 57) 12 ?_; rw [lb_37_57, rb_37]; simp only [↓w_aload_0, ↓w_aload_1, ↓w_bipush, ↓w_dup2, ↓w_fall, ↓w_getf, ↓w_goto, ↓w_iadd, ↓w_iald, ↓w_iand, ↓w_iast, ↓w_ic_ge, ↓w_ic_gt, ↓w_iconst, ↓w_if_lt, ↓w_iinc, ↓w_iload_2, ↓w_iload_3, ↓w_imul, ↓w_ishr, ↓w_istore_2, ↓w_istore_3, ↓w_putf, ↓w_vret, ↓li_0, ↓li_s, ↓lr_0, ↓lr_s, ↓gf_2_5, ↓gf_7_0, ↓gf_7_2, ↓gf_7_3, ↓pf_7_7, ↓rc_7, ↓ar_20, ↓ar_42, ↓ar_44, ↓ar_45, ↓w_c39, ↓wl_37_0, ↓wl_37_2, ↓wl_37_17, ↓wl_37_49, ↓wl_37_55, ↓wl_37_57, ↓wl_37_95, hs_wr, hs_cp, hs_s, hs_n, hs_hs, upd_s, upd_n, upd_upd, ne_eq, Nat.reduceEqDiff, c1_i, c1_r, c2_i, c2_r, ↓reduceIte, List.set_cons_zero, List.set_cons_succ, mm_cb, List.length_cons, List.length_nil, List.all_cons, List.all_nil, Nat.zero_add, Nat.reduceAdd, Nat.reduceLeDiff, Nat.zero_le, decide_true, Bool.and_self, Bool.and_true, true_and, and_true, forall_const, Bool.or_false, Bool.false_or, Bool.or_true, Bool.true_or, Bool.false_eq_true, Nat.reduceBEq, beq_self_eq_true, ha_11, ha_01, hb_10, hb_0x, imp_self, false_implies, not_true_eq_false, not_false_eq_true])
      exact ⟨fun _ => g, fun q => absurd (by decide) q⟩
    | succ x ih =>
      intro hy hop hp cc a1 a2 a3 a4 o3
      obtain ⟨k1, k2, k3, k4, k5, k6, k7, k8, k9⟩ := hK x (by omega)
      rw [nI_pred]
      (refine mm_run ok_37 (fun t => t == 57) 12 ?_; rw [lb_37_57, rb_37]; simp only [↓w_aload_0, ↓w_aload_1, ↓w_bipush, ↓w_dup2, ↓w_fall, ↓w_getf, ↓w_goto, ↓w_iadd, ↓w_iald, ↓w_iand, ↓w_iast, ↓w_ic_ge, ↓w_ic_gt, ↓w_iconst, ↓w_if_lt, ↓w_iinc, ↓w_iload_2, ↓w_iload_3, ↓w_imul, ↓w_ishr, ↓w_istore_2, ↓w_istore_3, ↓w_putf, ↓w_vret, ↓li_0, ↓li_s, ↓lr_0, ↓lr_s, ↓gf_2_5, ↓gf_7_0, ↓gf_7_2, ↓gf_7_3, ↓pf_7_7, ↓rc_7, ↓ar_20, ↓ar_42, ↓ar_44, ↓ar_45, ↓w_c39, ↓wl_37_0, ↓wl_37_2, ↓wl_37_17, ↓wl_37_49, ↓wl_37_55, ↓wl_37_57, ↓wl_37_95, hs_wr, hs_cp, hs_s, hs_n, hs_hs, upd_s, upd_n, upd_upd, ne_eq, Nat.reduceEqDiff, c1_i, c1_r, c2_i, c2_r, ↓reduceIte, List.set_cons_zero, List.set_cons_succ, mm_cb, List.length_cons, List.length_nil, List.all_cons, List.all_nil, Nat.zero_add, Nat.reduceAdd, Nat.reduceLeDiff, Nat.zero_le, decide_true, Bool.and_self, Bool.and_true, true_and, and_true, forall_const, Bool.or_false, Bool.false_or, Bool.or_true, Bool.true_or, Bool.false_eq_true, Nat.reduceBEq, beq_self_eq_true, ha_11, ha_01, hb_10, hb_0x, imp_self, false_implies, not_true_eq_false, not_false_eq_true])
      rw [nI_1, nI_cl (show x < 2147483648 by omega), nI_cl (show x + 1 < 2147483648 by omega)]
      refine ⟨fun q => absurd q (nI_pos (by omega)), fun _ => ⟨in_nI (by omega) (by omega), in_nI (by omega) (by omega), ?_⟩⟩
      refine q_most0 (R := R) (by omega) (KD_of (by simp only [hs_n, ne_eq, Nat.reduceEqDiff, not_false_eq_true]) (by simp only [hs_n, ne_eq, Nat.reduceEqDiff, not_false_eq_true]) (by simp only [hs_n, ne_eq, Nat.reduceEqDiff, not_false_eq_true]) (by simp only [hs_n, ne_eq, Nat.reduceEqDiff, not_false_eq_true]) hK) (by simp only [hs_n, ne_eq, Nat.reduceEqDiff, not_false_eq_true]; exact hM) (by simp only [hs_n, ne_eq, Nat.reduceEqDiff, not_false_eq_true]; exact hR) (fun c hc20 hc => ⟨in_nI (by omega) (by omega), ?_⟩)
      have b1 := a1 (x + 1) (by omega) (by omega)
      have hpc : P x * c ≤ 99 * 20 := Nat.mul_le_mul k5 hc20
      rw [show nI x + -1 = nI x - 1 by rw [Int32.sub_eq_add_neg], hs_s, hs_hs, b1.1, k1, i_mulN, i_addN]
      refine ih (by omega) _ (ux hp x (hp (x + 1) + P x * c)) (ux cc x c) (fun k hk1 hk2 => ?_) ?_ (fun k hk1 hk2 => ?_) (fun k hk1 hk2 => ?_) _
      · by_cases e : k = x
        · subst e
          rw [upd_s, ux_s]
          refine ⟨rfl, ?_⟩
          have := b1.2
          omega
        · rw [upd_n e]
          unfold ux
          rw [if_neg e]
          exact a1 k (by omega) hk2
      · unfold ux
        rw [if_neg (by omega)]
        exact a2
      · by_cases e : k = x
        · subst e
          rw [ux_s, ux_s]
          unfold ux
          rw [if_neg (by omega)]
        · unfold ux
          rw [if_neg e, if_neg e, if_neg (by omega)]
          exact a3 k (by omega) hk2
      · by_cases e : k = x
        · subst e
          rw [ux_s]
          exact hc
        · unfold ux
          rw [if_neg e]
          exact a4 k (by omega) hk2
  intro o3
  have := lp 4 (Nat.le_refl 4) (μ 45) (fun _ => 0) (fun _ => 0) (fun k h1 h2 => by
    rw [show k = 4 by omega, h4]
    exact ⟨rfl, by omega⟩) rfl (fun k h1 h2 => by omega) (fun k h1 h2 => by omega) o3
  rw [hs_id] at this
  exact this
theorem q_prepare {Z : Nat → Nat} (hK : KD μ P F T S) (hM : ∀ s, s < 2 → μ 43 s = nI (M s) ∧ M s ≤ 1000000) (hZ : ∀ z, z < 3 → μ 42 z = nI (Z z) ∧ Z z ≤ 300000) (h4 : μ 45 4 = 0) (h : ∀ (rm hop : Nat → Int32) (hp cc : Nat → Nat), (∀ a, 1 ≤ a → a ≤ 7 → rm a = nI (RZ Z a) ∧ RZ Z a ≤ 1000000) → (∀ k, k ≤ 4 → hop k = nI (hp k) ∧ hp k ≤ 100000) → hp 4 = 0 → (∀ k, k < 4 → hp k = hp (k + 1) + P k * cc k) → (∀ k, k < 4 → mc0 F T S M (RZ Z) k (cc k)) → RV (hs (hs (hs μ 44 rm) 45 hop) 7 (upd (μ 7) 7 0))) : mm_Cs hh_S 37 [.ref 7, .ref 2] μ RI RV := by
  have hZ2 : ∀ z, z < 3 → Z z ≤ 300000 := fun z hz => (hZ z hz).2
  have rzb : ∀ a, RZ Z a ≤ 1000000 := fun a => by
    have := rz_le (a := a) hZ2 3 (Nat.le_refl 3)
    rw [rz_3] at this
    omega
  have lp := up_ind (n := 8) (P := fun i => 1 ≤ i → ∀ (rm : Nat → Int32), (∀ a, 1 ≤ a → a < i → rm a = nI (RZ Z a)) → ∀ o3, mm_Rn hh_S 37 RI RV 2 [some (.ref 7), some (.ref 2), some (.int (nI i)), o3] [] (hs μ 44 rm)) (fun i hi ih => by
    intro hi1 rm hrm o3
    have ih := ih (i + 1) (by omega)
    (refine mm_run ok_37 (fun t => t == 2 || t == 17 || t == 57) 12 ?_; rw [lb_37_2, rb_37]; simp only [↓w_aload_0, ↓w_aload_1, ↓w_bipush, ↓w_dup2, ↓w_fall, ↓w_getf, ↓w_goto, ↓w_iadd, ↓w_iald, ↓w_iand, ↓w_iast, ↓w_ic_ge, ↓w_ic_gt, ↓w_iconst, ↓w_if_lt, ↓w_iinc, ↓w_iload_2, ↓w_iload_3, ↓w_imul, ↓w_ishr, ↓w_istore_2, ↓w_istore_3, ↓w_putf, ↓w_vret, ↓li_0, ↓li_s, ↓lr_0, ↓lr_s, ↓gf_2_5, ↓gf_7_0, ↓gf_7_2, ↓gf_7_3, ↓pf_7_7, ↓rc_7, ↓ar_20, ↓ar_42, ↓ar_44, ↓ar_45, ↓w_c39, ↓wl_37_0, ↓wl_37_2, ↓wl_37_17, ↓wl_37_49, ↓wl_37_55, ↓wl_37_57, ↓wl_37_95, hs_wr, hs_cp, hs_s, hs_n, hs_hs, upd_s, upd_n, upd_upd, ne_eq, Nat.reduceEqDiff, c1_i, c1_r, c2_i, c2_r, ↓reduceIte, List.set_cons_zero, List.set_cons_succ, mm_cb, List.length_cons, List.length_nil, List.all_cons, List.all_nil, Nat.zero_add, Nat.reduceAdd, Nat.reduceLeDiff, Nat.zero_le, decide_true, Bool.and_self, Bool.and_true, true_and, and_true, forall_const, Bool.or_false, Bool.false_or, Bool.or_true, Bool.true_or, Bool.false_eq_true, Nat.reduceBEq, beq_self_eq_true, ha_11, ha_01, hb_10, hb_0x, imp_self, false_implies, not_true_eq_false, not_false_eq_true])
    rw [nI_cl (show i < 2147483648 by omega), show (7 : Int32) = nI 7 from rfl]
    refine ⟨fun q => ?_, fun q => ?_⟩
    · have hi8 : i = 8 := by
        rw [i_lt, i_nI (by omega), i_nI (by omega)] at q
        omega
      subst hi8
      refine q_prep57 (M := M) (R := RZ Z) (KD_of (by simp only [hs_n, ne_eq, Nat.reduceEqDiff, not_false_eq_true]) (by simp only [hs_n, ne_eq, Nat.reduceEqDiff, not_false_eq_true]) (by simp only [hs_n, ne_eq, Nat.reduceEqDiff, not_false_eq_true]) (by simp only [hs_n, ne_eq, Nat.reduceEqDiff, not_false_eq_true]) hK) (by simp only [hs_n, ne_eq, Nat.reduceEqDiff, not_false_eq_true]; exact hM) (fun a h1 h2 => ?_) (by simp only [hs_n, ne_eq, Nat.reduceEqDiff, not_false_eq_true]; exact h4) (fun hop hp cc g1 g2 g3 g4 => ?_) _
      · rw [hs_s]
        exact ⟨hrm a h1 (by omega), rzb a⟩
      · have := h rm hop hp cc (fun a h1 h2 => ⟨hrm a h1 (by omega), rzb a⟩) g1 g2 g3 g4
        simp only [hs_n, ne_eq, Nat.reduceEqDiff, not_false_eq_true]
        exact this
    · have hi7 : i < 8 := by
        rw [i_lt, i_nI (by omega), i_nI (by omega)] at q
        omega
      have ih := ih (by omega) (by omega)
      refine ⟨in_nI (by omega) (by omega), ?_⟩
      have lq := up_ind (n := 3) (P := fun z => ∀ (rm2 : Nat → Int32), (∀ a, 1 ≤ a → a < i → rm2 a = nI (RZ Z a)) → rm2 i = nI (rz Z i z) → mm_Rn hh_S 37 RI RV 17 [some (.ref 7), some (.ref 2), some (.int (nI i)), some (.int (nI z))] [] (hs μ 44 rm2)) (fun z hz ih2 => by
        intro rm2 hrm2 e2
        have ih2 := ih2 (z + 1) (by omega)
        (refine mm_run ok_37 (fun t => t == 2 || t == 17 || t == 57) 12 ?_; rw [lb_37_17, rb_37]; simp only [↓w_aload_0, ↓w_aload_1, ↓w_bipush, ↓w_dup2, ↓w_fall, ↓w_getf, ↓w_goto, ↓w_iadd, ↓w_iald, ↓w_iand, ↓w_iast, ↓w_ic_ge, ↓w_ic_gt, ↓w_iconst, ↓w_if_lt, ↓w_iinc, ↓w_iload_2, ↓w_iload_3, ↓w_imul, ↓w_ishr, ↓w_istore_2, ↓w_istore_3, ↓w_putf, ↓w_vret, ↓li_0, ↓li_s, ↓lr_0, ↓lr_s, ↓gf_2_5, ↓gf_7_0, ↓gf_7_2, ↓gf_7_3, ↓pf_7_7, ↓rc_7, ↓ar_20, ↓ar_42, ↓ar_44, ↓ar_45, ↓w_c39, ↓wl_37_0, ↓wl_37_2, ↓wl_37_17, ↓wl_37_49, ↓wl_37_55, ↓wl_37_57, ↓wl_37_95, hs_wr, hs_cp, hs_s, hs_n, hs_hs, upd_s, upd_n, upd_upd, ne_eq, Nat.reduceEqDiff, c1_i, c1_r, c2_i, c2_r, ↓reduceIte, List.set_cons_zero, List.set_cons_succ, mm_cb, List.length_cons, List.length_nil, List.all_cons, List.all_nil, Nat.zero_add, Nat.reduceAdd, Nat.reduceLeDiff, Nat.zero_le, decide_true, Bool.and_self, Bool.and_true, true_and, and_true, forall_const, Bool.or_false, Bool.false_or, Bool.or_true, Bool.true_or, Bool.false_eq_true, Nat.reduceBEq, beq_self_eq_true, ha_11, ha_01, hb_10, hb_0x, imp_self, false_implies, not_true_eq_false, not_false_eq_true])
        rw [nI_cl (show i < 2147483648 by omega), nI_cl (show z < 2147483648 by omega), nI_1, nI_1]
        rw [show (3 : Int32) = nI 3 from rfl]
        refine ⟨fun q => ?_, fun q => ?_⟩
        · have := le_nI (by omega) (by omega) q
          have ez : z = 3 := by omega
          subst ez
          refine ih rm2 (fun a h1 h2 => ?_) _
          by_cases e : a = i
          · subst e
            rw [e2, rz_3]
          · exact hrm2 a h1 (by omega)
        · have := nle_nI (by omega) (by omega) q
          refine ⟨in_nI (by omega) (by omega), in_nI (by omega) (by omega), in_nI (by omega) (by omega), ?_⟩
          rw [bz_ok i hi7 z (by omega), (hZ z (by omega)).1, i_mulN, e2, i_addN]
          exact ih2 (by omega) _ (fun a h1 h2 => by rw [upd_n (by omega)]; exact hrm2 a h1 h2) (by rw [upd_s]; rfl))
      exact lq 0 (Nat.zero_le _) (upd rm i 0) (fun a h1 h2 => by rw [upd_n (by omega)]; exact hrm a h1 h2) (by rw [upd_s]; rfl))
  refine mm_in rfl (Nat.le_of_ble_eq_true rfl) ?_
  show mm_Rn hh_S 37 RI RV 0 [some (.ref 7), some (.ref 2), none, none] [] μ
  (refine mm_run ok_37 (fun t => t == 2 || t == 17 || t == 57) 12 ?_; rw [lb_37_0, rb_37]; simp only [↓w_aload_0, ↓w_aload_1, ↓w_bipush, ↓w_dup2, ↓w_fall, ↓w_getf, ↓w_goto, ↓w_iadd, ↓w_iald, ↓w_iand, ↓w_iast, ↓w_ic_ge, ↓w_ic_gt, ↓w_iconst, ↓w_if_lt, ↓w_iinc, ↓w_iload_2, ↓w_iload_3, ↓w_imul, ↓w_ishr, ↓w_istore_2, ↓w_istore_3, ↓w_putf, ↓w_vret, ↓li_0, ↓li_s, ↓lr_0, ↓lr_s, ↓gf_2_5, ↓gf_7_0, ↓gf_7_2, ↓gf_7_3, ↓pf_7_7, ↓rc_7, ↓ar_20, ↓ar_42, ↓ar_44, ↓ar_45, ↓w_c39, ↓wl_37_0, ↓wl_37_2, ↓wl_37_17, ↓wl_37_49, ↓wl_37_55, ↓wl_37_57, ↓wl_37_95, hs_wr, hs_cp, hs_s, hs_n, hs_hs, upd_s, upd_n, upd_upd, ne_eq, Nat.reduceEqDiff, c1_i, c1_r, c2_i, c2_r, ↓reduceIte, List.set_cons_zero, List.set_cons_succ, mm_cb, List.length_cons, List.length_nil, List.all_cons, List.all_nil, Nat.zero_add, Nat.reduceAdd, Nat.reduceLeDiff, Nat.zero_le, decide_true, Bool.and_self, Bool.and_true, true_and, and_true, forall_const, Bool.or_false, Bool.false_or, Bool.or_true, Bool.true_or, Bool.false_eq_true, Nat.reduceBEq, beq_self_eq_true, ha_11, ha_01, hb_10, hb_0x, imp_self, false_implies, not_true_eq_false, not_false_eq_true])
  have := lp 1 (by omega) (Nat.le_refl 1) (μ 44) (fun a h1 h2 => by omega) none
  rw [hs_id] at this
  exact this
end PL5
