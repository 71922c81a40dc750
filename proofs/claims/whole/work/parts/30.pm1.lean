/-! the reference's planner: canBe -/
def KM (μ : mm_M) (P F T S : Nat → Nat) : Prop := ∀ k, k < 4 → μ 55 k = nI (P k) ∧ μ 54 k / 1000 = nI (T k) ∧ μ 54 k / 100 - μ 54 k / 100 / 10 * 10 = nI (S k) ∧ μ 54 k / 10 - μ 54 k / 10 / 10 * 10 = nI (F k) ∧ P k ≤ 99 ∧ F k ≤ 9 ∧ T k ≤ 7 ∧ S k < 2 ∧ (1 ≤ F k ↔ 1 ≤ P k)
theorem sup_m : ∀ a, a < 8 → ∀ T, T < 8 → (nI T &&& (nI a ^^^ -1) = 0 ↔ sup a T = true) := by decide +kernel
theorem bz_m : ∀ a, a < 8 → ∀ z, z < 3 → ((nI a >>> (nI z &&& 31)) &&& 1 = 1 ↔ bz a z = 1) := by decide +kernel
theorem le0_nI {a : Nat} (h : a < 2147483648) : nI a ≤ 0 ↔ a = 0 := by
  rw [i_le, i_nI h, i_0]
  omega
theorem uM_b {S t : Nat → Nat} {s : Nat} (ht : ∀ k, k < 4 → t k ≤ 20) : ∀ j, j ≤ 4 → uM S t s j ≤ j * 20
  | 0, _ => Nat.le_refl _
  | j + 1, h => by
    have := uM_b (S := S) (s := s) ht j (by omega)
    have h1 := ht j (by omega)
    have e : uM S t s (j + 1) = uM S t s j + (if S j = s then t j else 0) := rfl
    rw [e]
    split <;> omega
theorem uR_b {F T t : Nat → Nat} {a : Nat} (ht : ∀ k, k < 4 → t k ≤ 20) (hF : ∀ k, k < 4 → F k ≤ 9) : ∀ j, j ≤ 4 → uR F T t a j ≤ j * 180
  | 0, _ => Nat.le_refl _
  | j + 1, h => by
    have := uR_b (T := T) (a := a) ht hF j (by omega)
    have h1 : t j * F j ≤ 20 * 9 := Nat.mul_le_mul (ht j (by omega)) (hF j (by omega))
    have e : uR F T t a (j + 1) = uR F T t a j + (if sup a (T j) = true then t j * F j else 0) := rfl
    rw [e]
    split <;> omega
section PM1
variable {μ : mm_M} {RI : Int32 → mm_M → Prop} {RV : mm_M → Prop} {P F T S M Z t : Nat → Nat}
theorem r_canBe (hK : KM μ P F T S) (ht : ∀ k, k < 4 → μ 76 k = nI (t k) ∧ t k ≤ 20 ∧ (F k = 0 → t k = 0)) (hM : ∀ s, s < 2 → μ 56 s = nI (M s) ∧ M s ≤ 1000000) (hZ : ∀ z, z < 3 → μ 75 z = nI (Z z) ∧ Z z ≤ 300000) (h1 : pf F T S M (RZ Z) 4 t → RI 1 μ) (h0 : ¬ pf F T S M (RZ Z) 4 t → RI 0 μ) : mm_Cs hh_S 93 [.ref 48] μ RI RV := by
  have t20 : ∀ k, k < 4 → t k ≤ 20 := fun k hk => (ht k hk).2.1
  have F9 : ∀ k, k < 4 → F k ≤ 9 := fun k hk => (hK k hk).2.2.2.2.2.1
  have hZ2 : ∀ z, z < 3 → Z z ≤ 300000 := fun z hz => (hZ z hz).2
  have lpR := up_ind (n := 8) (P := fun a => 1 ≤ a → (∀ s, s < 2 → uM S t s 4 ≤ M s) → (∀ c, 1 ≤ c → c < a → uR F T t c 4 ≤ RZ Z c) → ∀ o2 o3 : Int32, mm_Rn hh_S 93 RI RV 73 [some (.ref 48), some (.int (nI a)), some (.int o2), some (.int o3)] [] μ) (fun a ha ih => by
    intro ha1 gM gR o2 o3
    have ih := ih (a + 1) (by omega)
    (refine mm_run ok_93 (fun t => t == 83) 12 ?_; rw [lb_93_73, rb_93]; simp only [↓w_aload_0, ↓w_bipush, ↓w_fall, ↓w_getf, ↓w_goto, ↓w_iadd, ↓w_iald, ↓w_iand, ↓w_ic_ge, ↓w_ic_le, ↓w_ic_ne, ↓w_iconst, ↓w_idiv, ↓w_if_le, ↓w_if_ne, ↓w_iinc, ↓w_iload_1, ↓w_iload_2, ↓w_iload_3, ↓w_imul, ↓w_iret, ↓w_ishr, ↓w_istore_1, ↓w_istore_2, ↓w_istore_3, ↓w_isub, ↓w_ixor, ↓w_sipush, ↓li_0, ↓li_s, ↓lr_0, ↓lr_s, ↓gf_48_10, ↓gf_48_35, ↓gf_48_36, ↓gf_48_8, ↓gf_48_9, ↓rc_48, ↓ar_54, ↓ar_55, ↓ar_56, ↓ar_75, ↓ar_76, ↓w_c79, ↓w_c80, ↓wl_93_0, ↓wl_93_2, ↓wl_93_11, ↓wl_93_44, ↓wl_93_45, ↓wl_93_53, ↓wl_93_65, ↓wl_93_71, ↓wl_93_73, ↓wl_93_83, ↓wl_93_121, ↓wl_93_122, ↓wl_93_130, ↓wl_93_132, ↓wl_93_156, ↓wl_93_157, ↓wl_93_165, ↓wl_93_171, ↓wl_93_177, hs_wr, hs_cp, hs_s, hs_n, hs_hs, upd_s, upd_n, upd_upd, ne_eq, Nat.reduceEqDiff, c1_i, c1_r, c2_i, c2_r, ↓reduceIte, List.set_cons_zero, List.set_cons_succ, mm_cb, List.length_cons, List.length_nil, List.all_cons, List.all_nil, Nat.zero_add, Nat.reduceAdd, Nat.reduceLeDiff, Nat.zero_le, decide_true, Bool.and_self, Bool.and_true, true_and, and_true, forall_const, Bool.or_false, Bool.false_or, Bool.or_true, Bool.true_or, Bool.false_eq_true, Nat.reduceBEq, beq_self_eq_true, ha_11, ha_01, hb_10, hb_0x, imp_self, false_implies, not_true_eq_false, not_false_eq_true])
    rw [show (8 : Int32) = nI 8 from rfl]
    refine ⟨fun q => ?_, fun q => ?_⟩
    · have := le_nI (by omega) (by omega) q
      exact h1 ⟨fun k hk => (ht k hk).2, gM, fun c h1 h2 => gR c h1 (by omega)⟩
    · have ha8 := nle_nI (by omega) (by omega) q
      have ih := ih (by omega) (by omega) gM
      have b4 := uR_b (T := T) (a := a) t20 F9 4 (Nat.le_refl 4)
      have lz := up_ind (n := 3) (P := fun z => mm_Rn hh_S 93 RI RV 132 [some (.ref 48), some (.int (nI a)), some (.int (nI (uR F T t a 4) - nI (rz Z a z))), some (.int (nI z))] [] μ) (fun z hz ih2 => by
        have ih2 := ih2 (z + 1) (by omega)
        have bZ := rz_le (a := a) hZ2 3 (Nat.le_refl 3)
        (refine mm_run ok_93 (fun t => t == 132 || t == 73) 12 ?_; rw [lb_93_132, rb_93]; simp only [↓w_aload_0, ↓w_bipush, ↓w_fall, ↓w_getf, ↓w_goto, ↓w_iadd, ↓w_iald, ↓w_iand, ↓w_ic_ge, ↓w_ic_le, ↓w_ic_ne, ↓w_iconst, ↓w_idiv, ↓w_if_le, ↓w_if_ne, ↓w_iinc, ↓w_iload_1, ↓w_iload_2, ↓w_iload_3, ↓w_imul, ↓w_iret, ↓w_ishr, ↓w_istore_1, ↓w_istore_2, ↓w_istore_3, ↓w_isub, ↓w_ixor, ↓w_sipush, ↓li_0, ↓li_s, ↓lr_0, ↓lr_s, ↓gf_48_10, ↓gf_48_35, ↓gf_48_36, ↓gf_48_8, ↓gf_48_9, ↓rc_48, ↓ar_54, ↓ar_55, ↓ar_56, ↓ar_75, ↓ar_76, ↓w_c79, ↓w_c80, ↓wl_93_0, ↓wl_93_2, ↓wl_93_11, ↓wl_93_44, ↓wl_93_45, ↓wl_93_53, ↓wl_93_65, ↓wl_93_71, ↓wl_93_73, ↓wl_93_83, ↓wl_93_121, ↓wl_93_122, ↓wl_93_130, ↓wl_93_132, ↓wl_93_156, ↓wl_93_157, ↓wl_93_165, ↓wl_93_171, ↓wl_93_177, hs_wr, hs_cp, hs_s, hs_n, hs_hs, upd_s, upd_n, upd_upd, ne_eq, Nat.reduceEqDiff, c1_i, c1_r, c2_i, c2_r, ↓reduceIte, List.set_cons_zero, List.set_cons_succ, mm_cb, List.length_cons, List.length_nil, List.all_cons, List.all_nil, Nat.zero_add, Nat.reduceAdd, Nat.reduceLeDiff, Nat.zero_le, decide_true, Bool.and_self, Bool.and_true, true_and, and_true, forall_const, Bool.or_false, Bool.false_or, Bool.or_true, Bool.true_or, Bool.false_eq_true, Nat.reduceBEq, beq_self_eq_true, ha_11, ha_01, hb_10, hb_0x, imp_self, false_implies, not_true_eq_false, not_false_eq_true])
        rw [nI_1, nI_1, nI_cl (show z < 2147483648 by omega), show (3 : Int32) = nI 3 from rfl]
        refine ⟨fun q => ?_, fun q => ?_⟩
        · have ez : z = 3 := by
            have := le_nI (by omega) (by omega) q
            omega
          subst ez
          have key : nI (uR F T t a 4) - nI (rz Z a 3) ≤ 0 ↔ uR F T t a 4 ≤ RZ Z a := by
            rw [← rz_3, i_le, i_sub (by rw [i_nI (by omega), i_nI (by omega)]; omega) (by rw [i_nI (by omega), i_nI (by omega)]; omega), i_nI (by omega), i_nI (by omega), i_0]
            omega
          refine ⟨fun u => ih (fun c c1 c2 => ?_) _ _, fun u => h0 (fun hp => u (key.mpr (hp.2.2 a ha1 (by omega))))⟩
          by_cases e : c = a
          · subst e
            exact key.mp u
          · exact gR c c1 (by omega)
        · have hz3 := nle_nI (by omega) (by omega) q
          have hb := bz_m a ha8 z hz3
          have ih2 := ih2 (by omega)
          have er : rz Z a (z + 1) = rz Z a z + bz a z * Z z := rfl
          refine ⟨fun u => ?_, fun u => ⟨in_nI hz3 (by omega), ?_⟩⟩
          · have b0 : bz a z = 0 := by
              have := bz_le (a := a) (z := z)
              have h3 : ¬ bz a z = 1 := fun w => u (hb.mpr w)
              omega
            rw [er, b0, Nat.zero_mul, Nat.add_zero] at ih2
            rw [Int32.sub_zero]
            exact ih2
          · rw [er, hb.mp u, Nat.one_mul, ← i_addN] at ih2
            rw [(hZ z hz3).1]
            rw [show nI (uR F T t a 4) - nI (rz Z a z) - nI (Z z) = nI (uR F T t a 4) - (nI (rz Z a z) + nI (Z z)) by rw [Int32.sub_sub]]
            exact ih2)
      have lk := up_ind (n := 4) (P := fun k => mm_Rn hh_S 93 RI RV 83 [some (.ref 48), some (.int (nI a)), some (.int (nI (uR F T t a k))), some (.int (nI k))] [] μ) (fun k hk ih2 => by
        have ih2 := ih2 (k + 1) (by omega)
        (refine mm_run ok_93 (fun t => t == 132 || t == 83) 12 ?_; rw [lb_93_83, rb_93]; simp only [↓w_aload_0, ↓w_bipush, ↓w_fall, ↓w_getf, ↓w_goto, ↓w_iadd, ↓w_iald, ↓w_iand, ↓w_ic_ge, ↓w_ic_le, ↓w_ic_ne, ↓w_iconst, ↓w_idiv, ↓w_if_le, ↓w_if_ne, ↓w_iinc, ↓w_iload_1, ↓w_iload_2, ↓w_iload_3, ↓w_imul, ↓w_iret, ↓w_ishr, ↓w_istore_1, ↓w_istore_2, ↓w_istore_3, ↓w_isub, ↓w_ixor, ↓w_sipush, ↓li_0, ↓li_s, ↓lr_0, ↓lr_s, ↓gf_48_10, ↓gf_48_35, ↓gf_48_36, ↓gf_48_8, ↓gf_48_9, ↓rc_48, ↓ar_54, ↓ar_55, ↓ar_56, ↓ar_75, ↓ar_76, ↓w_c79, ↓w_c80, ↓wl_93_0, ↓wl_93_2, ↓wl_93_11, ↓wl_93_44, ↓wl_93_45, ↓wl_93_53, ↓wl_93_65, ↓wl_93_71, ↓wl_93_73, ↓wl_93_83, ↓wl_93_121, ↓wl_93_122, ↓wl_93_130, ↓wl_93_132, ↓wl_93_156, ↓wl_93_157, ↓wl_93_165, ↓wl_93_171, ↓wl_93_177, hs_wr, hs_cp, hs_s, hs_n, hs_hs, upd_s, upd_n, upd_upd, ne_eq, Nat.reduceEqDiff, c1_i, c1_r, c2_i, c2_r, ↓reduceIte, List.set_cons_zero, List.set_cons_succ, mm_cb, List.length_cons, List.length_nil, List.all_cons, List.all_nil, Nat.zero_add, Nat.reduceAdd, Nat.reduceLeDiff, Nat.zero_le, decide_true, Bool.and_self, Bool.and_true, true_and, and_true, forall_const, Bool.or_false, Bool.false_or, Bool.or_true, Bool.true_or, Bool.false_eq_true, Nat.reduceBEq, beq_self_eq_true, ha_11, ha_01, hb_10, hb_0x, imp_self, false_implies, not_true_eq_false, not_false_eq_true])
        rw [nI_1, nI_cl (show k < 2147483648 by omega), show (4 : Int32) = nI 4 from rfl]
        refine ⟨fun q => ?_, fun q => ?_⟩
        · have ek : k = 4 := by
            have := le_nI (by omega) (by omega) q
            omega
          subst ek
          have := lz 0 (Nat.zero_le _)
          rw [show nI (uR F T t a 4) - nI (rz Z a 0) = nI (uR F T t a 4) from Int32.sub_zero _] at this
          exact this
        · have hk4 := nle_nI (by omega) (by omega) q
          obtain ⟨k1, k2, k3, k4, k5, k6, k7, k8, k9⟩ := hK k hk4
          have hin := in_nI hk4 (show 4 < 2147483648 by omega)
          have hsp := sup_m a ha8 (T k) (by omega)
          have ih2 := ih2 (by omega)
          have er : uR F T t a (k + 1) = uR F T t a k + (if sup a (T k) = true then t k * F k else 0) := rfl
          rw [er] at ih2
          rw [k2, (ht k hk4).1]
          refine ⟨hin, by decide, fun u => ?_, fun u => ⟨hin, r_fishOf hk4 ?_⟩⟩
          · rw [if_neg (fun w => u (hsp.mpr w)), Nat.add_zero] at ih2
            rw [Int32.add_zero]
            exact ih2
          · rw [k4, i_mulN, i_addN]
            rw [if_pos (hsp.mp u)] at ih2
            exact ih2)
      exact lk 0 (Nat.zero_le _))
  have lpM := up_ind (n := 2) (P := fun s => (∀ c, c < s → uM S t c 4 ≤ M c) → ∀ o2 o3 : Option Value, (s = 0 → True) → (1 ≤ s → (∃ x, o2 = some (.int x)) ∧ ∃ x, o3 = some (.int x)) → mm_Rn hh_S 93 RI RV 2 [some (.ref 48), some (.int (nI s)), o2, o3] [] μ) (fun s hs ih => by
    intro gM o2 o3 _ ho
    have ih := ih (s + 1) (by omega)
    (refine mm_run ok_93 (fun t => t == 11 || t == 73) 12 ?_; rw [lb_93_2, rb_93]; simp only [↓w_aload_0, ↓w_bipush, ↓w_fall, ↓w_getf, ↓w_goto, ↓w_iadd, ↓w_iald, ↓w_iand, ↓w_ic_ge, ↓w_ic_le, ↓w_ic_ne, ↓w_iconst, ↓w_idiv, ↓w_if_le, ↓w_if_ne, ↓w_iinc, ↓w_iload_1, ↓w_iload_2, ↓w_iload_3, ↓w_imul, ↓w_iret, ↓w_ishr, ↓w_istore_1, ↓w_istore_2, ↓w_istore_3, ↓w_isub, ↓w_ixor, ↓w_sipush, ↓li_0, ↓li_s, ↓lr_0, ↓lr_s, ↓gf_48_10, ↓gf_48_35, ↓gf_48_36, ↓gf_48_8, ↓gf_48_9, ↓rc_48, ↓ar_54, ↓ar_55, ↓ar_56, ↓ar_75, ↓ar_76, ↓w_c79, ↓w_c80, ↓wl_93_0, ↓wl_93_2, ↓wl_93_11, ↓wl_93_44, ↓wl_93_45, ↓wl_93_53, ↓wl_93_65, ↓wl_93_71, ↓wl_93_73, ↓wl_93_83, ↓wl_93_121, ↓wl_93_122, ↓wl_93_130, ↓wl_93_132, ↓wl_93_156, ↓wl_93_157, ↓wl_93_165, ↓wl_93_171, ↓wl_93_177, hs_wr, hs_cp, hs_s, hs_n, hs_hs, upd_s, upd_n, upd_upd, ne_eq, Nat.reduceEqDiff, c1_i, c1_r, c2_i, c2_r, ↓reduceIte, List.set_cons_zero, List.set_cons_succ, mm_cb, List.length_cons, List.length_nil, List.all_cons, List.all_nil, Nat.zero_add, Nat.reduceAdd, Nat.reduceLeDiff, Nat.zero_le, decide_true, Bool.and_self, Bool.and_true, true_and, and_true, forall_const, Bool.or_false, Bool.false_or, Bool.or_true, Bool.true_or, Bool.false_eq_true, Nat.reduceBEq, beq_self_eq_true, ha_11, ha_01, hb_10, hb_0x, imp_self, false_implies, not_true_eq_false, not_false_eq_true])
    rw [show (2 : Int32) = nI 2 from rfl]
    refine ⟨fun q => ?_, fun q => ?_⟩
    · have es : s = 2 := by
        have := le_nI (by omega) (by omega) q
        omega
      subst es
      obtain ⟨⟨x, rfl⟩, y, rfl⟩ := ho (by omega)
      exact lpR 1 (by omega) (Nat.le_refl 1) gM (fun c h1 h2 => by omega) x y
    · have hs2 := nle_nI (by omega) (by omega) q
      have ih := ih (by omega)
      have b4 := uM_b (S := S) (s := s) t20 4 (Nat.le_refl 4)
      have lk := up_ind (n := 4) (P := fun k => mm_Rn hh_S 93 RI RV 11 [some (.ref 48), some (.int (nI s)), some (.int (nI (uM S t s k))), some (.int (nI k))] [] μ) (fun k hk ih2 => by
        have ih2 := ih2 (k + 1) (by omega)
        (refine mm_run ok_93 (fun t => t == 2 || t == 11) 12 ?_; rw [lb_93_11, rb_93]; simp only [↓w_aload_0, ↓w_bipush, ↓w_fall, ↓w_getf, ↓w_goto, ↓w_iadd, ↓w_iald, ↓w_iand, ↓w_ic_ge, ↓w_ic_le, ↓w_ic_ne, ↓w_iconst, ↓w_idiv, ↓w_if_le, ↓w_if_ne, ↓w_iinc, ↓w_iload_1, ↓w_iload_2, ↓w_iload_3, ↓w_imul, ↓w_iret, ↓w_ishr, ↓w_istore_1, ↓w_istore_2, ↓w_istore_3, ↓w_isub, ↓w_ixor, ↓w_sipush, ↓li_0, ↓li_s, ↓lr_0, ↓lr_s, ↓gf_48_10, ↓gf_48_35, ↓gf_48_36, ↓gf_48_8, ↓gf_48_9, ↓rc_48, ↓ar_54, ↓ar_55, ↓ar_56, ↓ar_75, ↓ar_76, ↓w_c79, ↓w_c80, ↓wl_93_0, ↓wl_93_2, ↓wl_93_11, ↓wl_93_44, ↓wl_93_45, ↓wl_93_53, ↓wl_93_65, ↓wl_93_71, ↓wl_93_73, ↓wl_93_83, ↓wl_93_121, ↓wl_93_122, ↓wl_93_130, ↓wl_93_132, ↓wl_93_156, ↓wl_93_157, ↓wl_93_165, ↓wl_93_171, ↓wl_93_177, hs_wr, hs_cp, hs_s, hs_n, hs_hs, upd_s, upd_n, upd_upd, ne_eq, Nat.reduceEqDiff, c1_i, c1_r, c2_i, c2_r, ↓reduceIte, List.set_cons_zero, List.set_cons_succ, mm_cb, List.length_cons, List.length_nil, List.all_cons, List.all_nil, Nat.zero_add, Nat.reduceAdd, Nat.reduceLeDiff, Nat.zero_le, decide_true, Bool.and_self, Bool.and_true, true_and, and_true, forall_const, Bool.or_false, Bool.false_or, Bool.or_true, Bool.true_or, Bool.false_eq_true, Nat.reduceBEq, beq_self_eq_true, ha_11, ha_01, hb_10, hb_0x, imp_self, false_implies, not_true_eq_false, not_false_eq_true])
        rw [nI_1, nI_1, nI_cl (show k < 2147483648 by omega), nI_cl (show s < 2147483648 by omega), show (4 : Int32) = nI 4 from rfl]
        refine ⟨fun q => ?_, fun q => ?_⟩
        · have ek : k = 4 := by
            have := le_nI (by omega) (by omega) q
            omega
          subst ek
          have hMs := hM s hs2
          rw [hMs.1]
          refine ⟨in_nI hs2 (by omega), fun u => ih (fun c hc => ?_) _ _ (fun _ => trivial) (fun _ => ⟨⟨_, rfl⟩, _, rfl⟩), fun u => h0 (fun hp => u ?_)⟩
          · by_cases e : c = s
            · subst e
              exact le_nI (by omega) (by omega) u
            · exact gM c (by omega)
          · have := hp.2.1 s hs2
            rw [i_le, i_nI (by omega), i_nI (by omega)]
            omega
        · have hk4 := nle_nI (by omega) (by omega) q
          obtain ⟨k1, k2, k3, k4, k5, k6, k7, k8, k9⟩ := hK k hk4
          have hin := in_nI hk4 (show 4 < 2147483648 by omega)
          have ih2 := ih2 (by omega)
          have er : uM S t s (k + 1) = uM S t s k + (if S k = s then t k else 0) := rfl
          rw [er] at ih2
          rw [k1]
          refine ⟨hin, fun u => ?_, fun u => r_sauceOf hk4 ?_⟩
          · have p0 := (le0_nI (by omega)).mp u
            have f0 : F k = 0 := by omega
            rw [(ht k hk4).2.2 f0, show (if S k = s then 0 else 0) = 0 by split <;> rfl, Nat.add_zero] at ih2
            rw [Int32.add_zero]
            exact ih2
          · rw [k3]
            refine ⟨fun v => ?_, fun v => ⟨hin, ?_⟩⟩
            · rw [if_neg (fun w => v (by rw [w])), Nat.add_zero] at ih2
              rw [Int32.add_zero]
              exact ih2
            · rw [if_pos (nI_inj2 (by omega) (by omega) v)] at ih2
              rw [(ht k hk4).1, i_addN]
              exact ih2)
      exact lk 0 (Nat.zero_le _))
  refine mm_in rfl (Nat.le_of_ble_eq_true rfl) ?_
  show mm_Rn hh_S 93 RI RV 0 [some (.ref 48), none, none, none] [] μ
  (refine mm_run ok_93 (fun t => t == 2) 12 ?_; rw [lb_93_0, rb_93]; simp only [↓w_aload_0, ↓w_bipush, ↓w_fall, ↓w_getf, ↓w_goto, ↓w_iadd, ↓w_iald, ↓w_iand, ↓w_ic_ge, ↓w_ic_le, ↓w_ic_ne, ↓w_iconst, ↓w_idiv, ↓w_if_le, ↓w_if_ne, ↓w_iinc, ↓w_iload_1, ↓w_iload_2, ↓w_iload_3, ↓w_imul, ↓w_iret, ↓w_ishr, ↓w_istore_1, ↓w_istore_2, ↓w_istore_3, ↓w_isub, ↓w_ixor, ↓w_sipush, ↓li_0, ↓li_s, ↓lr_0, ↓lr_s, ↓gf_48_10, ↓gf_48_35, ↓gf_48_36, ↓gf_48_8, ↓gf_48_9, ↓rc_48, ↓ar_54, ↓ar_55, ↓ar_56, ↓ar_75, ↓ar_76, ↓w_c79, ↓w_c80, ↓wl_93_0, ↓wl_93_2, ↓wl_93_11, ↓wl_93_44, ↓wl_93_45, ↓wl_93_53, ↓wl_93_65, ↓wl_93_71, ↓wl_93_73, ↓wl_93_83, ↓wl_93_121, ↓wl_93_122, ↓wl_93_130, ↓wl_93_132, ↓wl_93_156, ↓wl_93_157, ↓wl_93_165, ↓wl_93_171, ↓wl_93_177, hs_wr, hs_cp, hs_s, hs_n, hs_hs, upd_s, upd_n, upd_upd, ne_eq, Nat.reduceEqDiff, c1_i, c1_r, c2_i, c2_r, ↓reduceIte, List.set_cons_zero, List.set_cons_succ, mm_cb, List.length_cons, List.length_nil, List.all_cons, List.all_nil, Nat.zero_add, Nat.reduceAdd, Nat.reduceLeDiff, Nat.zero_le, decide_true, Bool.and_self, Bool.and_true, true_and, and_true, forall_const, Bool.or_false, Bool.false_or, Bool.or_true, Bool.true_or, Bool.false_eq_true, Nat.reduceBEq, beq_self_eq_true, ha_11, ha_01, hb_10, hb_0x, imp_self, false_implies, not_true_eq_false, not_false_eq_true])
  exact lpM 0 (by omega) (fun c hc => by omega) none none (fun _ => trivial) (fun z => by omega)
end PM1
