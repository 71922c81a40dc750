/-! the reference's hours and packing -/
def anyB (p : Nat → Bool) : Nat → Bool
  | 0 => false
  | n + 1 => anyB p n || p n
theorem anyB_iff {p : Nat → Bool} : ∀ {n : Nat}, anyB p n = true ↔ ∃ j, j < n ∧ p j = true
  | 0 => by
    constructor
    · intro h; cases h
    · rintro ⟨j, hj, -⟩; omega
  | n + 1 => by
    unfold anyB
    rw [Bool.or_eq_true, anyB_iff]
    constructor
    · rintro (⟨j, hj, h⟩ | h)
      · exact ⟨j, by omega, h⟩
      · exact ⟨n, by omega, h⟩
    · rintro ⟨j, hj, h⟩
      by_cases e : j = n
      · subst e; exact Or.inr h
      · exact Or.inl ⟨j, by omega, h⟩
theorem cpy_0 {f g : Nat → Int32} {sp dp : Nat} : va_cpy f g sp dp 0 = g := by
  funext k
  rw [pk_cpy_out (by omega)]
theorem cpy_s {f g : Nat → Int32} {sp dp n : Nat} : upd (va_cpy f g sp dp n) (dp + n) (f (sp + n)) = va_cpy f g sp dp (n + 1) := by
  funext k
  by_cases h : k = dp + n
  · subst h
    rw [upd_s, pk_cpy_in (by omega) (by omega)]
    congr 1
    omega
  · rw [upd_n h]
    by_cases h2 : dp ≤ k ∧ k < dp + n
    · rw [pk_cpy_in h2.1 h2.2, pk_cpy_in h2.1 (by omega)]
    · rw [pk_cpy_out (by omega), pk_cpy_out (by omega)]
/-- fish of a lot that is called back -/
def rcB (fi re : Nat → Int32) (c l : Nat) : Bool := decide (¬ fi (c * 60 + l) ≤ 0) && decide (¬ re l = 0)
def dnM (μ : mm_M) (c n : Nat) : mm_M := hs (hs (hs (hs (hs (hs (hs (hs μ 62 (upd (μ 62) n (μ 58 c))) 63 (upd (μ 63) n (μ 59 c))) 64 (upd (μ 64) n (μ 59 c))) 65 (upd (μ 65) n (μ 48 0))) 68 (va_cpy (μ 61) (μ 68) (c * 60) (n * 60) 60)) 66 (if anyB (rcB (μ 61) (μ 53) c) 60 = true then upd (μ 66) n 1 else μ 66)) 58 (upd (μ 58) c (-1))) 48 (upd (μ 48) 18 (nI (n + 1)))
section M4
variable {μ : mm_M} {RI : Int32 → mm_M → Prop} {RV : mm_M → Prop}
theorem r_done {n c : Nat} (hB : μ 48 18 = nI n) (hn : n < 100) (hc : c < 3) (h : RV (dnM μ c n)) : mm_Cs hh_S 90 [.ref 48, .int (nI c)] μ RI RV := by
  have hi := in_nI hc (by omega)
  have hi2 := in_nI hn (by omega)
  refine mm_in rfl (Nat.le_of_ble_eq_true rfl) ?_
  show mm_Rn hh_S 90 RI RV 0 [some (.ref 48), some (.int (nI c)), none, none] [] μ
  (refine mm_run ok_90 (fun t => t == 60) 12 ?_; rw [lb_90_0, rb_90]; simp only [↓w_aload_0, ↓w_bald, ↓w_bast, ↓w_bipush, ↓w_dup, ↓w_fall, ↓w_getf, ↓w_goto, ↓w_iadd, ↓w_iald, ↓w_iast, ↓w_ic_ge, ↓w_iconst, ↓w_if_eq, ↓w_if_le, ↓w_iinc, ↓w_iload_1, ↓w_iload_2, ↓w_iload_3, ↓w_imul, ↓w_istore_2, ↓w_istore_3, ↓w_putf, ↓w_vret, ↓li_0, ↓li_s, ↓lr_0, ↓lr_s, ↓gf_48_0, ↓gf_48_13, ↓gf_48_14, ↓gf_48_16, ↓gf_48_18, ↓gf_48_19, ↓gf_48_20, ↓gf_48_21, ↓gf_48_22, ↓gf_48_23, ↓gf_48_25, ↓gf_48_6, ↓pf_48_18, ↓ar_53, ↓ar_58, ↓ar_59, ↓ar_61, ↓ar_62, ↓ar_63, ↓ar_64, ↓ar_65, ↓ar_66, ↓ar_68, ↓wl_90_0, ↓wl_90_60, ↓wl_90_116, ↓wl_90_122, hs_wr, hs_cp, hs_s, hs_n, hs_hs, upd_s, upd_n, upd_upd, ne_eq, Nat.reduceEqDiff, c1_i, c1_r, c2_i, c2_r, ↓reduceIte, List.set_cons_zero, List.set_cons_succ, mm_cb, List.length_cons, List.length_nil, List.all_cons, List.all_nil, Nat.zero_add, Nat.reduceAdd, Nat.reduceLeDiff, Nat.zero_le, decide_true, Bool.and_self, Bool.and_true, true_and, and_true, forall_const, Bool.or_false, Bool.false_or, Bool.or_true, Bool.true_or, Bool.false_eq_true, Nat.reduceBEq, beq_self_eq_true, ha_11, ha_01, hb_10, hb_0x, imp_self, false_implies, not_true_eq_false, not_false_eq_true])
  rw [hB, nI_cl (show n < 2147483648 by omega), nI_cl (show c < 2147483648 by omega)]
  refine ⟨hi, hi2, hi, hi2, hi, hi2, hi2, ?_⟩
  unfold dnM at h
  have e1 : (hs (hs (hs (hs μ 62 (upd (μ 62) n (μ 58 c))) 63 (upd (μ 63) n (μ 59 c))) 64 (upd (μ 64) n (μ 59 c))) 65 (upd (μ 65) n (μ 48 0))) 68 = μ 68 := by simp only [hs_n, ne_eq, Nat.reduceEqDiff, not_false_eq_true]
  have e2 : (hs (hs (hs (hs μ 62 (upd (μ 62) n (μ 58 c))) 63 (upd (μ 63) n (μ 59 c))) 64 (upd (μ 64) n (μ 59 c))) 65 (upd (μ 65) n (μ 48 0))) 61 = μ 61 := by simp only [hs_n, ne_eq, Nat.reduceEqDiff, not_false_eq_true]
  have e3 : (hs (hs (hs (hs μ 62 (upd (μ 62) n (μ 58 c))) 63 (upd (μ 63) n (μ 59 c))) 64 (upd (μ 64) n (μ 59 c))) 65 (upd (μ 65) n (μ 48 0))) 53 = μ 53 := by simp only [hs_n, ne_eq, Nat.reduceEqDiff, not_false_eq_true]
  have e4 : (hs (hs (hs (hs μ 62 (upd (μ 62) n (μ 58 c))) 63 (upd (μ 63) n (μ 59 c))) 64 (upd (μ 64) n (μ 59 c))) 65 (upd (μ 65) n (μ 48 0))) 66 = μ 66 := by simp only [hs_n, ne_eq, Nat.reduceEqDiff, not_false_eq_true]
  have e5 : (hs (hs (hs (hs μ 62 (upd (μ 62) n (μ 58 c))) 63 (upd (μ 63) n (μ 59 c))) 64 (upd (μ 64) n (μ 59 c))) 65 (upd (μ 65) n (μ 48 0))) 58 = μ 58 := by simp only [hs_n, ne_eq, Nat.reduceEqDiff, not_false_eq_true]
  have e6 : (hs (hs (hs (hs μ 62 (upd (μ 62) n (μ 58 c))) 63 (upd (μ 63) n (μ 59 c))) 64 (upd (μ 64) n (μ 59 c))) 65 (upd (μ 65) n (μ 48 0))) 48 = μ 48 := by simp only [hs_n, ne_eq, Nat.reduceEqDiff, not_false_eq_true]
  generalize (hs (hs (hs (hs μ 62 (upd (μ 62) n (μ 58 c))) 63 (upd (μ 63) n (μ 59 c))) 64 (upd (μ 64) n (μ 59 c))) 65 (upd (μ 65) n (μ 48 0))) = ν at h e1 e2 e3 e4 e5 e6 ⊢
  rw [← e1, ← e2, ← e3, ← e4, ← e5, ← e6] at h
  rw [← e6] at hB
  clear e1 e2 e3 e4 e5 e6
  have lp := up_ind (n := 60) (P := fun i => ∀ o3, mm_Rn hh_S 90 RI RV 60 [some (.ref 48), some (.int (nI c)), some (.int (nI i)), o3] [] (hs (hs ν 68 (va_cpy (ν 61) (ν 68) (c * 60) (n * 60) i)) 66 (if anyB (rcB (ν 61) (ν 53) c) i = true then upd (ν 66) n 1 else ν 66))) (fun i hi3 ih => by
    intro o3
    have ih := ih (i + 1) (by omega)
    have hany : anyB (rcB (ν 61) (ν 53) c) (i + 1) = (anyB (rcB (ν 61) (ν 53) c) i || rcB (ν 61) (ν 53) c i) := rfl
    (refine mm_run ok_90 (fun t => t == 60) 12 ?_; rw [lb_90_60, rb_90]; simp only [↓w_aload_0, ↓w_bald, ↓w_bast, ↓w_bipush, ↓w_dup, ↓w_fall, ↓w_getf, ↓w_goto, ↓w_iadd, ↓w_iald, ↓w_iast, ↓w_ic_ge, ↓w_iconst, ↓w_if_eq, ↓w_if_le, ↓w_iinc, ↓w_iload_1, ↓w_iload_2, ↓w_iload_3, ↓w_imul, ↓w_istore_2, ↓w_istore_3, ↓w_putf, ↓w_vret, ↓li_0, ↓li_s, ↓lr_0, ↓lr_s, ↓gf_48_0, ↓gf_48_13, ↓gf_48_14, ↓gf_48_16, ↓gf_48_18, ↓gf_48_19, ↓gf_48_20, ↓gf_48_21, ↓gf_48_22, ↓gf_48_23, ↓gf_48_25, ↓gf_48_6, ↓pf_48_18, ↓ar_53, ↓ar_58, ↓ar_59, ↓ar_61, ↓ar_62, ↓ar_63, ↓ar_64, ↓ar_65, ↓ar_66, ↓ar_68, ↓wl_90_0, ↓wl_90_60, ↓wl_90_116, ↓wl_90_122, hs_wr, hs_cp, hs_s, hs_n, hs_hs, upd_s, upd_n, upd_upd, ne_eq, Nat.reduceEqDiff, c1_i, c1_r, c2_i, c2_r, ↓reduceIte, List.set_cons_zero, List.set_cons_succ, mm_cb, List.length_cons, List.length_nil, List.all_cons, List.all_nil, Nat.zero_add, Nat.reduceAdd, Nat.reduceLeDiff, Nat.zero_le, decide_true, Bool.and_self, Bool.and_true, true_and, and_true, forall_const, Bool.or_false, Bool.false_or, Bool.or_true, Bool.true_or, Bool.false_eq_true, Nat.reduceBEq, beq_self_eq_true, ha_11, ha_01, hb_10, hb_0x, imp_self, false_implies, not_true_eq_false, not_false_eq_true])
    rw [hB, ixm2, ixm2, nI_cl (show n < 2147483648 by omega), nI_cl (show c < 2147483648 by omega), nI_cl (show c * 60 + i < 2147483648 by omega), nI_cl (show n * 60 + i < 2147483648 by omega), nI_cl (show i < 2147483648 by omega), nI_1, nI_1, cpy_s]
    rw [show (60 : Int32) = nI 60 from rfl]
    refine ⟨fun q => ⟨hi, ?_⟩, fun q => ?_⟩
    · have := le_nI (by omega) (by omega) q
      rw [show i = 60 by omega]
      exact h
    · have hlt := nle_nI (by omega) (by omega) q
      have ih := ih (by omega)
      rw [hany] at ih
      refine ⟨in_nI (by omega) (by omega), in_nI (by omega) (by omega), fun u => ?_, fun u => ⟨in_nI (by omega) (by omega), fun v => ?_, fun v => ⟨hi2, ?_⟩⟩⟩
      · have : rcB (ν 61) (ν 53) c i = false := by simp [rcB, u]
        rw [this, Bool.or_false] at ih
        rw [hs_aba (by decide)]
        exact ih _
      · have : rcB (ν 61) (ν 53) c i = false := by simp [rcB, v]
        rw [this, Bool.or_false] at ih
        rw [hs_aba (by decide)]
        exact ih _
      · have : rcB (ν 61) (ν 53) c i = true := by simp [rcB, u, v]
        rw [this, Bool.or_true, if_pos rfl] at ih
        rw [hs_aba (by decide), hs_aba (by decide)]
        have e : upd (if anyB (rcB (ν 61) (ν 53) c) i = true then upd (ν 66) n 1 else ν 66) n 1 = upd (ν 66) n 1 := by
          split
          · rw [upd_upd]
          · rfl
        rw [e]
        exact ih _)
  have := lp 0 (Nat.zero_le _) none
  rw [cpy_0] at this
  simp only [anyB, Bool.false_eq_true, if_false, hs_id] at this
  exact this
/-- a cooker's charge, at the hour's beginning -/
def dnR (c : Nat) (μ ν : mm_M) : Prop := ((μ 58 c = -1 ∨ ¬ μ 60 c = μ 48 0) ∧ ν = μ) ∨ (¬ μ 58 c = -1 ∧ μ 60 c = μ 48 0 ∧ ∃ n, n < 100 ∧ μ 48 18 = nI n ∧ ν = dnM μ c n)
def spN (μ : mm_M) (nl : Nat) : mm_M := hs (hs μ 50 (fun j => if j < nl ∧ (!frB (μ 51) (μ 52) (μ 48 0) j) = true then 0 else μ 50 j)) 48 (upd (μ 48) 17 (μ 48 17 + su (fun j => if (!frB (μ 51) (μ 52) (μ 48 0) j) = true then μ 50 j else 0) nl))
def cmB (wk ov : Nat → Int32) (w : Int32) (j : Nat) : Bool := decide (ov j = 0) && decide (wk j < w)
def clN (μ : mm_M) (nc : Nat) : mm_M := hs (hs μ 74 (fun j => if j < nc ∧ cmB (μ 72) (μ 74) (μ 48 0 / 168) j = true then 1 else μ 74 j)) 48 (upd (μ 48) 34 (μ 48 34 + su (fun j => if cmB (μ 72) (μ 74) (μ 48 0 / 168) j = true then 2 * μ 55 (μ 70 j).toNatClampNeg * (μ 71 j - μ 73 j) else 0) nc))
theorem r_hour111 {nc : Nat} (hC : μ 48 27 = nI nc) (hc : nc ≤ 20) (hk : ∀ i, i < nc → ∃ j, j < 4 ∧ μ 70 i = nI j) (h0 : ¬ μ 48 0 - μ 48 0 / 168 * 168 = 0 → RV μ) (h1 : μ 48 0 - μ 48 0 / 168 * 168 = 0 → RV (clN μ nc)) : mm_Rn hh_S 92 RI RV 111 [some (.ref 48), some (.int 0)] [] μ := by
  by_cases hz : μ 48 0 - μ 48 0 / 168 * 168 = 0
  · have g := h1 hz
    clear h0 h1
    unfold clN at g
    have lp := up_ind (n := nc) (P := fun i => mm_Rn hh_S 92 RI RV 111 [some (.ref 48), some (.int (nI i))] [] (hs (hs μ 74 (fun j => if j < i ∧ cmB (μ 72) (μ 74) (μ 48 0 / 168) j = true then 1 else μ 74 j)) 48 (upd (μ 48) 34 (μ 48 34 + su (fun j => if cmB (μ 72) (μ 74) (μ 48 0 / 168) j = true then 2 * μ 55 (μ 70 j).toNatClampNeg * (μ 71 j - μ 73 j) else 0) i)))) (fun i hi ih => by
      have ih := ih (i + 1) (by omega)
      have hcm : cmB (μ 72) (μ 74) (μ 48 0 / 168) i = true ↔ μ 74 i = 0 ∧ μ 72 i < μ 48 0 / 168 := by
        unfold cmB
        simp only [Bool.and_eq_true, decide_eq_true_eq]
      have hf : ¬ cmB (μ 72) (μ 74) (μ 48 0 / 168) i = true → (fun j => if j < i + 1 ∧ cmB (μ 72) (μ 74) (μ 48 0 / 168) j = true then (1 : Int32) else μ 74 j) = (fun j => if j < i ∧ cmB (μ 72) (μ 74) (μ 48 0 / 168) j = true then 1 else μ 74 j) := by
        intro u
        funext j
        by_cases hj : j = i
        · subst hj
          simp [u]
        · simp only [show (j < i + 1) = (j < i) by apply propext; omega]
      have ht : cmB (μ 72) (μ 74) (μ 48 0 / 168) i = true → upd (fun j => if j < i ∧ cmB (μ 72) (μ 74) (μ 48 0 / 168) j = true then (1 : Int32) else μ 74 j) i 1 = (fun j => if j < i + 1 ∧ cmB (μ 72) (μ 74) (μ 48 0 / 168) j = true then 1 else μ 74 j) := by
        intro u
        funext j
        unfold upd
        by_cases hj : j = i
        · subst hj
          rw [if_pos rfl, if_pos ⟨by omega, u⟩]
        · simp only [hj, if_false, show (j < i + 1) = (j < i) by apply propext; omega]
      (refine mm_run ok_92 (fun t => t == 17 || t == 58 || t == 111) 12 ?_; rw [lb_92_111, rb_92]; simp only [↓w_aload_0, ↓w_bald, ↓w_bast, ↓w_dup, ↓w_fall, ↓w_getf, ↓w_goto, ↓w_iadd, ↓w_iald, ↓w_iast, ↓w_ic_eq, ↓w_ic_ge, ↓w_ic_lt, ↓w_ic_ne, ↓w_iconst, ↓w_idiv, ↓w_if_ne, ↓w_iinc, ↓w_iload_1, ↓w_imul, ↓w_irem, ↓w_istore_1, ↓w_isub, ↓w_putf, ↓w_sipush, ↓w_vret, ↓li_0, ↓li_s, ↓lr_0, ↓lr_s, ↓gf_48_0, ↓gf_48_1, ↓gf_48_13, ↓gf_48_15, ↓gf_48_17, ↓gf_48_27, ↓gf_48_29, ↓gf_48_3, ↓gf_48_30, ↓gf_48_31, ↓gf_48_32, ↓gf_48_33, ↓gf_48_34, ↓gf_48_9, ↓pf_48_0, ↓pf_48_12, ↓pf_48_17, ↓pf_48_34, ↓rc_48, ↓ar_50, ↓ar_55, ↓ar_58, ↓ar_60, ↓ar_70, ↓ar_71, ↓ar_72, ↓ar_73, ↓ar_74, ↓w_c70, ↓w_c90, ↓wl_92_0, ↓wl_92_17, ↓wl_92_50, ↓wl_92_56, ↓wl_92_58, ↓wl_92_81, ↓wl_92_103, ↓wl_92_109, ↓wl_92_111, ↓wl_92_159, ↓wl_92_202, ↓wl_92_208, hs_wr, hs_cp, hs_s, hs_n, hs_hs, upd_s, upd_n, upd_upd, ne_eq, Nat.reduceEqDiff, c1_i, c1_r, c2_i, c2_r, ↓reduceIte, List.set_cons_zero, List.set_cons_succ, mm_cb, List.length_cons, List.length_nil, List.all_cons, List.all_nil, Nat.zero_add, Nat.reduceAdd, Nat.reduceLeDiff, Nat.zero_le, decide_true, Bool.and_self, Bool.and_true, true_and, and_true, forall_const, Bool.or_false, Bool.false_or, Bool.or_true, Bool.true_or, Bool.false_eq_true, Nat.reduceBEq, beq_self_eq_true, ha_11, ha_01, hb_10, hb_0x, imp_self, false_implies, not_true_eq_false, not_false_eq_true])
      rw [hC, nI_cl (show i < 2147483648 by omega), nI_1]
      simp only [show ¬ (i < i ∧ cmB (μ 72) (μ 74) (μ 48 0 / 168) i = true) from fun z => absurd z.1 (by omega), if_false]
      refine ⟨fun c => ?_, fun c => ⟨by decide, fun z => absurd hz z, fun z => ?_⟩⟩
      · have := le_nI (by omega) (by omega) c
        rw [show i = nc by omega]
        exact g
      · have hlt := nle_nI (by omega) (by omega) c
        have hii := in_nI (show i < 20 by omega) (by omega)
        have ih := ih (by omega)
        obtain ⟨k, hk4, ek⟩ := hk i hlt
        refine ⟨hii, fun u => ?_, fun u => ⟨hii, by decide, fun v => ⟨hii, ?_, hii, hii, hii, ?_⟩, fun v => ?_⟩⟩
        · have hn := fun z => u (hcm.mp z).1
          rw [hf hn, su_if_f (f := fun j => 2 * μ 55 (μ 70 j).toNatClampNeg * (μ 71 j - μ 73 j)) hn] at ih
          exact ih
        · rw [ek]; exact in_nI hk4 (by omega)
        · have hy := hcm.mpr ⟨u, v⟩
          rw [su_if_t (f := fun j => 2 * μ 55 (μ 70 j).toNatClampNeg * (μ 71 j - μ 73 j)) hy, ← Int32.add_assoc] at ih
          rw [ht hy, hs_aba (by decide)]
          exact ih
        · have hn := fun z => v (hcm.mp z).2
          rw [hf hn, su_if_f (f := fun j => 2 * μ 55 (μ 70 j).toNatClampNeg * (μ 71 j - μ 73 j)) hn] at ih
          exact ih)
    have := lp 0 (Nat.zero_le _)
    have e : (fun j => if j < 0 ∧ cmB (μ 72) (μ 74) (μ 48 0 / 168) j = true then (1 : Int32) else μ 74 j) = μ 74 := by
      funext j
      simp
    rw [e] at this
    simp only [su, Int32.add_zero, upd_id, hs_id] at this
    exact this
  · have g := h0 hz
    (refine mm_run ok_92 (fun t => t == 17 || t == 58 || t == 111) 12 ?_; rw [lb_92_111, rb_92]; simp only [↓w_aload_0, ↓w_bald, ↓w_bast, ↓w_dup, ↓w_fall, ↓w_getf, ↓w_goto, ↓w_iadd, ↓w_iald, ↓w_iast, ↓w_ic_eq, ↓w_ic_ge, ↓w_ic_lt, ↓w_ic_ne, ↓w_iconst, ↓w_idiv, ↓w_if_ne, ↓w_iinc, ↓w_iload_1, ↓w_imul, ↓w_irem, ↓w_istore_1, ↓w_isub, ↓w_putf, ↓w_sipush, ↓w_vret, ↓li_0, ↓li_s, ↓lr_0, ↓lr_s, ↓gf_48_0, ↓gf_48_1, ↓gf_48_13, ↓gf_48_15, ↓gf_48_17, ↓gf_48_27, ↓gf_48_29, ↓gf_48_3, ↓gf_48_30, ↓gf_48_31, ↓gf_48_32, ↓gf_48_33, ↓gf_48_34, ↓gf_48_9, ↓pf_48_0, ↓pf_48_12, ↓pf_48_17, ↓pf_48_34, ↓rc_48, ↓ar_50, ↓ar_55, ↓ar_58, ↓ar_60, ↓ar_70, ↓ar_71, ↓ar_72, ↓ar_73, ↓ar_74, ↓w_c70, ↓w_c90, ↓wl_92_0, ↓wl_92_17, ↓wl_92_50, ↓wl_92_56, ↓wl_92_58, ↓wl_92_81, ↓wl_92_103, ↓wl_92_109, ↓wl_92_111, ↓wl_92_159, ↓wl_92_202, ↓wl_92_208, hs_wr, hs_cp, hs_s, hs_n, hs_hs, upd_s, upd_n, upd_upd, ne_eq, Nat.reduceEqDiff, c1_i, c1_r, c2_i, c2_r, ↓reduceIte, List.set_cons_zero, List.set_cons_succ, mm_cb, List.length_cons, List.length_nil, List.all_cons, List.all_nil, Nat.zero_add, Nat.reduceAdd, Nat.reduceLeDiff, Nat.zero_le, decide_true, Bool.and_self, Bool.and_true, true_and, and_true, forall_const, Bool.or_false, Bool.false_or, Bool.or_true, Bool.true_or, Bool.false_eq_true, Nat.reduceBEq, beq_self_eq_true, ha_11, ha_01, hb_10, hb_0x, imp_self, false_implies, not_true_eq_false, not_false_eq_true])
    exact ⟨fun _ => g, fun _ => ⟨by decide, fun _ => g, fun z => absurd z hz⟩⟩
theorem r_hour58 {nl : Nat} (hN : μ 48 1 = nI nl) (hn : nl ≤ 60) (h : mm_Rn hh_S 92 RI RV 111 [some (.ref 48), some (.int 0)] [] (spN μ nl)) : mm_Rn hh_S 92 RI RV 58 [some (.ref 48), some (.int 0)] [] μ := by
  unfold spN at h
  have lp := up_ind (n := nl) (P := fun i => mm_Rn hh_S 92 RI RV 58 [some (.ref 48), some (.int (nI i))] [] (hs (hs μ 50 (fun j => if j < i ∧ (!frB (μ 51) (μ 52) (μ 48 0) j) = true then 0 else μ 50 j)) 48 (upd (μ 48) 17 (μ 48 17 + su (fun j => if (!frB (μ 51) (μ 52) (μ 48 0) j) = true then μ 50 j else 0) i)))) (fun i hi ih => by
    have ih := ih (i + 1) (by omega)
    have hfr : frB (μ 51) (μ 52) (μ 48 0) i = true ↔ ¬ stH (μ 51) (μ 52) i ≤ μ 48 0 := by
      unfold frB
      simp only [decide_eq_true_eq]
    have hf : frB (μ 51) (μ 52) (μ 48 0) i = true → (fun j => if j < i + 1 ∧ (!frB (μ 51) (μ 52) (μ 48 0) j) = true then (0 : Int32) else μ 50 j) = (fun j => if j < i ∧ (!frB (μ 51) (μ 52) (μ 48 0) j) = true then 0 else μ 50 j) := by
      intro u
      funext j
      by_cases hj : j = i
      · subst hj
        simp [u]
      · simp only [show (j < i + 1) = (j < i) by apply propext; omega]
    have ht : ¬ frB (μ 51) (μ 52) (μ 48 0) i = true → upd (fun j => if j < i ∧ (!frB (μ 51) (μ 52) (μ 48 0) j) = true then (0 : Int32) else μ 50 j) i 0 = (fun j => if j < i + 1 ∧ (!frB (μ 51) (μ 52) (μ 48 0) j) = true then 0 else μ 50 j) := by
      intro u
      funext j
      unfold upd
      by_cases hj : j = i
      · subst hj
        simp [u]
      · simp only [hj, if_false, show (j < i + 1) = (j < i) by apply propext; omega]
    (refine mm_run ok_92 (fun t => t == 17 || t == 58 || t == 111) 12 ?_; rw [lb_92_58, rb_92]; simp only [↓w_aload_0, ↓w_bald, ↓w_bast, ↓w_dup, ↓w_fall, ↓w_getf, ↓w_goto, ↓w_iadd, ↓w_iald, ↓w_iast, ↓w_ic_eq, ↓w_ic_ge, ↓w_ic_lt, ↓w_ic_ne, ↓w_iconst, ↓w_idiv, ↓w_if_ne, ↓w_iinc, ↓w_iload_1, ↓w_imul, ↓w_irem, ↓w_istore_1, ↓w_isub, ↓w_putf, ↓w_sipush, ↓w_vret, ↓li_0, ↓li_s, ↓lr_0, ↓lr_s, ↓gf_48_0, ↓gf_48_1, ↓gf_48_13, ↓gf_48_15, ↓gf_48_17, ↓gf_48_27, ↓gf_48_29, ↓gf_48_3, ↓gf_48_30, ↓gf_48_31, ↓gf_48_32, ↓gf_48_33, ↓gf_48_34, ↓gf_48_9, ↓pf_48_0, ↓pf_48_12, ↓pf_48_17, ↓pf_48_34, ↓rc_48, ↓ar_50, ↓ar_55, ↓ar_58, ↓ar_60, ↓ar_70, ↓ar_71, ↓ar_72, ↓ar_73, ↓ar_74, ↓w_c70, ↓w_c90, ↓wl_92_0, ↓wl_92_17, ↓wl_92_50, ↓wl_92_56, ↓wl_92_58, ↓wl_92_81, ↓wl_92_103, ↓wl_92_109, ↓wl_92_111, ↓wl_92_159, ↓wl_92_202, ↓wl_92_208, hs_wr, hs_cp, hs_s, hs_n, hs_hs, upd_s, upd_n, upd_upd, ne_eq, Nat.reduceEqDiff, c1_i, c1_r, c2_i, c2_r, ↓reduceIte, List.set_cons_zero, List.set_cons_succ, mm_cb, List.length_cons, List.length_nil, List.all_cons, List.all_nil, Nat.zero_add, Nat.reduceAdd, Nat.reduceLeDiff, Nat.zero_le, decide_true, Bool.and_self, Bool.and_true, true_and, and_true, forall_const, Bool.or_false, Bool.false_or, Bool.or_true, Bool.true_or, Bool.false_eq_true, Nat.reduceBEq, beq_self_eq_true, ha_11, ha_01, hb_10, hb_0x, imp_self, false_implies, not_true_eq_false, not_false_eq_true])
    rw [hN, nI_cl (show i < 2147483648 by omega), nI_1]
    refine ⟨fun c => ?_, fun c => ?_⟩
    · have := le_nI (by omega) (by omega) c
      rw [show i = nl by omega]
      exact h
    · have hlt := nle_nI (by omega) (by omega) c
      have hii := in_nI (show i < 60 by omega) (by omega)
      have ih := ih (by omega)
      refine r_freshTill (by omega) ⟨fun u => ⟨hii, hii, ?_⟩, fun u => ?_⟩
      · simp only [hs_s, hs_n, ne_eq, Nat.reduceEqDiff, not_false_eq_true, upd_s, upd_upd, show ¬ (i < i ∧ (!frB (μ 51) (μ 52) (μ 48 0) i) = true) from fun z => absurd z.1 (by omega), if_false] at u ⊢
        have hnf : ¬ frB (μ 51) (μ 52) (μ 48 0) i = true := fun z => hfr.mp z u
        rw [su_if_t (f := μ 50) (p := fun j => !frB (μ 51) (μ 52) (μ 48 0) j) (by simp [hnf]), ← Int32.add_assoc] at ih
        rw [ht hnf, hs_hs, hs_aba (by decide)]
        exact ih
      · simp only [hs_s, hs_n, ne_eq, Nat.reduceEqDiff, not_false_eq_true] at u
        have hy : frB (μ 51) (μ 52) (μ 48 0) i = true := hfr.mpr u
        rw [hf hy, su_if_f (f := μ 50) (p := fun j => !frB (μ 51) (μ 52) (μ 48 0) j) (by simp [hy])] at ih
        exact ih)
  have := lp 0 (Nat.zero_le _)
  have e : (fun j => if j < 0 ∧ (!frB (μ 51) (μ 52) (μ 48 0) j) = true then (0 : Int32) else μ 50 j) = μ 50 := by
    funext j
    simp
  rw [e] at this
  simp only [su, Int32.add_zero, upd_id, hs_id] at this
  exact this
theorem r_hourStep {c : Nat} (hc : c < 3) (hb : ¬ μ 58 c = -1 → μ 60 c = μ 48 0 → ∃ n, n < 100 ∧ μ 48 18 = nI n) (k : ∀ ν, dnR c μ ν → mm_Rn hh_S 92 RI RV 17 [some (.ref 48), some (.int (nI (c + 1)))] [] ν) : mm_Rn hh_S 92 RI RV 17 [some (.ref 48), some (.int (nI c))] [] μ := by
  have hi := in_nI hc (by omega)
  (refine mm_run ok_92 (fun t => t == 17 || t == 58 || t == 111) 12 ?_; rw [lb_92_17, rb_92]; simp only [↓w_aload_0, ↓w_bald, ↓w_bast, ↓w_dup, ↓w_fall, ↓w_getf, ↓w_goto, ↓w_iadd, ↓w_iald, ↓w_iast, ↓w_ic_eq, ↓w_ic_ge, ↓w_ic_lt, ↓w_ic_ne, ↓w_iconst, ↓w_idiv, ↓w_if_ne, ↓w_iinc, ↓w_iload_1, ↓w_imul, ↓w_irem, ↓w_istore_1, ↓w_isub, ↓w_putf, ↓w_sipush, ↓w_vret, ↓li_0, ↓li_s, ↓lr_0, ↓lr_s, ↓gf_48_0, ↓gf_48_1, ↓gf_48_13, ↓gf_48_15, ↓gf_48_17, ↓gf_48_27, ↓gf_48_29, ↓gf_48_3, ↓gf_48_30, ↓gf_48_31, ↓gf_48_32, ↓gf_48_33, ↓gf_48_34, ↓gf_48_9, ↓pf_48_0, ↓pf_48_12, ↓pf_48_17, ↓pf_48_34, ↓rc_48, ↓ar_50, ↓ar_55, ↓ar_58, ↓ar_60, ↓ar_70, ↓ar_71, ↓ar_72, ↓ar_73, ↓ar_74, ↓w_c70, ↓w_c90, ↓wl_92_0, ↓wl_92_17, ↓wl_92_50, ↓wl_92_56, ↓wl_92_58, ↓wl_92_81, ↓wl_92_103, ↓wl_92_109, ↓wl_92_111, ↓wl_92_159, ↓wl_92_202, ↓wl_92_208, hs_wr, hs_cp, hs_s, hs_n, hs_hs, upd_s, upd_n, upd_upd, ne_eq, Nat.reduceEqDiff, c1_i, c1_r, c2_i, c2_r, ↓reduceIte, List.set_cons_zero, List.set_cons_succ, mm_cb, List.length_cons, List.length_nil, List.all_cons, List.all_nil, Nat.zero_add, Nat.reduceAdd, Nat.reduceLeDiff, Nat.zero_le, decide_true, Bool.and_self, Bool.and_true, true_and, and_true, forall_const, Bool.or_false, Bool.false_or, Bool.or_true, Bool.true_or, Bool.false_eq_true, Nat.reduceBEq, beq_self_eq_true, ha_11, ha_01, hb_10, hb_0x, imp_self, false_implies, not_true_eq_false, not_false_eq_true])
  rw [nI_cl (show c < 2147483648 by omega), nI_1]
  refine ⟨fun q => ?_, fun q => ⟨hi, fun u => k μ (Or.inl ⟨Or.inl u, rfl⟩), fun u => ⟨hi, fun v => k μ (Or.inl ⟨Or.inr v, rfl⟩), fun v => ?_⟩⟩⟩
  · rw [show (3 : Int32) = nI 3 from rfl] at q
    have := le_nI (by omega) (by omega) q
    omega
  · obtain ⟨n, hn, en⟩ := hb u v
    exact r_done en hn hc (k _ (Or.inr ⟨u, v, n, hn, en, rfl⟩))
def hrN (μ : mm_M) : mm_M := hs μ 48 (upd (upd (μ 48) 0 (μ 48 0 + 1)) 12 0)
theorem r_hour {nl nc : Nat} (hn : nl ≤ 60) (hc : nc ≤ 20) (h : ∃ P0 P1 P2 : mm_M → Prop, (P0 (hrN μ)) ∧ (∀ μ, P0 μ → (¬ μ 58 0 = -1 → μ 60 0 = μ 48 0 → ∃ n, n < 100 ∧ μ 48 18 = nI n) ∧ ∀ ν, dnR 0 μ ν → P1 ν) ∧ (∀ μ, P1 μ → (¬ μ 58 1 = -1 → μ 60 1 = μ 48 0 → ∃ n, n < 100 ∧ μ 48 18 = nI n) ∧ ∀ ν, dnR 1 μ ν → P2 ν) ∧ (∀ μ, P2 μ → (¬ μ 58 2 = -1 → μ 60 2 = μ 48 0 → ∃ n, n < 100 ∧ μ 48 18 = nI n) ∧ ∀ ν, dnR 2 μ ν → ν 48 1 = nI nl ∧ ν 48 27 = nI nc ∧ (∀ i, i < nc → ∃ j, j < 4 ∧ ν 70 i = nI j) ∧ (¬ ν 48 0 - ν 48 0 / 168 * 168 = 0 → RV (spN ν nl)) ∧ (ν 48 0 - ν 48 0 / 168 * 168 = 0 → RV (clN (spN ν nl) nc)))) : mm_Cs hh_S 92 [.ref 48] μ RI RV := by
  obtain ⟨P0, P1, P2, h0, s0, s1, s2⟩ := h
  refine mm_in rfl (Nat.le_of_ble_eq_true rfl) ?_
  show mm_Rn hh_S 92 RI RV 0 [some (.ref 48), none] [] μ
  (refine mm_run ok_92 (fun t => t == 17 || t == 58 || t == 111) 12 ?_; rw [lb_92_0, rb_92]; simp only [↓w_aload_0, ↓w_bald, ↓w_bast, ↓w_dup, ↓w_fall, ↓w_getf, ↓w_goto, ↓w_iadd, ↓w_iald, ↓w_iast, ↓w_ic_eq, ↓w_ic_ge, ↓w_ic_lt, ↓w_ic_ne, ↓w_iconst, ↓w_idiv, ↓w_if_ne, ↓w_iinc, ↓w_iload_1, ↓w_imul, ↓w_irem, ↓w_istore_1, ↓w_isub, ↓w_putf, ↓w_sipush, ↓w_vret, ↓li_0, ↓li_s, ↓lr_0, ↓lr_s, ↓gf_48_0, ↓gf_48_1, ↓gf_48_13, ↓gf_48_15, ↓gf_48_17, ↓gf_48_27, ↓gf_48_29, ↓gf_48_3, ↓gf_48_30, ↓gf_48_31, ↓gf_48_32, ↓gf_48_33, ↓gf_48_34, ↓gf_48_9, ↓pf_48_0, ↓pf_48_12, ↓pf_48_17, ↓pf_48_34, ↓rc_48, ↓ar_50, ↓ar_55, ↓ar_58, ↓ar_60, ↓ar_70, ↓ar_71, ↓ar_72, ↓ar_73, ↓ar_74, ↓w_c70, ↓w_c90, ↓wl_92_0, ↓wl_92_17, ↓wl_92_50, ↓wl_92_56, ↓wl_92_58, ↓wl_92_81, ↓wl_92_103, ↓wl_92_109, ↓wl_92_111, ↓wl_92_159, ↓wl_92_202, ↓wl_92_208, hs_wr, hs_cp, hs_s, hs_n, hs_hs, upd_s, upd_n, upd_upd, ne_eq, Nat.reduceEqDiff, c1_i, c1_r, c2_i, c2_r, ↓reduceIte, List.set_cons_zero, List.set_cons_succ, mm_cb, List.length_cons, List.length_nil, List.all_cons, List.all_nil, Nat.zero_add, Nat.reduceAdd, Nat.reduceLeDiff, Nat.zero_le, decide_true, Bool.and_self, Bool.and_true, true_and, and_true, forall_const, Bool.or_false, Bool.false_or, Bool.or_true, Bool.true_or, Bool.false_eq_true, Nat.reduceBEq, beq_self_eq_true, ha_11, ha_01, hb_10, hb_0x, imp_self, false_implies, not_true_eq_false, not_false_eq_true])
  obtain ⟨a2, a3⟩ := s0 _ h0
  refine r_hourStep (c := 0) (by omega) a2 (fun μ1 g1 => ?_)
  obtain ⟨b2, b3⟩ := s1 μ1 (a3 μ1 g1)
  refine r_hourStep (c := 1) (by omega) b2 (fun μ2 g2 => ?_)
  obtain ⟨d2, d3⟩ := s2 μ2 (b3 μ2 g2)
  refine r_hourStep (c := 2) (by omega) d2 (fun μ3 g3 => ?_)
  obtain ⟨f1, f2, f3, f4, f5⟩ := d3 μ3 g3
  (refine mm_run ok_92 (fun t => t == 17 || t == 58 || t == 111) 12 ?_; rw [lb_92_17, rb_92]; simp only [↓w_aload_0, ↓w_bald, ↓w_bast, ↓w_dup, ↓w_fall, ↓w_getf, ↓w_goto, ↓w_iadd, ↓w_iald, ↓w_iast, ↓w_ic_eq, ↓w_ic_ge, ↓w_ic_lt, ↓w_ic_ne, ↓w_iconst, ↓w_idiv, ↓w_if_ne, ↓w_iinc, ↓w_iload_1, ↓w_imul, ↓w_irem, ↓w_istore_1, ↓w_isub, ↓w_putf, ↓w_sipush, ↓w_vret, ↓li_0, ↓li_s, ↓lr_0, ↓lr_s, ↓gf_48_0, ↓gf_48_1, ↓gf_48_13, ↓gf_48_15, ↓gf_48_17, ↓gf_48_27, ↓gf_48_29, ↓gf_48_3, ↓gf_48_30, ↓gf_48_31, ↓gf_48_32, ↓gf_48_33, ↓gf_48_34, ↓gf_48_9, ↓pf_48_0, ↓pf_48_12, ↓pf_48_17, ↓pf_48_34, ↓rc_48, ↓ar_50, ↓ar_55, ↓ar_58, ↓ar_60, ↓ar_70, ↓ar_71, ↓ar_72, ↓ar_73, ↓ar_74, ↓w_c70, ↓w_c90, ↓wl_92_0, ↓wl_92_17, ↓wl_92_50, ↓wl_92_56, ↓wl_92_58, ↓wl_92_81, ↓wl_92_103, ↓wl_92_109, ↓wl_92_111, ↓wl_92_159, ↓wl_92_202, ↓wl_92_208, hs_wr, hs_cp, hs_s, hs_n, hs_hs, upd_s, upd_n, upd_upd, ne_eq, Nat.reduceEqDiff, c1_i, c1_r, c2_i, c2_r, ↓reduceIte, List.set_cons_zero, List.set_cons_succ, mm_cb, List.length_cons, List.length_nil, List.all_cons, List.all_nil, Nat.zero_add, Nat.reduceAdd, Nat.reduceLeDiff, Nat.zero_le, decide_true, Bool.and_self, Bool.and_true, true_and, and_true, forall_const, Bool.or_false, Bool.false_or, Bool.or_true, Bool.true_or, Bool.false_eq_true, Nat.reduceBEq, beq_self_eq_true, ha_11, ha_01, hb_10, hb_0x, imp_self, false_implies, not_true_eq_false, not_false_eq_true])
  refine ⟨fun _ => r_hour58 f1 hn ?_, fun q => absurd (by decide) q⟩
  refine r_hour111 (nc := nc) ?_ hc ?_ ?_ ?_
  · unfold spN
    simp only [hs_s, upd_n, ne_eq, Nat.reduceEqDiff, not_false_eq_true]
    exact f2
  · unfold spN
    simp only [hs_n, ne_eq, Nat.reduceEqDiff, not_false_eq_true]
    exact f3
  · intro z
    refine f4 (fun w => z ?_)
    unfold spN
    simp only [hs_s, upd_n (show (0 : Nat) ≠ 17 by decide)]
    exact w
  · intro z
    refine f5 ?_
    unfold spN at z
    simp only [hs_s, upd_n (show (0 : Nat) ≠ 17 by decide)] at z
    exact z
/-- hours, one after the other -/
theorem r_go {x : Int32} (h0 : ¬ (0 ≤ x ∧ x ≤ 400) → RI (-1) μ) (h1 : ∀ m, m ≤ 400 → x = nI m → ∃ P : Nat → mm_M → Prop, P 0 μ ∧ (∀ i ν, i < m → P i ν → ¬ 5000 ≤ ν 48 0 → mm_Cs hh_S 92 [.ref 48] ν (fun _ _ => False) (P (i + 1))) ∧ ∀ i ν, P i ν → (i = m ∨ (i ≤ m ∧ 5000 ≤ ν 48 0)) → RI (ν 48 0) ν) : mm_Cs hh_S 91 [.ref 48, .int x] μ RI RV := by
  refine mm_in rfl (Nat.le_of_ble_eq_true rfl) ?_
  show mm_Rn hh_S 91 RI RV 0 [some (.ref 48), some (.int x), none] [] μ
  (refine mm_run ok_91 (fun t => t == 15) 12 ?_; rw [lb_91_0, rb_91]; simp only [↓w_aload_0, ↓w_fall, ↓w_getf, ↓w_goto, ↓w_ic_ge, ↓w_iconst, ↓w_if_ne, ↓w_iinc, ↓w_iload_1, ↓w_iload_2, ↓w_iret, ↓w_istore_2, ↓w_sipush, ↓li_0, ↓li_s, ↓lr_0, ↓lr_s, ↓gf_48_0, ↓rc_48, ↓w_c68, ↓w_c92, ↓wl_91_0, ↓wl_91_13, ↓wl_91_15, ↓wl_91_40, hs_wr, hs_cp, hs_s, hs_n, hs_hs, upd_s, upd_n, upd_upd, ne_eq, Nat.reduceEqDiff, c1_i, c1_r, c2_i, c2_r, ↓reduceIte, List.set_cons_zero, List.set_cons_succ, mm_cb, List.length_cons, List.length_nil, List.all_cons, List.all_nil, Nat.zero_add, Nat.reduceAdd, Nat.reduceLeDiff, Nat.zero_le, decide_true, Bool.and_self, Bool.and_true, true_and, and_true, forall_const, Bool.or_false, Bool.false_or, Bool.or_true, Bool.true_or, Bool.false_eq_true, Nat.reduceBEq, beq_self_eq_true, ha_11, ha_01, hb_10, hb_0x, imp_self, false_implies, not_true_eq_false, not_false_eq_true])
  refine q_in (fun a1 a2 => br1n ?_) (fun h => br0n (h0 h))
  obtain ⟨m, hm, rfl⟩ := ix_lit (n := 401) i_0 (by decide) a1 a2
  obtain ⟨P, p0, ps, pe⟩ := h1 m (by omega) rfl
  have lp := up_ind (n := m) (P := fun i => ∀ ν, P i ν → mm_Rn hh_S 91 RI RV 15 [some (.ref 48), some (.int (nI m)), some (.int (nI i))] [] ν) (fun i hi ih => by
    intro ν hp
    (refine mm_run ok_91 (fun t => t == 15) 12 ?_; rw [lb_91_15, rb_91]; simp only [↓w_aload_0, ↓w_fall, ↓w_getf, ↓w_goto, ↓w_ic_ge, ↓w_iconst, ↓w_if_ne, ↓w_iinc, ↓w_iload_1, ↓w_iload_2, ↓w_iret, ↓w_istore_2, ↓w_sipush, ↓li_0, ↓li_s, ↓lr_0, ↓lr_s, ↓gf_48_0, ↓rc_48, ↓w_c68, ↓w_c92, ↓wl_91_0, ↓wl_91_13, ↓wl_91_15, ↓wl_91_40, hs_wr, hs_cp, hs_s, hs_n, hs_hs, upd_s, upd_n, upd_upd, ne_eq, Nat.reduceEqDiff, c1_i, c1_r, c2_i, c2_r, ↓reduceIte, List.set_cons_zero, List.set_cons_succ, mm_cb, List.length_cons, List.length_nil, List.all_cons, List.all_nil, Nat.zero_add, Nat.reduceAdd, Nat.reduceLeDiff, Nat.zero_le, decide_true, Bool.and_self, Bool.and_true, true_and, and_true, forall_const, Bool.or_false, Bool.false_or, Bool.or_true, Bool.true_or, Bool.false_eq_true, Nat.reduceBEq, beq_self_eq_true, ha_11, ha_01, hb_10, hb_0x, imp_self, false_implies, not_true_eq_false, not_false_eq_true])
    rw [nI_1]
    refine ⟨fun c => ?_, fun c => ⟨fun d => pe i ν hp (Or.inr ⟨hi, d⟩), fun d => ?_⟩⟩
    · have := le_nI (by omega) (by omega) c
      exact pe i ν hp (Or.inl (by omega))
    · have := nle_nI (by omega) (by omega) c
      exact mm_mono (ps i ν this hp d) (fun _ _ z => z) (fun u hu => ih (i + 1) (by omega) (by omega) u hu))
  exact lp 0 (Nat.zero_le _) μ p0
theorem c_go {x : Int32} (h0 : ¬ (0 ≤ x ∧ x ≤ 400) → RI (-1) μ) (h1 : ∀ m, m ≤ 400 → x = nI m → ∃ P : Nat → mm_M → Prop, P 0 μ ∧ (∀ i ν, i < m → P i ν → ¬ 5000 ≤ ν 0 8 → mm_Cs hh_S 63 [.ref 0] ν (fun _ _ => False) (P (i + 1))) ∧ ∀ i ν, P i ν → (i = m ∨ (i ≤ m ∧ 5000 ≤ ν 0 8)) → RI (ν 0 8) ν) : mm_Cs hh_S 49 [.ref 0, .int x] μ RI RV := by
  refine mm_in rfl (Nat.le_of_ble_eq_true rfl) ?_
  show mm_Rn hh_S 49 RI RV 0 [some (.ref 0), some (.int x), none] [] μ
  (refine mm_run ok_49 (fun t => t == 15) 12 ?_; rw [lb_49_0, rb_49]; simp only [↓w_aload_0, ↓w_fall, ↓w_getf, ↓w_goto, ↓w_ic_ge, ↓w_iconst, ↓w_if_ne, ↓w_iinc, ↓w_iload_1, ↓w_iload_2, ↓w_iret, ↓w_istore_2, ↓w_sipush, ↓li_0, ↓li_s, ↓lr_0, ↓lr_s, ↓gf_0_8, ↓rc_0, ↓w_c63, ↓w_c65, ↓wl_49_0, ↓wl_49_13, ↓wl_49_15, ↓wl_49_40, hs_wr, hs_cp, hs_s, hs_n, hs_hs, upd_s, upd_n, upd_upd, ne_eq, Nat.reduceEqDiff, c1_i, c1_r, c2_i, c2_r, ↓reduceIte, List.set_cons_zero, List.set_cons_succ, mm_cb, List.length_cons, List.length_nil, List.all_cons, List.all_nil, Nat.zero_add, Nat.reduceAdd, Nat.reduceLeDiff, Nat.zero_le, decide_true, Bool.and_self, Bool.and_true, true_and, and_true, forall_const, Bool.or_false, Bool.false_or, Bool.or_true, Bool.true_or, Bool.false_eq_true, Nat.reduceBEq, beq_self_eq_true, ha_11, ha_01, hb_10, hb_0x, imp_self, false_implies, not_true_eq_false, not_false_eq_true])
  refine q_within (fun a1 a2 => br1n ?_) (fun h => br0n (h0 h))
  obtain ⟨m, hm, rfl⟩ := ix_lit (n := 401) i_0 (by decide) a1 a2
  obtain ⟨P, p0, ps, pe⟩ := h1 m (by omega) rfl
  have lp := up_ind (n := m) (P := fun i => ∀ ν, P i ν → mm_Rn hh_S 49 RI RV 15 [some (.ref 0), some (.int (nI m)), some (.int (nI i))] [] ν) (fun i hi ih => by
    intro ν hp
    (refine mm_run ok_49 (fun t => t == 15) 12 ?_; rw [lb_49_15, rb_49]; simp only [↓w_aload_0, ↓w_fall, ↓w_getf, ↓w_goto, ↓w_ic_ge, ↓w_iconst, ↓w_if_ne, ↓w_iinc, ↓w_iload_1, ↓w_iload_2, ↓w_iret, ↓w_istore_2, ↓w_sipush, ↓li_0, ↓li_s, ↓lr_0, ↓lr_s, ↓gf_0_8, ↓rc_0, ↓w_c63, ↓w_c65, ↓wl_49_0, ↓wl_49_13, ↓wl_49_15, ↓wl_49_40, hs_wr, hs_cp, hs_s, hs_n, hs_hs, upd_s, upd_n, upd_upd, ne_eq, Nat.reduceEqDiff, c1_i, c1_r, c2_i, c2_r, ↓reduceIte, List.set_cons_zero, List.set_cons_succ, mm_cb, List.length_cons, List.length_nil, List.all_cons, List.all_nil, Nat.zero_add, Nat.reduceAdd, Nat.reduceLeDiff, Nat.zero_le, decide_true, Bool.and_self, Bool.and_true, true_and, and_true, forall_const, Bool.or_false, Bool.false_or, Bool.or_true, Bool.true_or, Bool.false_eq_true, Nat.reduceBEq, beq_self_eq_true, ha_11, ha_01, hb_10, hb_0x, imp_self, false_implies, not_true_eq_false, not_false_eq_true])
    rw [nI_1]
    refine ⟨fun c => ?_, fun c => ⟨fun d => pe i ν hp (Or.inr ⟨hi, d⟩), fun d => ?_⟩⟩
    · have := le_nI (by omega) (by omega) c
      exact pe i ν hp (Or.inl (by omega))
    · have := nle_nI (by omega) (by omega) c
      exact mm_mono (ps i ν this hp d) (fun _ _ z => z) (fun u hu => ih (i + 1) (by omega) (by omega) u hu))
  exact lp 0 (Nat.zero_le _) μ p0
end M4
