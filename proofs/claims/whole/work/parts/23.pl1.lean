/-! the class's planner: its parts -/
def sup (a T : Nat) : Bool := decide (a &&& T = T)
theorem sup_ok : ∀ a, a < 8 → ∀ T, T < 8 → (nI a &&& nI T = nI T ↔ sup a T = true) := by decide +kernel
/-- the most cases: bounds that hold for x -/
def mcO (F m : Nat) (r : Nat → Nat) (T i x : Nat) : Prop := x ≤ 20 ∧ x ≤ m ∧ ∀ a, T ≤ a → a < i → sup a T = true → x * F ≤ r a
theorem i_min {a b : Nat} (ha : a < 2147483648) (hb : b < 2147483648) : (if nI a < nI b then nI a else nI b) = nI (min a b) := by
  by_cases h : a < b
  · rw [if_pos (nI_lt h (by omega)), Nat.min_eq_left (by omega)]
  · rw [if_neg (nI_nlt (by omega) (by omega)), Nat.min_eq_right (by omega)]
theorem div_i {a d : Nat} (ha : a < 2147483648) (h0 : 0 < d) (hd : d < 2147483648) : nI a / nI d = nI (a / d) := pk_div (by omega) h0 (by omega)
/-- a row of rooms, used -/
def usR (f : Nat → Int32) (T : Nat) (d : Int32) (i : Nat) : Nat → Int32 := fun a => if T ≤ a ∧ a < i ∧ sup a T = true then f a - d else f a
section PL1
variable {μ : mm_M} {RI : Int32 → mm_M → Prop} {RV : mm_M → Prop}
theorem q_mostCases {k F T s m : Nat} {r : Nat → Nat} (hk : k < 4) (hF : μ 18 k = nI F) (hF9 : F ≤ 9) (hT : μ 16 k = nI T) (hT7 : T ≤ 7) (hT1 : 1 ≤ F → 1 ≤ T) (hs0 : μ 17 k = nI s) (hs2 : s < 2) (hm : μ 43 s = nI m) (hmb : m ≤ 1000000) (hr : ∀ a, 1 ≤ a → a ≤ 7 → μ 44 a = nI (r a) ∧ r a ≤ 1000000) (h0 : F = 0 → RI 0 μ) (h1 : 1 ≤ F → ∀ c, (∀ x, x ≤ c ↔ mcO F m r T 8 x) → RI (nI c) μ) : mm_Cs hh_S 39 [.ref 7, .ref 2, .int (nI k)] μ RI RV := by
  have hik := in_nI hk (by omega)
  refine mm_in rfl (Nat.le_of_ble_eq_true rfl) ?_
  show mm_Rn hh_S 39 RI RV 0 [some (.ref 7), some (.ref 2), some (.int (nI k)), none, none, none, none] [] μ
  (refine mm_run ok_39 (fun t => t == 44) 12 ?_; rw [lb_39_0, rb_39]; simp only [↓w_aload_0, ↓w_aload_1, ↓w_bipush, ↓w_fall, ↓w_getf, ↓w_goto, ↓w_iald, ↓w_iand, ↓w_ic_ge, ↓w_ic_gt, ↓w_ic_ne, ↓w_iconst, ↓w_idiv, ↓w_iinc, ↓w_iload, ↓w_iload_2, ↓w_iload_3, ↓w_iret, ↓w_istore, ↓w_istore_3, ↓w_min, ↓li_0, ↓li_s, ↓lr_0, ↓lr_s, ↓gf_2_1, ↓gf_2_2, ↓gf_2_3, ↓gf_7_1, ↓gf_7_2, ↓ar_16, ↓ar_17, ↓ar_18, ↓ar_43, ↓ar_44, ↓wl_39_0, ↓wl_39_14, ↓wl_39_44, ↓wl_39_77, ↓wl_39_83, hs_wr, hs_cp, hs_s, hs_n, hs_hs, upd_s, upd_n, upd_upd, ne_eq, Nat.reduceEqDiff, c1_i, c1_r, c2_i, c2_r, ↓reduceIte, List.set_cons_zero, List.set_cons_succ, mm_cb, List.length_cons, List.length_nil, List.all_cons, List.all_nil, Nat.zero_add, Nat.reduceAdd, Nat.reduceLeDiff, Nat.zero_le, decide_true, Bool.and_self, Bool.and_true, true_and, and_true, forall_const, Bool.or_false, Bool.false_or, Bool.or_true, Bool.true_or, Bool.false_eq_true, Nat.reduceBEq, beq_self_eq_true, ha_11, ha_01, hb_10, hb_0x, imp_self, false_implies, not_true_eq_false, not_false_eq_true])
  rw [nI_cl (show k < 2147483648 by omega), hF, hT, hs0, nI_cl (show s < 2147483648 by omega), hm]
  refine ⟨hik, fun q => ⟨hik, hik, in_nI hs2 (by omega), ?_⟩, fun q => h0 ?_⟩
  · have hF1 : 1 ≤ F := by
      rw [i_le, i_nI (by omega), i_1] at q
      omega
    have hT1 := hT1 hF1
    have h1 := h1 hF1
    rw [show (20 : Int32) = nI 20 from rfl, i_min (by omega) (by omega)]
    have lp := up_ind (n := 8) (P := fun i => T ≤ i → ∀ c, c ≤ 20 → (∀ x, x ≤ c ↔ mcO F m r T i x) → mm_Rn hh_S 39 RI RV 44 [some (.ref 7), some (.ref 2), some (.int (nI k)), some (.int (nI F)), some (.int (nI T)), some (.int (nI c)), some (.int (nI i))] [] μ) (fun i hi ih => by
      intro hTi c hc20 hc
      have ih := ih (i + 1) (by omega)
      (refine mm_run ok_39 (fun t => t == 44) 12 ?_; rw [lb_39_44, rb_39]; simp only [↓w_aload_0, ↓w_aload_1, ↓w_bipush, ↓w_fall, ↓w_getf, ↓w_goto, ↓w_iald, ↓w_iand, ↓w_ic_ge, ↓w_ic_gt, ↓w_ic_ne, ↓w_iconst, ↓w_idiv, ↓w_iinc, ↓w_iload, ↓w_iload_2, ↓w_iload_3, ↓w_iret, ↓w_istore, ↓w_istore_3, ↓w_min, ↓li_0, ↓li_s, ↓lr_0, ↓lr_s, ↓gf_2_1, ↓gf_2_2, ↓gf_2_3, ↓gf_7_1, ↓gf_7_2, ↓ar_16, ↓ar_17, ↓ar_18, ↓ar_43, ↓ar_44, ↓wl_39_0, ↓wl_39_14, ↓wl_39_44, ↓wl_39_77, ↓wl_39_83, hs_wr, hs_cp, hs_s, hs_n, hs_hs, upd_s, upd_n, upd_upd, ne_eq, Nat.reduceEqDiff, c1_i, c1_r, c2_i, c2_r, ↓reduceIte, List.set_cons_zero, List.set_cons_succ, mm_cb, List.length_cons, List.length_nil, List.all_cons, List.all_nil, Nat.zero_add, Nat.reduceAdd, Nat.reduceLeDiff, Nat.zero_le, decide_true, Bool.and_self, Bool.and_true, true_and, and_true, forall_const, Bool.or_false, Bool.false_or, Bool.or_true, Bool.true_or, Bool.false_eq_true, Nat.reduceBEq, beq_self_eq_true, ha_11, ha_01, hb_10, hb_0x, imp_self, false_implies, not_true_eq_false, not_false_eq_true])
      rw [nI_1, show (7 : Int32) = nI 7 from rfl]
      refine ⟨fun q => ?_, fun q => ?_⟩
      · have hi8 : i = 8 := by
          rw [i_lt, i_nI (by omega), i_nI (by omega)] at q
          omega
        subst hi8
        exact h1 c hc
      · have hi7 : i < 8 := by
          rw [i_lt, i_nI (by omega), i_nI (by omega)] at q
          omega
        have ih := ih (by omega) (by omega)
        have hsp := sup_ok i hi7 T (by omega)
        obtain ⟨er, hrb⟩ := hr i (by omega) (by omega)
        rw [nI_cl (show i < 2147483648 by omega), er, div_i (by omega) hF1 (by omega)]
        have hd : r i / F ≤ 1000000 := Nat.le_trans (Nat.div_le_self _ _) hrb
        rw [i_min (by omega) (by omega)]
        refine ⟨fun u => ?_, fun u => ⟨in_nI (by omega) (by omega), nI_ne0 (by omega) (by omega), ?_⟩⟩
        · refine ih c hc20 (fun x => ?_)
          rw [hc x]
          unfold mcO
          constructor
          · rintro ⟨a1, a2, a3⟩
            refine ⟨a1, a2, fun a b1 b2 b3 => ?_⟩
            by_cases e : a = i
            · subst e
              exact absurd (hsp.mpr b3) u
            · exact a3 a b1 (by omega) b3
          · rintro ⟨a1, a2, a3⟩
            exact ⟨a1, a2, fun a b1 b2 b3 => a3 a b1 (by omega) b3⟩
        · refine ih _ (by omega) (fun x => ?_)
          rw [Nat.le_min, hc x, Nat.le_div_iff_mul_le (by omega)]
          unfold mcO
          constructor
          · rintro ⟨b0, a1, a2, a3⟩
            refine ⟨a1, a2, fun a b1 b2 b3 => ?_⟩
            by_cases e : a = i
            · subst e
              exact b0
            · exact a3 a b1 (by omega) b3
          · rintro ⟨a1, a2, a3⟩
            exact ⟨a3 i hTi (by omega) (hsp.mp u), a1, a2, fun a b1 b2 b3 => a3 a b1 (by omega) b3⟩)
    refine lp T (by omega) (Nat.le_refl T) (min m 20) (by omega) (fun x => ?_)
    unfold mcO
    rw [Nat.le_min]
    constructor
    · rintro ⟨a1, a2⟩
      exact ⟨a2, a1, fun a b1 b2 b3 => by omega⟩
    · rintro ⟨a1, a2, -⟩
      exact ⟨a2, a1⟩
  · rw [i_le, i_nI (by omega), i_1] at q
    omega
theorem usR_s {f : Nat → Int32} {T i : Nat} {d : Int32} (hT : T ≤ i) (hs : sup i T = true) : upd (usR f T d i) i (usR f T d i i - d) = usR f T d (i + 1) := by
  funext a
  unfold upd usR
  by_cases e : a = i
  · subst e
    rw [if_pos rfl, if_neg (by omega), if_pos ⟨hT, by omega, hs⟩]
  · rw [if_neg e]
    simp only [show (T ≤ a ∧ a < i ∧ sup a T = true) = (T ≤ a ∧ a < i + 1 ∧ sup a T = true) by apply propext; constructor <;> (rintro ⟨x, y, z⟩; exact ⟨x, by omega, z⟩)]
theorem usR_n {f : Nat → Int32} {T i : Nat} {d : Int32} (hs : ¬ sup i T = true) : usR f T d (i + 1) = usR f T d i := by
  funext a
  unfold usR
  by_cases e : a = i
  · subst e
    rw [if_neg (fun z => hs z.2.2), if_neg (by omega)]
  · simp only [show (T ≤ a ∧ a < i + 1 ∧ sup a T = true) = (T ≤ a ∧ a < i ∧ sup a T = true) by apply propext; constructor <;> (rintro ⟨x, y, z⟩; exact ⟨x, by omega, z⟩)]
theorem usR_0 {f : Nat → Int32} {T : Nat} {d : Int32} : usR f T d T = f := by
  funext a
  unfold usR
  rw [if_neg (by omega)]
theorem q_use {k T s : Nat} (hk : k < 4) (hT : μ 16 k = nI T) (hT7 : T ≤ 7) (hs0 : μ 17 k = nI s) (hs2 : s < 2) {x : Int32} (h : RV (hs (hs μ 43 (upd (μ 43) s (μ 43 s - x))) 44 (usR (μ 44) T (x * μ 18 k) 8))) : mm_Cs hh_S 40 [.ref 7, .ref 2, .int (nI k), .int x] μ RI RV := by
  have hik := in_nI hk (by omega)
  refine mm_in rfl (Nat.le_of_ble_eq_true rfl) ?_
  show mm_Rn hh_S 40 RI RV 0 [some (.ref 7), some (.ref 2), some (.int (nI k)), some (.int x), none, none] [] μ
  (refine mm_run ok_40 (fun t => t == 27) 12 ?_; rw [lb_40_0, rb_40]; simp only [↓w_aload_0, ↓w_aload_1, ↓w_bipush, ↓w_dup2, ↓w_fall, ↓w_getf, ↓w_goto, ↓w_iald, ↓w_iand, ↓w_iast, ↓w_ic_gt, ↓w_ic_ne, ↓w_iinc, ↓w_iload, ↓w_iload_2, ↓w_iload_3, ↓w_imul, ↓w_istore, ↓w_isub, ↓w_vret, ↓li_0, ↓li_s, ↓lr_0, ↓lr_s, ↓gf_2_1, ↓gf_2_2, ↓gf_2_3, ↓gf_7_1, ↓gf_7_2, ↓ar_16, ↓ar_17, ↓ar_18, ↓ar_43, ↓ar_44, ↓wl_40_0, ↓wl_40_27, ↓wl_40_62, ↓wl_40_68, hs_wr, hs_cp, hs_s, hs_n, hs_hs, upd_s, upd_n, upd_upd, ne_eq, Nat.reduceEqDiff, c1_i, c1_r, c2_i, c2_r, ↓reduceIte, List.set_cons_zero, List.set_cons_succ, mm_cb, List.length_cons, List.length_nil, List.all_cons, List.all_nil, Nat.zero_add, Nat.reduceAdd, Nat.reduceLeDiff, Nat.zero_le, decide_true, Bool.and_self, Bool.and_true, true_and, and_true, forall_const, Bool.or_false, Bool.false_or, Bool.or_true, Bool.true_or, Bool.false_eq_true, Nat.reduceBEq, beq_self_eq_true, ha_11, ha_01, hb_10, hb_0x, imp_self, false_implies, not_true_eq_false, not_false_eq_true])
  rw [nI_cl (show k < 2147483648 by omega), hT, hs0, nI_cl (show s < 2147483648 by omega)]
  refine ⟨hik, hik, in_nI hs2 (by omega), in_nI hs2 (by omega), ?_⟩
  have e1 : (hs μ 43 (upd (μ 43) s (μ 43 s - x))) 44 = μ 44 := by simp only [hs_n, ne_eq, Nat.reduceEqDiff, not_false_eq_true]
  have e2 : (hs μ 43 (upd (μ 43) s (μ 43 s - x))) 18 = μ 18 := by simp only [hs_n, ne_eq, Nat.reduceEqDiff, not_false_eq_true]
  rw [← e1, ← e2] at h
  clear e1 e2
  generalize hs μ 43 (upd (μ 43) s (μ 43 s - x)) = ν at h ⊢
  have lp := up_ind (n := 8) (P := fun i => T ≤ i → mm_Rn hh_S 40 RI RV 27 [some (.ref 7), some (.ref 2), some (.int (nI k)), some (.int x), some (.int (nI T)), some (.int (nI i))] [] (hs ν 44 (usR (ν 44) T (x * ν 18 k) i))) (fun i hi ih => by
    intro hTi
    have ih := ih (i + 1) (by omega)
    (refine mm_run ok_40 (fun t => t == 27) 12 ?_; rw [lb_40_27, rb_40]; simp only [↓w_aload_0, ↓w_aload_1, ↓w_bipush, ↓w_dup2, ↓w_fall, ↓w_getf, ↓w_goto, ↓w_iald, ↓w_iand, ↓w_iast, ↓w_ic_gt, ↓w_ic_ne, ↓w_iinc, ↓w_iload, ↓w_iload_2, ↓w_iload_3, ↓w_imul, ↓w_istore, ↓w_isub, ↓w_vret, ↓li_0, ↓li_s, ↓lr_0, ↓lr_s, ↓gf_2_1, ↓gf_2_2, ↓gf_2_3, ↓gf_7_1, ↓gf_7_2, ↓ar_16, ↓ar_17, ↓ar_18, ↓ar_43, ↓ar_44, ↓wl_40_0, ↓wl_40_27, ↓wl_40_62, ↓wl_40_68, hs_wr, hs_cp, hs_s, hs_n, hs_hs, upd_s, upd_n, upd_upd, ne_eq, Nat.reduceEqDiff, c1_i, c1_r, c2_i, c2_r, ↓reduceIte, List.set_cons_zero, List.set_cons_succ, mm_cb, List.length_cons, List.length_nil, List.all_cons, List.all_nil, Nat.zero_add, Nat.reduceAdd, Nat.reduceLeDiff, Nat.zero_le, decide_true, Bool.and_self, Bool.and_true, true_and, and_true, forall_const, Bool.or_false, Bool.false_or, Bool.or_true, Bool.true_or, Bool.false_eq_true, Nat.reduceBEq, beq_self_eq_true, ha_11, ha_01, hb_10, hb_0x, imp_self, false_implies, not_true_eq_false, not_false_eq_true])
    rw [nI_1, show (7 : Int32) = nI 7 from rfl]
    refine ⟨fun q => ?_, fun q => ?_⟩
    · have hi8 : i = 8 := by
        rw [i_lt, i_nI (by omega), i_nI (by omega)] at q
        omega
      subst hi8
      exact h
    · have hi7 : i < 8 := by
        rw [i_lt, i_nI (by omega), i_nI (by omega)] at q
        omega
      have ih := ih (by omega) (by omega)
      have hsp := sup_ok i hi7 T (by omega)
      rw [nI_cl (show i < 2147483648 by omega), nI_cl (show k < 2147483648 by omega)]
      refine ⟨fun u => ?_, fun u => ⟨in_nI (by omega) (by omega), hik, in_nI (by omega) (by omega), ?_⟩⟩
      · rw [usR_n (fun z => u (hsp.mpr z))] at ih
        exact ih
      · rw [usR_s hTi (hsp.mp u)]
        exact ih)
  have := lp T (by omega) (Nat.le_refl T)
  rw [usR_0, hs_id] at this
  exact this
theorem q_keepTried {g : Int32} (h0 : g < μ 7 7 → RV μ) (h1 : ¬ g < μ 7 7 → RV (hs (hs μ 7 (upd (μ 7) 7 g)) 47 (va_cpy (μ 46) (μ 47) 0 0 4))) : mm_Cs hh_S 38 [.ref 7, .int g] μ RI RV := by
  refine mm_in rfl (Nat.le_of_ble_eq_true rfl) ?_
  show mm_Rn hh_S 38 RI RV 0 [some (.ref 7), some (.int g)] [] μ
  (refine mm_run ok_38 (fun t => false) 12 ?_; rw [lb_38_0, rb_38]; simp only [↓w_aload_0, ↓w_cpy, ↓w_fall, ↓w_getf, ↓w_ic_lt, ↓w_iconst, ↓w_iload_1, ↓w_putf, ↓w_vret, ↓li_0, ↓li_s, ↓lr_0, ↓lr_s, ↓gf_7_4, ↓gf_7_5, ↓gf_7_7, ↓pf_7_7, ↓ar_46, ↓al_46, ↓ar_47, ↓al_47, ↓wl_38_0, ↓wl_38_27, hs_wr, hs_cp, hs_s, hs_n, hs_hs, upd_s, upd_n, upd_upd, ne_eq, Nat.reduceEqDiff, c1_i, c1_r, c2_i, c2_r, ↓reduceIte, List.set_cons_zero, List.set_cons_succ, mm_cb, List.length_cons, List.length_nil, List.all_cons, List.all_nil, Nat.zero_add, Nat.reduceAdd, Nat.reduceLeDiff, Nat.zero_le, decide_true, Bool.and_self, Bool.and_true, true_and, and_true, forall_const, Bool.or_false, Bool.false_or, Bool.or_true, Bool.true_or, Bool.false_eq_true, Nat.reduceBEq, beq_self_eq_true, ha_11, ha_01, hb_10, hb_0x, imp_self, false_implies, not_true_eq_false, not_false_eq_true])
  exact ⟨h0, fun q => ⟨by decide, by decide, by decide, by decide, by decide, h1 q⟩⟩
end PL1
