/-- the planner's memory behind a prefix: kinds, rooms, measures, hopes -/
def KD (μ : mm_M) (P F T S : Nat → Nat) : Prop := ∀ k, k < 4 → μ 20 k = nI (P k) ∧ μ 18 k = nI (F k) ∧ μ 16 k = nI (T k) ∧ μ 17 k = nI (S k) ∧ P k ≤ 99 ∧ F k ≤ 9 ∧ T k ≤ 7 ∧ S k < 2 ∧ (1 ≤ F k → 1 ≤ T k ∧ 1 ≤ P k)
def PD (μ : mm_M) (F T S M R hp : Nat → Nat) (j : Nat) (t : Nat → Nat) : Prop := (∀ s, s < 2 → μ 43 s = nI (M s - uM S t s j) ∧ M s ≤ 1000000) ∧ (∀ a, 1 ≤ a → a ≤ 7 → μ 44 a = nI (R a - uR F T t a j) ∧ R a ≤ 1000000) ∧ (∀ k, k ≤ 4 → μ 45 k = nI (hp k) ∧ hp k ≤ 100000)
/-- what the search makes of the memory -/
def srM (μ : mm_M) (tr be : Nat → Int32) (w : Nat) : mm_M := hs (hs (hs μ 46 tr) 47 be) 7 (upd (μ 7) 7 (nI w))
theorem i_mulN {a b : Nat} : nI a * nI b = nI (a * b) := pk_mul a b
theorem i_addN {a b : Nat} : nI a + nI b = nI (a + b) := nI_add a b
theorem use_back (a x f : Int32) : a - x * f - -x * f = a := by
  rw [Int32.neg_mul, Int32.sub_eq_add_neg, Int32.neg_neg, Int32.sub_add_cancel]
theorem use_back1 (a x : Int32) : a - x - -x = a := by
  rw [Int32.sub_eq_add_neg (a - x), Int32.neg_neg, Int32.sub_add_cancel]
theorem usR_back {f : Nat → Int32} {T : Nat} {x d : Int32} : usR (usR f T (x * d) 8) T (-x * d) 8 = f := by
  funext a
  unfold usR
  by_cases h : T ≤ a ∧ a < 8 ∧ sup a T = true
  · rw [if_pos h, if_pos h, use_back]
  · rw [if_neg h, if_neg h]
theorem sub_nI {a b : Nat} (h : b ≤ a) : nI a - nI b = nI (a - b) := pk_sub h
section PL3
variable {μ : mm_M} {RI : Int32 → mm_M → Prop} {RV : mm_M → Prop} {P F T S M R hp cc : Nat → Nat}
theorem q_mostP {j : Nat} {t : Nat → Nat} (hj : j < 4) (hK : KD μ P F T S) (hD : PD μ F T S M R hp j t) (h : ∀ c, c ≤ 20 → mcP F T S M R t j c → RI (nI c) μ) : mm_Cs hh_S 39 [.ref 7, .ref 2, .int (nI j)] μ RI RV := by
  obtain ⟨k1, k2, k3, k4, k5, k6, k7, k8, k9⟩ := hK j hj
  refine q_mostCases (r := fun a => R a - uR F T t a j) hj k2 k6 k3 k7 (fun h => (k9 h).1) k4 k8 (hD.1 (S j) k8).1 (by have := (hD.1 (S j) k8).2; omega) (fun a h1 h2 => ⟨(hD.2.1 a h1 h2).1, by have := (hD.2.1 a h1 h2).2; omega⟩) (fun h0 => h 0 (by omega) ⟨fun _ => rfl, fun h1 => by omega⟩) (fun h1 c hc => h c ((hc c).mp (Nat.le_refl c)).1 ⟨fun h0 => by omega, fun _ => hc⟩)
/-- the memory behind 'use' of x of kind j -/
theorem PD_use {j x : Nat} {t : Nat → Nat} (hj : j < 4) (hK : KD μ P F T S) (hD : PD μ F T S M R hp j t) (hp2 : pf F T S M R (j + 1) (ux t j x)) (tr : Nat → Int32) : PD (hs (hs (hs μ 46 tr) 43 (upd (μ 43) (S j) (μ 43 (S j) - nI x))) 44 (usR (μ 44) (T j) (nI x * μ 18 j) 8)) F T S M R hp (j + 1) (ux t j x) := by
  obtain ⟨k1, k2, k3, k4, k5, k6, k7, k8, k9⟩ := hK j hj
  refine ⟨fun s hs => ?_, fun a h1 h2 => ?_, fun k hk => ?_⟩
  · refine ⟨?_, (hD.1 s hs).2⟩
    simp only [hs_s, hs_n, ne_eq, Nat.reduceEqDiff, not_false_eq_true]
    have e1 := (hD.1 s hs).1
    have e2 := hp2.2.1 s hs
    unfold uM at e2 ⊢
    rw [uM_ext j ux_ext, ux_s] at e2 ⊢
    by_cases e : S j = s
    · subst e
      rw [if_pos rfl] at e2 ⊢
      rw [upd_s, e1, sub_nI (by omega)]
      congr 1
      omega
    · rw [upd_n (fun h => e h.symm), if_neg e, e1]
      rfl
  · refine ⟨?_, (hD.2.1 a h1 h2).2⟩
    simp only [hs_s, hs_n, ne_eq, Nat.reduceEqDiff, not_false_eq_true]
    have e1 := (hD.2.1 a h1 h2).1
    have e2 := hp2.2.2 a h1 h2
    unfold uR at e2 ⊢
    rw [uR_ext j ux_ext, ux_s] at e2 ⊢
    unfold usR
    by_cases e : sup a (T j) = true
    · have hTa : T j ≤ a := by
        have h3 : a &&& T j = T j := of_decide_eq_true e
        have := Nat.and_le_left (n := a) (m := T j)
        omega
      rw [if_pos e] at e2 ⊢
      rw [if_pos ⟨hTa, by omega, e⟩, e1, k2, i_mulN, sub_nI (by omega)]
      congr 1
      omega
    · rw [if_neg e, if_neg (fun z => e z.2.2), e1]
      rfl
  · simp only [hs_n, ne_eq, Nat.reduceEqDiff, not_false_eq_true]
    exact hD.2.2 k hk
theorem KD_of {ν : mm_M} (h1 : ν 20 = μ 20) (h2 : ν 18 = μ 18) (h3 : ν 16 = μ 16) (h4 : ν 17 = μ 17) (h : KD μ P F T S) : KD ν P F T S := by
  intro k hk
  rw [h1, h2, h3, h4]
  exact h k hk
/-- what a search at a level promises; k is its number in the table -/
def SrC (k : Nat) (P F T S M R hp : Nat → Nat) (j : Nat) : Prop := ∀ (μ : mm_M) (t b : Nat → Nat) (w : Nat) (RI : Int32 → mm_M → Prop) (RV : mm_M → Prop), KD μ P F T S → PD μ F T S M R hp j t → pf F T S M R j t → (∀ k, k < j → μ 46 k = nI (t k)) → (∀ k, k < 4 → μ 47 k = nI (b k)) → μ 7 7 = nI w → w ≤ 100000 → St P F T S M R (Gt j t) b w → (∀ tr be b' w', (∀ k, k < j → tr k = μ 46 k) → (∀ k, k < 4 → be k = nI (b' k)) → w' ≤ 100000 → St P F T S M R (fun n => Gt j t n ∨ Ext j t n) b' w' → RV (srM μ tr be w')) → mm_Cs hh_S k [.ref 7, .ref 2, .int (nI j), .int (nI (wo P t j))] μ RI RV
theorem wo_le {t : Nat → Nat} (hP : ∀ k, k < 4 → P k ≤ 99) : ∀ j, j ≤ 4 → pf F T S M R j t → wo P t j ≤ j * 1980
  | 0, _, _ => Nat.le_refl _
  | j + 1, h, hp => by
    have := wo_le hP j (by omega) (pf_sub (by omega) hp)
    have h1 := (hp.1 j (by omega)).1
    have h2 := hP j (by omega)
    have h3 : t j * P j ≤ 20 * 99 := Nat.mul_le_mul h1 h2
    have e : wo P t (j + 1) = wo P t j + t j * P j := rfl
    omega
theorem srM_id {μ : mm_M} {w : Nat} (h : μ 7 7 = nI w) : srM μ (μ 46) (μ 47) w = μ := by
  unfold srM
  rw [hs_id, hs_id, ← h, upd_id, hs_id]
theorem srM_fin {μ : mm_M} {tr be x1 m1 r1 tr2 be2 : Nat → Int32} {w w2 : Nat} : hs (hs (srM (hs (hs (hs (srM μ tr be w) 46 x1) 43 m1) 44 r1) tr2 be2 w2) 43 (μ 43)) 44 (μ 44) = srM μ tr2 be2 w2 := by
  funext c
  unfold srM
  by_cases h1 : c = 44
  · subst h1
    simp only [hs_s, hs_n, ne_eq, Nat.reduceEqDiff, not_false_eq_true]
  · by_cases h2 : c = 43
    · subst h2
      simp only [hs_s, hs_n, ne_eq, Nat.reduceEqDiff, not_false_eq_true]
    · by_cases h3 : c = 7
      · subst h3
        simp only [hs_s, hs_n, ne_eq, Nat.reduceEqDiff, not_false_eq_true, upd_upd]
      · by_cases h4 : c = 47
        · subst h4
          simp only [hs_s, hs_n, ne_eq, Nat.reduceEqDiff, not_false_eq_true]
        · by_cases h5 : c = 46
          · subst h5
            simp only [hs_s, hs_n, ne_eq, Nat.reduceEqDiff, not_false_eq_true]
          · rw [hs_n h1, hs_n h2, hs_n h3, hs_n h4, hs_n h5, hs_n h1, hs_n h2, hs_n h5, hs_n h3, hs_n h4, hs_n h5, hs_n h3, hs_n h4, hs_n h5]
theorem q_search4 : SrC 113 P F T S M R hp 4 := by
  intro μ t b w RI RV hK hD ht htr hb hw hw5 hS h
  have hg := wo_le (P := P) (fun k hk => (hK k hk).2.2.2.2.1) 4 (Nat.le_refl 4) ht
  refine mm_in rfl (Nat.le_of_ble_eq_true rfl) ?_
  show mm_Rn hh_S 113 RI RV 0 [some (.ref 7), some (.ref 2), some (.int (nI 4)), some (.int (nI (wo P t 4))), none, none, none, none] [] μ
  (refine mm_run ok_113 (fun t => t == 11) 5 ?_; rw [lb_113_0, rb_113]; simp only [↓w_aload_0, ↓w_aload_1, ↓w_fall, ↓w_getf, ↓w_goto, ↓w_iadd, ↓w_iald, ↓w_iast, ↓w_ic_ge, ↓w_ic_lt, ↓w_ic_ne, ↓w_iconst, ↓w_iload, ↓w_iload_2, ↓w_iload_3, ↓w_imul, ↓w_istore, ↓w_vret, ↓li_0, ↓li_s, ↓lr_0, ↓lr_s, ↓gf_2_5, ↓gf_7_3, ↓gf_7_4, ↓gf_7_7, ↓rc_7, ↓ar_20, ↓ar_45, ↓ar_46, ↓w_c38, ↓w_c39, ↓w_c40, ↓wl_113_0, ↓wl_113_11, ↓wl_113_29, ↓wl_113_30, ↓wl_113_36, ↓wl_113_75, ↓wl_113_116, hs_wr, hs_cp, hs_s, hs_n, hs_hs, upd_s, upd_n, upd_upd, ne_eq, Nat.reduceEqDiff, c1_i, c1_r, c2_i, c2_r, ↓reduceIte, List.set_cons_zero, List.set_cons_succ, mm_cb, List.length_cons, List.length_nil, List.all_cons, List.all_nil, Nat.zero_add, Nat.reduceAdd, Nat.reduceLeDiff, Nat.zero_le, decide_true, Bool.and_self, Bool.and_true, true_and, and_true, forall_const, Bool.or_false, Bool.false_or, Bool.or_true, Bool.true_or, Bool.false_eq_true, Nat.reduceBEq, beq_self_eq_true, ha_11, ha_01, hb_10, hb_0x, imp_self, false_implies, not_true_eq_false, not_false_eq_true])
  refine ⟨fun q => absurd q (by decide), fun _ => ?_⟩
  refine q_keepTried (fun q => ?_) (fun q => ?_)
  · rw [hw] at q
    have q2 : wo P t 4 < w := by
      rw [i_lt, i_nI (by omega), i_nI (by omega)] at q
      omega
    have := h (μ 46) (μ 47) b w (fun _ _ => rfl) hb hw5 (hS.leaf0 q2)
    rw [srM_id hw] at this
    exact this
  · rw [hw] at q
    have q2 : ¬ wo P t 4 < w := fun z => q (nI_lt z (by omega))
    have := h (μ 46) (va_cpy (μ 46) (μ 47) 0 0 4) t (wo P t 4) (fun _ _ => rfl) (fun k hk => by
      rw [pk_cpy_in (by omega) (by omega), Nat.zero_add, Nat.sub_zero]
      exact htr k hk) (by omega) (hS.leaf1 ht q2)
    unfold srM at this
    rw [hs_id, hs_sw (by decide)] at this
    exact this
/-- the plans that are left can't be worth more -/
theorem prune {j x w : Nat} {t b : Nat → Nat} (hj : j < 4) (h4 : hp 4 = 0) (hh : ∀ k, k < 4 → hp k = hp (k + 1) + P k * cc k) (hc : ∀ n, pf F T S M R 4 n → ∀ k, k < 4 → n k ≤ cc k) (hS : St P F T S M R (fun n => Gt j t n ∨ (Ext j t n ∧ x + 1 ≤ n j)) b w) (hw : wo P t j + x * P j + hp (j + 1) < w) : St P F T S M R (fun n => Gt j t n ∨ Ext j t n) b w := by
  refine hS.mono (fun n hn hv => ?_)
  rcases hv with hv | hv
  · exact Or.inl (Or.inl hv)
  · by_cases hx : x + 1 ≤ n j
    · exact Or.inl (Or.inr ⟨hv, hx⟩)
    · right
      have h1 := wo_hope h4 hh (hc n hn) (3 - j) (j + 1) (by omega)
      have e : wo P n (j + 1) = wo P n j + n j * P j := rfl
      rw [wo_ext j hv] at e
      have h2 : n j * P j ≤ x * P j := Nat.mul_le_mul_right _ (by omega)
      omega
end PL3
