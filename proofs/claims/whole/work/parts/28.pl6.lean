/-! the class's planner: update -/
theorem pf_congr {F T S M R M' R' n : Nat → Nat} {j : Nat} (hM : ∀ s, s < 2 → M s = M' s) (hR : ∀ a, 1 ≤ a → a ≤ 7 → R a = R' a) (h : pf F T S M R j n) : pf F T S M' R' j n := ⟨h.1, fun s hs => by rw [← hM s hs]; exact h.2.1 s hs, fun a h1 h2 => by rw [← hR a h1 h2]; exact h.2.2 a h1 h2⟩
theorem Opt_congr {P F T S M R M' R' b : Nat → Nat} {w : Nat} (hM : ∀ s, s < 2 → M s = M' s) (hR : ∀ a, 1 ≤ a → a ≤ 7 → R a = R' a) (h : Opt P F T S M R b w) : Opt P F T S M' R' b w := ⟨pf_congr hM hR h.1, h.2.1, fun n hn => h.2.2 n (pf_congr (fun s hs => (hM s hs).symm) (fun a h1 h2 => (hR a h1 h2).symm) hn)⟩
theorem RZ_congr {Z Z' : Nat → Nat} (h : ∀ z, z < 3 → Z z = Z' z) (a : Nat) : RZ Z a = RZ Z' a := by
  unfold RZ
  rw [h 0 (by omega), h 1 (by omega), h 2 (by omega)]
/-- what is known of the planner's best plan -/
def Ob (μ : mm_M) (P F T S M Z : Nat → Nat) : Prop := ∃ b w, Opt P F T S M (RZ Z) b w ∧ (∀ k, k < 4 → μ 47 k = nI (b k)) ∧ μ 7 7 = nI w ∧ w ≤ 100000
def SZ (μ : mm_M) (M Z : Nat → Nat) : Prop := (∀ z, z < 3 → μ 42 z = nI (Z z) ∧ Z z ≤ 300000) ∧ (∀ s, s < 2 → μ 43 s = nI (M s) ∧ M s ≤ 1000000)
def Pl (μ ν : mm_M) : Prop := ∀ c, c ≠ 7 → (c < 42 ∨ 47 < c) → ν c = μ c
theorem nI_inj2 {a b : Nat} (ha : a < 2147483648) (hb : b < 2147483648) (h : nI a = nI b) : a = b := by
  rw [i_eq, i_nI ha, i_nI hb] at h
  omega
theorem SZ_u {μ : mm_M} {M Z M' Z' : Nat → Nat} (h : SZ μ M Z) (h' : SZ μ M' Z') : (∀ s, s < 2 → M s = M' s) ∧ ∀ z, z < 3 → Z z = Z' z := by
  constructor
  · intro s hs
    have a := h.2 s hs
    have b := h'.2 s hs
    exact nI_inj2 (by omega) (by omega) (a.1.symm.trans b.1)
  · intro z hz
    have a := h.1 z hz
    have b := h'.1 z hz
    exact nI_inj2 (by omega) (by omega) (a.1.symm.trans b.1)
theorem Ob_congr {μ : mm_M} {P F T S M Z M' Z' : Nat → Nat} (hM : ∀ s, s < 2 → M s = M' s) (hZ : ∀ z, z < 3 → Z z = Z' z) (h : Ob μ P F T S M Z) : Ob μ P F T S M' Z' := by
  obtain ⟨b, w, h1, h2⟩ := h
  exact ⟨b, w, Opt_congr hM (fun a _ _ => RZ_congr hZ a) h1, h2⟩
theorem nI_any (x : Int32) : x = nI x.toBitVec.toNat := by
  apply Int32.toBitVec_inj.mp
  show x.toBitVec = BitVec.ofNat 32 x.toBitVec.toNat
  simp
section PL6
variable {μ : mm_M} {RI : Int32 → mm_M → Prop} {RV : mm_M → Prop} {P F T S M Z : Nat → Nat}
/-- prepare, then search -/
theorem q_ps (hK : KD μ P F T S) (hS : SZ μ M Z) (h4 : μ 45 4 = 0) (h : ∀ ν, Pl μ ν → ν 7 6 = μ 7 6 → SZ ν M Z → ν 45 4 = 0 → Ob ν P F T S M Z → RV ν) : mm_Cs hh_S 37 [.ref 7, .ref 2] μ (fun _ _ => False) (fun μ2 => mm_Cs hh_S 109 [.ref 7, .ref 2, .int 0, .int 0] μ2 (fun _ _ => False) RV) := by
  refine q_prepare (M := M) hK hS.2 hS.1 h4 (fun rm hop hp cc a1 a2 a3 a4 a5 => ?_)
  have hcc : ∀ n, pf F T S M (RZ Z) 4 n → ∀ k, k < 4 → n k ≤ cc k := fun n hn k hk => mc0_le hk (hK k hk).2.2.2.2.2.2.2.1 (fun h => ((hK k hk).2.2.2.2.2.2.2.2 h).1) (a5 k hk) hn
  have sr : SrC 109 P F T S M (RZ Z) hp 0 := q_search0 a3 a4 hcc (q_search1 a3 a4 hcc (q_search2 a3 a4 hcc (q_search3 a3 a4 hcc q_search4)))
  have hS1 := hS.1
  have hS2 := hS.2
  refine sr _ (fun _ => 0) (fun k => (μ 47 k).toBitVec.toNat) 0 _ _ (KD_of ?_ ?_ ?_ ?_ hK) ⟨fun s hs => ?_, fun a h1 h2 => ?_, fun k hk => ?_⟩ ⟨fun k hk => by omega, fun s hs => Nat.zero_le _, fun a _ _ => Nat.zero_le _⟩ (fun k hk => by omega) (fun k hk => ?_) ?_ (by omega) ⟨fun n hn hv => ?_, Or.inl rfl⟩ (fun tr be b' w' g1 g2 g3 g4 => ?_)
  · simp only [hs_n, ne_eq, Nat.reduceEqDiff, not_false_eq_true]
  · simp only [hs_n, ne_eq, Nat.reduceEqDiff, not_false_eq_true]
  · simp only [hs_n, ne_eq, Nat.reduceEqDiff, not_false_eq_true]
  · simp only [hs_n, ne_eq, Nat.reduceEqDiff, not_false_eq_true]
  · simp only [hs_n, ne_eq, Nat.reduceEqDiff, not_false_eq_true]
    exact hS2 s hs
  · simp only [hs_n, hs_s, ne_eq, Nat.reduceEqDiff, not_false_eq_true]
    exact a1 a h1 h2
  · simp only [hs_n, hs_s, ne_eq, Nat.reduceEqDiff, not_false_eq_true]
    exact a2 k hk
  · simp only [hs_n, ne_eq, Nat.reduceEqDiff, not_false_eq_true]
    exact nI_any _
  · rw [hs_s, upd_s]
    rfl
  · obtain ⟨i, hi, -⟩ := hv
    omega
  · refine h _ (fun c h1 h2 => ?_) ?_ ⟨fun z hz => ?_, fun s hs => ?_⟩ ?_ ⟨b', w', g4.opt (fun n hn => Or.inr (fun k hk => by omega)), fun k hk => ?_, ?_, g3⟩
    · unfold srM
      rw [hs_n h1, hs_n (by omega), hs_n (by omega), hs_n h1, hs_n (by omega), hs_n (by omega)]
    · unfold srM
      rw [hs_s, upd_n (by omega), hs_s, upd_n (by omega)]
    · unfold srM
      simp only [hs_n, hs_s, ne_eq, Nat.reduceEqDiff, not_false_eq_true]
      exact hS1 z hz
    · unfold srM
      simp only [hs_n, hs_s, ne_eq, Nat.reduceEqDiff, not_false_eq_true]
      exact hS2 s hs
    · unfold srM
      simp only [hs_n, hs_s, ne_eq, Nat.reduceEqDiff, not_false_eq_true]
      rw [(a2 4 (Nat.le_refl 4)).1, a3]
      rfl
    · unfold srM
      simp only [hs_n, hs_s, ne_eq, Nat.reduceEqDiff, not_false_eq_true]
      exact g2 k hk
    · unfold srM
      rw [hs_s, upd_s]
/-- update from the second loop on -/
theorem q_upd87 {ν : mm_M} {f o6 : Int32} (hL : ∀ c, c ≠ 7 → (c < 42 ∨ 47 < c) → ν c = μ c) (hK : KD μ P F T S) (h4 : ν 45 4 = 0) (hkn : ν 7 6 = μ 2 6) (hZ : ∀ z, z < 3 → ν 42 z = nI (Z z) ∧ Z z ≤ 300000) (hM : ∀ s, s < 2 → μ 8 s = nI (M s) ∧ M s ≤ 1000000) (hf : f = 0 → ν = μ) (hO : μ 7 6 = μ 2 6 → SZ μ M Z → Ob μ P F T S M Z) (h : ∀ ν, Pl μ ν → ν 7 6 = μ 2 6 → SZ ν M Z → ν 45 4 = 0 → Ob ν P F T S M Z → RV ν) : mm_Rn hh_S 36 RI RV 87 [some (.ref 7), some (.ref 2), some (.ref 1), some (.ref 8), some (.int f), some (.int 0), some (.int o6)] [] ν := by
  have lp := up_ind (n := 2) (P := fun i => ∀ (f : Int32) (m : Nat → Int32), (∀ s, s < i → m s = nI (M s)) → (f = 0 → hs ν 43 m = μ) → mm_Rn hh_S 36 RI RV 87 [some (.ref 7), some (.ref 2), some (.ref 1), some (.ref 8), some (.int f), some (.int (nI i)), some (.int o6)] [] (hs ν 43 m)) (fun i hi ih => by
    intro f m hm hf
    have ih := ih (i + 1) (by omega)
    (refine mm_run ok_36 (fun t => t == 87) 12 ?_; rw [lb_36_87, rb_36]; simp only [↓w_aload_0, ↓w_aload_1, ↓w_aload_2, ↓w_aload_3, ↓w_fall, ↓w_getf, ↓w_goto, ↓w_iald, ↓w_iast, ↓w_ic_eq, ↓w_ic_ge, ↓w_iconst, ↓w_if_eq, ↓w_if_ne, ↓w_iinc, ↓w_iload, ↓w_ishl, ↓w_istore, ↓w_putf, ↓w_vret, ↓li_0, ↓li_s, ↓lr_0, ↓lr_s, ↓gf_2_6, ↓gf_7_0, ↓gf_7_1, ↓gf_7_6, ↓pf_7_6, ↓rc_1, ↓rc_7, ↓ar_8, ↓ar_42, ↓ar_43, ↓w_c109, ↓w_c32, ↓w_c37, ↓wl_36_0, ↓wl_36_15, ↓wl_36_16, ↓wl_36_29, ↓wl_36_62, ↓wl_36_66, ↓wl_36_67, ↓wl_36_84, ↓wl_36_87, ↓wl_36_112, ↓wl_36_116, ↓wl_36_117, ↓wl_36_136, ↓wl_36_153, hs_wr, hs_cp, hs_s, hs_n, hs_hs, upd_s, upd_n, upd_upd, ne_eq, Nat.reduceEqDiff, c1_i, c1_r, c2_i, c2_r, ↓reduceIte, List.set_cons_zero, List.set_cons_succ, mm_cb, List.length_cons, List.length_nil, List.all_cons, List.all_nil, Nat.zero_add, Nat.reduceAdd, Nat.reduceLeDiff, Nat.zero_le, decide_true, Bool.and_self, Bool.and_true, true_and, and_true, forall_const, Bool.or_false, Bool.false_or, Bool.or_true, Bool.true_or, Bool.false_eq_true, Nat.reduceBEq, beq_self_eq_true, ha_11, ha_01, hb_10, hb_0x, imp_self, false_implies, not_true_eq_false, not_false_eq_true])
    have e8 : ν 8 = μ 8 := hL _ (by decide) (by decide)
    rw [nI_cl (show i < 2147483648 by omega), show (2 : Int32) = nI 2 from rfl, nI_1, e8]
    refine ⟨fun q => ?_, fun q => ?_⟩
    · have hi2 : i = 2 := by
        have := le_nI (by omega) (by omega) q
        omega
      subst hi2
      have hL2 : Pl μ (hs ν 43 m) := fun c h1 h2 => by rw [hs_n (by omega)]; exact hL c h1 h2
      have hSZ : SZ (hs ν 43 m) M Z := ⟨fun z hz => by rw [hs_n (by decide)]; exact hZ z hz, fun s hs => by rw [hs_s]; exact ⟨hm s hs, (hM s hs).2⟩⟩
      have h45 : (hs ν 43 m) 45 4 = 0 := by rw [hs_n (by decide)]; exact h4
      have hk7 : (hs ν 43 m) 7 6 = μ 2 6 := by rw [hs_n (by decide)]; exact hkn
      refine ⟨fun f0 => ?_, fun f1 => ?_⟩
      · have e := hf f0
        have h1 := h _ hL2 hk7 hSZ h45
        rw [e] at h1 hk7 hSZ ⊢
        exact h1 (hO hk7 hSZ)
      · refine q_ps (KD_of (hL2 _ (by decide) (by decide)) (hL2 _ (by decide) (by decide)) (hL2 _ (by decide) (by decide)) (hL2 _ (by decide) (by decide)) hK) hSZ h45 (fun ν2 g1 g2 g3 g4 g5 => h ν2 (fun c h1 h2 => (g1 c h1 h2).trans (hL2 c h1 h2)) (g2.trans hk7) g3 g4 g5)
    · have hi2 := nle_nI (by omega) (by omega) q
      have hin := in_nI (show i < 2 by omega) (show 2 < 2147483648 by omega)
      have hm2 : ∀ s, s < i + 1 → upd m i (μ 8 i) s = nI (M s) := fun s hs => by
        by_cases e : s = i
        · subst e
          rw [upd_s, (hM s (by omega)).1]
        · rw [upd_n e]
          exact hm s (by omega)
      refine ⟨fun f1 => ⟨hin, hin, ih (by omega) 1 _ hm2 (fun z => absurd z (by decide))⟩, fun f0 => ⟨hin, hin, fun e => ⟨hin, hin, ih (by omega) 0 _ hm2 (fun _ => ?_)⟩, fun e => ⟨hin, hin, ih (by omega) 1 _ hm2 (fun z => absurd z (by decide))⟩⟩⟩
      rw [← e, upd_id]
      exact hf f0)
  have := lp 0 (Nat.zero_le _) f (ν 43) (fun s hs => by omega) (by rw [hs_id]; exact hf)
  rw [hs_id] at this
  exact this
/-- the fish of a size that may be used, as the class counts it -/
def uzI (μ : mm_M) (n z : Nat) : Int32 := su (fun j => if usB (μ 13) (μ 9) (1 <<< (nI z &&& 31)) j = true then μ 10 j else 0) n
theorem q_update {n : Nat} (hN : μ 1 6 = nI n) (hn : n ≤ 60) (hK : KD μ P F T S) (h4 : μ 45 4 = 0) (hZ : ∀ z, z < 3 → uzI μ n z = nI (Z z) ∧ Z z ≤ 300000) (hM : ∀ s, s < 2 → μ 8 s = nI (M s) ∧ M s ≤ 1000000) (hO : μ 7 6 = μ 2 6 → SZ μ M Z → Ob μ P F T S M Z) (h : ∀ ν, Pl μ ν → ν 7 6 = μ 2 6 → SZ ν M Z → ν 45 4 = 0 → Ob ν P F T S M Z → RV ν) : mm_Cs hh_S 36 [.ref 7, .ref 2, .ref 1, .ref 8] μ RI RV := by
  have lp := up_ind (n := 3) (P := fun i => ∀ (f : Int32) (m : Nat → Int32) (o6 : Option Value), (i = 0 → o6 = none) → (1 ≤ i → ∃ x, o6 = some (.int x)) → (∀ z, z < i → m z = nI (Z z)) → (f = 0 → upd (μ 7) 6 (μ 2 6) = μ 7 ∧ m = μ 42) → mm_Rn hh_S 36 RI RV 29 [some (.ref 7), some (.ref 2), some (.ref 1), some (.ref 8), some (.int f), some (.int (nI i)), o6] [] (hs (hs μ 7 (upd (μ 7) 6 (μ 2 6))) 42 m)) (fun i hi ih => by
    intro f m o6 ho0 ho1 hm hf
    have ih := ih (i + 1) (by omega)
    (refine mm_run ok_36 (fun t => t == 29 || t == 87) 12 ?_; rw [lb_36_29, rb_36]; simp only [↓w_aload_0, ↓w_aload_1, ↓w_aload_2, ↓w_aload_3, ↓w_fall, ↓w_getf, ↓w_goto, ↓w_iald, ↓w_iast, ↓w_ic_eq, ↓w_ic_ge, ↓w_iconst, ↓w_if_eq, ↓w_if_ne, ↓w_iinc, ↓w_iload, ↓w_ishl, ↓w_istore, ↓w_putf, ↓w_vret, ↓li_0, ↓li_s, ↓lr_0, ↓lr_s, ↓gf_2_6, ↓gf_7_0, ↓gf_7_1, ↓gf_7_6, ↓pf_7_6, ↓rc_1, ↓rc_7, ↓ar_8, ↓ar_42, ↓ar_43, ↓w_c109, ↓w_c32, ↓w_c37, ↓wl_36_0, ↓wl_36_15, ↓wl_36_16, ↓wl_36_29, ↓wl_36_62, ↓wl_36_66, ↓wl_36_67, ↓wl_36_84, ↓wl_36_87, ↓wl_36_112, ↓wl_36_116, ↓wl_36_117, ↓wl_36_136, ↓wl_36_153, hs_wr, hs_cp, hs_s, hs_n, hs_hs, upd_s, upd_n, upd_upd, ne_eq, Nat.reduceEqDiff, c1_i, c1_r, c2_i, c2_r, ↓reduceIte, List.set_cons_zero, List.set_cons_succ, mm_cb, List.length_cons, List.length_nil, List.all_cons, List.all_nil, Nat.zero_add, Nat.reduceAdd, Nat.reduceLeDiff, Nat.zero_le, decide_true, Bool.and_self, Bool.and_true, true_and, and_true, forall_const, Bool.or_false, Bool.false_or, Bool.or_true, Bool.true_or, Bool.false_eq_true, Nat.reduceBEq, beq_self_eq_true, ha_11, ha_01, hb_10, hb_0x, imp_self, false_implies, not_true_eq_false, not_false_eq_true])
    rw [nI_cl (show i < 2147483648 by omega), show (3 : Int32) = nI 3 from rfl, nI_1]
    refine ⟨fun q => ?_, fun q => ?_⟩
    · have hi3 : i = 3 := by
        have := le_nI (by omega) (by omega) q
        omega
      subst hi3
      obtain ⟨x, rfl⟩ := ho1 (by omega)
      refine q_upd87 (μ := μ) (M := M) (Z := Z) (fun c h1 h2 => ?_) hK ?_ ?_ (fun z hz => ?_) hM (fun f0 => ?_) hO h
      · rw [hs_n (by omega), hs_n h1]
      · simp only [hs_n, ne_eq, Nat.reduceEqDiff, not_false_eq_true]
        exact h4
      · rw [hs_n (by decide), hs_s, upd_s]
      · rw [hs_s]
        exact ⟨hm z hz, (hZ z hz).2⟩
      · rw [(hf f0).1, (hf f0).2, hs_id, hs_id]
    · have hi3 := nle_nI (by omega) (by omega) q
      have hin := in_nI (show i < 3 by omega) (show 3 < 2147483648 by omega)
      have eu : su (fun j => if usB ((hs (hs μ 7 (upd (μ 7) 6 (μ 2 6))) 42 m) 13) ((hs (hs μ 7 (upd (μ 7) 6 (μ 2 6))) 42 m) 9) (1 <<< (nI i &&& 31)) j = true then (hs (hs μ 7 (upd (μ 7) 6 (μ 2 6))) 42 m) 10 j else 0) n = nI (Z i) := by
        simp only [hs_n, ne_eq, Nat.reduceEqDiff, not_false_eq_true]
        exact (hZ i (by omega)).1
      refine q_usable (n := n) ?_ hn ?_
      · simp only [hs_n, ne_eq, Nat.reduceEqDiff, not_false_eq_true]
        exact hN
      · rw [eu, hs_s, hs_hs]
        have hm2 : ∀ s, s < i + 1 → upd m i (nI (Z i)) s = nI (Z s) := fun s hs => by
          by_cases e : s = i
          · subst e
            rw [upd_s]
          · rw [upd_n e]
            exact hm s (by omega)
        refine ⟨fun f1 => ⟨hin, ih (by omega) 1 _ _ (fun z => by omega) (fun _ => ⟨_, rfl⟩) hm2 (fun z => absurd z (by decide))⟩, fun f0 => ⟨hin, fun e => ⟨hin, ih (by omega) 0 _ _ (fun z => by omega) (fun _ => ⟨_, rfl⟩) hm2 (fun _ => ?_)⟩, fun e => ⟨hin, ih (by omega) 1 _ _ (fun z => by omega) (fun _ => ⟨_, rfl⟩) hm2 (fun z => absurd z (by decide))⟩⟩⟩
        rw [← e, upd_id]
        exact hf f0)
  refine mm_in rfl (Nat.le_of_ble_eq_true rfl) ?_
  show mm_Rn hh_S 36 RI RV 0 [some (.ref 7), some (.ref 2), some (.ref 1), some (.ref 8), none, none, none] [] μ
  (refine mm_run ok_36 (fun t => t == 29) 12 ?_; rw [lb_36_0, rb_36]; simp only [↓w_aload_0, ↓w_aload_1, ↓w_aload_2, ↓w_aload_3, ↓w_fall, ↓w_getf, ↓w_goto, ↓w_iald, ↓w_iast, ↓w_ic_eq, ↓w_ic_ge, ↓w_iconst, ↓w_if_eq, ↓w_if_ne, ↓w_iinc, ↓w_iload, ↓w_ishl, ↓w_istore, ↓w_putf, ↓w_vret, ↓li_0, ↓li_s, ↓lr_0, ↓lr_s, ↓gf_2_6, ↓gf_7_0, ↓gf_7_1, ↓gf_7_6, ↓pf_7_6, ↓rc_1, ↓rc_7, ↓ar_8, ↓ar_42, ↓ar_43, ↓w_c109, ↓w_c32, ↓w_c37, ↓wl_36_0, ↓wl_36_15, ↓wl_36_16, ↓wl_36_29, ↓wl_36_62, ↓wl_36_66, ↓wl_36_67, ↓wl_36_84, ↓wl_36_87, ↓wl_36_112, ↓wl_36_116, ↓wl_36_117, ↓wl_36_136, ↓wl_36_153, hs_wr, hs_cp, hs_s, hs_n, hs_hs, upd_s, upd_n, upd_upd, ne_eq, Nat.reduceEqDiff, c1_i, c1_r, c2_i, c2_r, ↓reduceIte, List.set_cons_zero, List.set_cons_succ, mm_cb, List.length_cons, List.length_nil, List.all_cons, List.all_nil, Nat.zero_add, Nat.reduceAdd, Nat.reduceLeDiff, Nat.zero_le, decide_true, Bool.and_self, Bool.and_true, true_and, and_true, forall_const, Bool.or_false, Bool.false_or, Bool.or_true, Bool.true_or, Bool.false_eq_true, Nat.reduceBEq, beq_self_eq_true, ha_11, ha_01, hb_10, hb_0x, imp_self, false_implies, not_true_eq_false, not_false_eq_true])
  have e0 : hs μ 7 (upd (μ 7) 6 (μ 2 6)) = hs (hs μ 7 (upd (μ 7) 6 (μ 2 6))) 42 (μ 42) := by
    rw [hs_sw (by decide), hs_id]
  rw [e0]
  refine ⟨fun q => lp 0 (Nat.zero_le _) 0 _ none (fun _ => rfl) (fun z => by omega) (fun z hz => by omega) (fun _ => ⟨?_, rfl⟩), fun q => lp 0 (Nat.zero_le _) 1 _ none (fun _ => rfl) (fun z => by omega) (fun z hz => by omega) (fun z => absurd z (by decide))⟩
  rw [← q, upd_id]
end PL6
