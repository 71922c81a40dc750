/-! the law, from its entry -/
set_option maxHeartbeats 4000000 in
set_option maxRecDepth 100000 in
theorem whole_start {p : Program} {e : Env} {s : State} {m : MethodId} {below : List Frame} {meth : Method} {c : Code} (l : Launch) {b L : Nat} {xs : Nat → Int32} (hL : L ≤ 2560) (C0 : lw_At p s m meth c b L xs) : W p l e room_1 s m #[Value.ref b] below meth c s.heap [] 0 0 (lw_Z below #[Value.ref b] s) (entryFrame m ([Value.ref b] : List Value).toArray 4) := by
  obtain ⟨hx, hb, hr, hml, hown, hts0, hX, hbl, hlocks, hgv⟩ := id C0
  have hts : ∀ w ∈ mm_GW, w.before #[Value.ref b] s = true := fun w hw => hts0 w (mm_gw_tbl hw)
  have hN : ∀ q ∈ ct_NT, va_Nw (ct_nl q) s := fun q hq => va_Nw.of rfl (hts0 _ (ct_nt_tbl q hq))
  have hA : ∀ q : Nat, s.heap.size ≤ q → (fun q : Nat => s.heap.size ≤ q) q := fun _ h => h
  have hbA : ¬ (fun q : Nat => s.heap.size ≤ q) b := Nat.not_le.mpr hbl
  obtain ⟨c0, i0, k0⟩ := u_known (C := mm_R 0) (T := mm_T 0) (N := mm_N 0) (n := mm_N 0) hts (mm_lay (by omega)) (hts _ lb_0)
  obtain ⟨c1, i1, k1⟩ := u_known (C := mm_R 1) (T := mm_T 1) (N := mm_N 1) (n := mm_N 1) hts (mm_lay (by omega)) (hts _ lb_1)
  obtain ⟨c2, i2, k2⟩ := u_known (C := mm_R 2) (T := mm_T 2) (N := mm_N 2) (n := mm_N 2) hts (mm_lay (by omega)) (hts _ lb_2)
  obtain ⟨c3, i3, k3⟩ := u_known (C := mm_R 3) (T := mm_T 3) (N := mm_N 3) (n := mm_N 3) hts (mm_lay (by omega)) (hts _ lb_3)
  obtain ⟨c4, i4, k4⟩ := u_known (C := mm_R 4) (T := mm_T 4) (N := mm_N 4) (n := mm_N 4) hts (mm_lay (by omega)) (hts _ lb_4)
  obtain ⟨c5, i5, k5⟩ := u_known (C := mm_R 5) (T := mm_T 5) (N := mm_N 5) (n := mm_N 5) hts (mm_lay (by omega)) (hts _ lb_5)
  obtain ⟨c6, i6, k6⟩ := u_known (C := mm_R 6) (T := mm_T 6) (N := mm_N 6) (n := mm_N 6) hts (mm_lay (by omega)) (hts _ lb_6)
  obtain ⟨c7, i7, k7⟩ := u_known (C := mm_R 7) (T := mm_T 7) (N := mm_N 7) (n := mm_N 7) hts (mm_lay (by omega)) (hts _ lb_7)
  obtain ⟨c8, i8, k8⟩ := u_known (C := mm_R 8) (T := mm_T 8) (N := mm_N 8) (n := mm_N 8) hts (mm_lay (by omega)) (hts _ lb_8)
  obtain ⟨dC, dI, hKc⟩ : ∃ (dC : Nat → ClassId) (dI : Nat → Nat → Nat), ∀ (k : Nat) (q : vw_C), vwCl[k]? = some q → u_Kn s q.1 q.2.1 q.2.2 (dC k) (dI k) := by
    refine ⟨fun k => [c0, c1, c2, c3, c4, c5, c6, c7, c8].getD k c0, fun k => [i0, i1, i2, i3, i4, i5, i6, i7, i8].getD k i0, ?_⟩
    intro k q hq
    match k, hq with
    | 0, hq => cases hq; exact k0
    | 1, hq => cases hq; exact k1
    | 2, hq => cases hq; exact k2
    | 3, hq => cases hq; exact k3
    | 4, hq => cases hq; exact k4
    | 5, hq => cases hq; exact k5
    | 6, hq => cases hq; exact k6
    | 7, hq => cases hq; exact k7
    | 8, hq => cases hq; exact k8
    | k + 9, hq => simp [vwCl] at hq
  obtain ⟨cI, kI, oI, f1, f2, f3⟩ := Cond.arrayClass_spec (hts _ lf_i)
  obtain ⟨cZ, kZ, oZ, g1, g2, g3⟩ := Cond.arrayClass_spec (hts _ lf_z)
  have hK : va_K (dC, dI) vwCl [(cI, .int), (cZ, .boolean)] s := by
    refine ⟨hKc, fun k q h => ?_⟩
    match k, h with
    | 0, h => cases h; exact ⟨fun n z => ⟨fun k h => (by cases h), kI, f2, oI, f3⟩, f1⟩
    | 1, h => cases h; exact ⟨fun n z => ⟨fun k h => (by cases h), kZ, g2, oZ, g3⟩, g1⟩
    | k + 2, h => simp at h
  have hS : va_S (fun q : Nat => s.heap.size ≤ q) s.heap s.heap [] := va_S.rf
  have hP : va_P (dC, dI) vwCl [] s.heap := fun k q h => by simp at h
  have hD : va_D (fun q : Nat => s.heap.size ≤ q) [] := ⟨fun i j p q h => by simp at h, fun k q h => by simp at h⟩
  have hl := lv_entry ([.ref b]) (n := 4) (Nat.le_of_ble_eq_true rfl)
  rw [lg_entry_eq]
  generalize (lg_sl ([.ref b]) ++ List.replicate (4 - (lg_sl ([.ref b])).length) Slot.unset).toArray = ls at hl ⊢
  have hl : lv_has ls 4 [(0, .ref b)] := hl
  have hown2 : s.vm.findClass RL = some m.cls := hown
  refine ct_new (own := RL) (ci := 7) (x1 := 7) (x2 := 9) (pc := 0) (rest := []) hx hb hml hl.1 hts hown2 hN hK hA (by omega) la_7 lb_7 lc_7 df_7 ct_7 (Or.inr (cwI 0 hts gd_7 rfl rfl rfl (hts _ lc_7) (hts _ ld_7) (hts _ le_7) rfl ⟨by decide +kernel, by decide +kernel, by decide +kernel⟩ ⟨Nat.le_of_ble_eq_true rfl, Nat.le_of_ble_eq_true rfl⟩)) (Nat.le_of_ble_eq_true rfl) (Nat.le_of_ble_eq_true rfl) (Nat.le_of_ble_eq_true rfl) dl_0 dl_3 dl_4 hP hD hS (fun q1 u H locs hu hP hD hS => ?_)
  obtain ⟨u, μ1⟩ := u
  obtain ⟨hu0, ν, hν, eμ⟩ := hu
  have eμ : μ1 = ckM ν := eμ
  subst eμ
  simp only [List.nil_append] at hP hD
  refine lv_astore_n (lv' := [(1, .ref q1), (0, .ref b)]) hx hb dl_7 rfl hl (by decide) rfl (fun ls hl => ?_)
  refine ct_new (own := RL) (ci := 8) (x1 := 10) (x2 := 12) (pc := 8) (rest := []) hx hb hml hl.1 hts hown2 hN hK hA (by omega) la_8 lb_8 lc_8 df_8 ct_8 (Or.inr (cwI 0 hts gd_8 rfl rfl rfl (hts _ lc_8) (hts _ ld_8) (hts _ le_8) rfl ⟨by decide +kernel, by decide +kernel, by decide +kernel⟩ ⟨Nat.le_of_ble_eq_true rfl, Nat.le_of_ble_eq_true rfl⟩)) (Nat.le_of_ble_eq_true rfl) (Nat.le_of_ble_eq_true rfl) (Nat.le_of_ble_eq_true rfl) dl_8 dl_11 dl_12 hP hD hS (fun q2 v H locs hv hP hD hS => ?_)
  refine lv_astore_n (lv' := [(2, .ref q2), (1, .ref q1), (0, .ref b)]) hx hb dl_15 rfl hl (by decide) rfl (fun ls hl => ?_)
  refine W.widen (k := 600000) (n := 7302250) (Nat.le_of_ble_eq_true rfl) (Nat.le_of_ble_eq_true rfl) ?_
  obtain ⟨hPG, hDG⟩ := re_L (b := b) (q2 := q2) (u := u) (v := v) (ν := ν) hP hD
  have hG : ∃ G : mm_G, G = (dC, dI, adL b q2 u v, cI, cZ) := ⟨_, rfl⟩
  obtain ⟨G, eG⟩ := hG
  have hPG2 : va_P (G.1, G.2.1) vwCl (mm_cells G hh_S (mu0 ν)) H := by
    subst eG
    exact hPG
  have hDG2 : ∀ μ, va_D (fun q : Nat => s.heap.size ≤ q) (mm_cells G hh_S μ) := by
    subst eG
    exact fun μ => mm_Dany hDG μ
  have CL : mm_Cx law_r hh_S G (some (L, xs)) (fun q : Nat => s.heap.size ≤ q) p room_1 s m #[Value.ref b] c 600000 7302250 := by
    refine ⟨hx, hb, hml, hown2, hts, fun q hq => hN _ (List.mem_append_left _ (List.mem_map.mpr ⟨q, hq, rfl⟩)), ?_, hDG2, hA, ⟨Nat.le_of_ble_eq_true rfl, Nat.le_of_ble_eq_true rfl⟩, ⟨Nat.le_refl _, Nat.le_refl _⟩, fun L' xs' h => ?_⟩
    · subst eG
      exact hK
    · cases h
      subst eG
      exact ⟨hX, hbl, hbA⟩
  have hKX : ∃ KX : Nat → mm_L → List Value → mm_M → Prop, KX = mm_WX hh_S G (fun q : Nat => s.heap.size ≤ q) law_r.2.2.2.1 p l e room_1 s m #[Value.ref b] below meth c 600000 7302250 (lw_Z below #[Value.ref b] s) := ⟨_, rfl⟩
  obtain ⟨KX, eK⟩ := hKX
  have step : ∀ (t : Nat) (loc : mm_L) (st : List Value) (μ : mm_M), mm_wpB hh_S (some (L, xs)) true (mm_Cs hh_S) KX (fun x _ => x = 1) (fun _ => False) (lab_L t) loc st μ → KX t loc st μ := by
    intro t loc st μ h
    subst eK
    refine mm_soundB CL (rb := true) (fun _ _ _ _ h => h) (fun pc x μ loc hd _ _ hx1 => ?_) (fun pc μ loc hd he => by cases he) (lab_L t) t loc st μ (law_ok t) h
    intro H locs ls hP hS hl
    have hx1 : x = 1 := hx1
    subst hx1
    exact va_forget hS.2.2 (lw_ret hx hb hr hlocks hd)
  have loop : ∀ n i, L + 5 - i = n → i ≤ L + 5 → ∀ μ h nl nb nc, Iv μ h nl nb nc → KX 18 [some (.ref 999), some (.ref 0), some (.ref 48), some (.int (nI i))] [] μ := by
    intro n
    induction n using Nat.strongRecOn with
    | ind n ih =>
      intro i hn hi μ h nl nb nc I
      have k775 : i + 5 ≤ L → ∀ ξ h nl nb nc, Iv ξ h nl nb nc → KX 775 [some (.ref 999), some (.ref 0), some (.ref 48), some (.int (nI i))] [] ξ := fun h5 ξ h nl nb nc J => step 775 _ _ _ (lo_775 (ih (L + 5 - (i + 5)) (by omega) (i + 5) rfl (by omega) ξ h nl nb nc J))
      exact step 18 _ _ _ (lo_18 hi hL (step 781 _ _ _ lo_781) (fun h5 => k775 h5 μ h nl nb nc I) (fun h5 => step 132 _ _ _ (lo_land I h5 hL (k775 h5))) (fun h5 => step 175 _ _ _ (lo_ice I h5 hL (k775 h5))) (fun h5 => step 198 _ _ _ (lo_iced I h5 hL (k775 h5))) (fun h5 => step 221 _ _ _ (lo_kind I h5 hL (k775 h5))) (fun h5 => step 264 _ _ _ (lo_sauce I h5 hL (k775 h5))) (fun h5 => step 297 _ _ _ (lo_call I h5 hL (k775 h5))) (fun h5 => step 320 _ _ _ (lo_pack I h5 hL (k775 h5))) (fun h5 => step 363 _ _ _ (lo_fail I h5 hL (k775 h5))) (fun h5 => step 386 _ _ _ (lo_go I h5 hL (k775 h5))) (fun h5 => step 409 _ _ _ (lo_plan I h5 hL (k775 h5))) (fun h5 => step 432 _ _ _ (lo_worth I h5 hL (k775 h5))) (fun h5 => step 445 _ _ _ (lo_sell I h5 hL (k775 h5))) (fun h5 => step 488 _ _ _ (lo_contract I h5 hL (k775 h5))) (fun h5 => step 541 _ _ _ (lo_lacks I h5 hL (k775 h5))) (fun h5 => step 564 _ _ _ (lo_recall I h5 hL (k775 h5))) (fun h5 => step 587 _ _ _ (lo_lot I h5 hL (k775 h5))) (fun h5 => step 620 _ _ _ (lo_batch I h5 hL (k775 h5))) (fun h5 => step 653 _ _ _ (lo_of I h5 hL (k775 h5))) (fun h5 => step 686 _ _ _ (lo_cooker I h5 hL (k775 h5))) (fun h5 => step 719 _ _ _ (lo_told I h5 hL (k775 h5))) (fun h5 => step 752 _ _ _ (lo_count I h5 hL (k775 h5))))
  have hlh : mm_lh G.2.2.1 ls 4 [some (.ref 999), some (.ref 0), some (.ref 48), none] := by
    refine ⟨hl.1, hl.2.1, fun i v hi => ?_⟩
    match i, hi with
    | 0, hi =>
      cases hi
      subst eG
      exact ⟨lv_at hl 2 rfl, rfl⟩
    | 1, hi =>
      cases hi
      subst eG
      refine ⟨?_, rfl⟩
      have h1 := lv_at hl 1 (i := 1) rfl
      rw [← hu0] at h1
      exact h1
    | 2, hi =>
      cases hi
      subst eG
      exact ⟨lv_at hl 0 rfl, rfl⟩
    | 3, hi => cases hi
    | i + 4, hi => simp at hi
  have fin := step 16 [some (.ref 999), some (.ref 0), some (.ref 48), none] [] (mu0 ν) (lo_16 (loop (L + 5) 0 rfl (by omega) (mu0 ν) 0 0 0 0 (Iv0 hν)))
  subst eK
  exact fin H locs ls hPG2 hS hlh
