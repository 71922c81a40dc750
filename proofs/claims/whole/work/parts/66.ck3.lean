/-! the cookers' constructor -/
theorem mm_Dany {A : Nat → Prop} {G : mm_G} {Sh : List mm_C} {μ : mm_M} (h : va_D A (mm_cells G Sh μ)) (μ' : mm_M) : va_D A (mm_cells G Sh μ') := by
  refine ⟨fun i j a b ha hb hab => ?_, fun i a ha => ?_⟩
  · obtain ⟨q1, h1, rfl⟩ := mm_cells_inv ha
    obtain ⟨q2, h2, rfl⟩ := mm_cells_inv hb
    rw [mm_cell_ad, mm_cell_ad] at hab
    exact h.1 i j _ _ (mm_cells_get h1) (mm_cells_get h2) (by rw [mm_cell_ad, mm_cell_ad]; exact hab)
  · obtain ⟨q1, h1, rfl⟩ := mm_cells_inv ha
    rw [mm_cell_ad]
    have := h.2 i _ (mm_cells_get (G := G) (μ := μ) h1)
    rw [mm_cell_ad] at this
    exact this
def ckP (j : Nat) (ν : mm_M) : Prop := ∀ c, c < j → ν 1 c = -1 ∧ ν 2 c = 0 ∧ ν 3 c = -1 ∧ ν 4 c = 0 ∧ ∀ l, l < 60 → ν 5 (c * 60 + l) = 0
theorem ckP_s {j : Nat} {ν : mm_M} (h : ckP j ν) : ckP (j + 1) (hs (hs (hs (hs (hs ν 1 (upd (ν 1) j (-1))) 2 (upd (ν 2) j 0)) 4 (upd (ν 4) j 0)) 3 (upd (ν 3) j (-1))) 5 (rw0 (ν 5) j 60)) := by
  intro c hc
  simp only [hs_s, hs_n, ne_eq, Nat.reduceEqDiff, not_false_eq_true]
  by_cases e : c = j
  · subst e
    exact ⟨upd_s, upd_s, upd_s, upd_s, fun l hl => rw0_z hl⟩
  · obtain ⟨h1, h2, h3, h4, h5⟩ := h c (by omega)
    rw [upd_n e, upd_n e, upd_n e, upd_n e]
    exact ⟨h1, h2, h3, h4, fun l hl => by rw [rw0_n e hl]; exact h5 l hl⟩
def ct_am (cI cZ : ClassId) : List ct_I → List Nat → Nat → mm_M → va_W
  | it :: its, q :: qs, j, μ => (q, .inl (if it.1 then cZ else cI, it.2.1, .inl (μ j))) :: ct_am cI cZ its qs (j + 1) μ
  | _, _, _, _ => []
def lab_ck : Nat → List mm_E := fun t => match t with
  | 41 => [(some (.iconst 0), 0, 0, [], 0), (some (.istore_n 1), 0, 0, [], 0), (none, 43, 0, [], 0)]
  | 43 => [(some (.iload_n 1), 0, 0, [], 0), (some (.iconst 3), 0, 0, [], 3), (some (.if_icmp .ge 14), 59, 0, [], 0), (some (.aload_n 0), 0, 0, [], 0), (some (.iload_n 1), 0, 0, [], 0), (some (.invokevirtual 27), 16, 2, [], 0), (some (.iinc 1 1), 0, 0, [], 1), (some (.goto (-13)), 43, 0, [], 0)]
  | 59 => [(some (.return_), 0, 0, [], 0)]
  | _ => []
abbrev ck_r : mm_Row := (2, yX2_init, cX2_init, 2, none, 2, 1, false)
set_option maxRecDepth 20000 in
theorem ck_ok : ∀ t, mm_okc ck_r t (lab_ck t) = true := by
  intro t
  unfold lab_ck
  split <;> first | decide +kernel | rfl
theorem len5 {l : List Nat} (h : l.length = 5) : ∃ a b c d e, l = [a, b, c, d, e] := by
  match l, h with
  | [a, b, c, d, e], _ => exact ⟨a, b, c, d, e, rfl⟩
set_option maxHeartbeats 1000000 in
theorem ct_2 {l : Launch} {dC : Nat → ClassId} {dI : Nat → Nat → Nat} {cI cZ : ClassId} : ct_M l dC dI cI cZ yX2_init cX2_init 2 { frames := 2, cells := 5, slots := 192, locals := 96 } 2 fs_2 (fun _ (u : List Nat × mm_M) => u.1.length = 5 ∧ ckP 3 u.2) (fun h0 u => (h0, .inr (2, ct_fs fs_2 its_2 u.1)) :: ct_am cI cZ its_2 u.1 1 u.2) 5 192 := by
  intro h0 sz
  refine Met.ofW (cc := cX2_init) (maxL := 2) (ret := none) (by decide +kernel) rfl ?_
  intro p e s m args below meth c s₁ B hml hv
  obtain ⟨rfl, hsz, hP, hK, hD0, hN⟩ := hv
  have hx := B.exec
  have hb := B.bytes
  have hr := B.returns
  have hts0 := atoms_spec (ws := .code yX2_init cX2_init 2 none :: mm_GW) B.pre
  have hts : ∀ w ∈ mm_GW, w.before ([.ref h0] : List Value).toArray s = true := fun w hw => hts0 w (List.mem_cons_of_mem _ hw)
  have hown : s.vm.findClass (mm_R 2) = some m.cls := findClass_of_methodNamed B.named
  have hlocks := B.notSynchronized
  have hin : meth.name = "<init>" := (name_of_methodNamed B.named B.method).1
  subst hsz
  have hD := hD0.self (sz := s.heap.size)
  generalize hAe : va_A [(h0, .inr (2, fs_2))] s.heap.size = A at hD ⊢
  have hA : ∀ q : Nat, s.heap.size ≤ q → A q := fun q h => by rw [← hAe]; exact Or.inr h
  have hS : va_S A s.heap s.heap [] := va_S.rf
  have hl := lv_entry ([.ref h0]) (n := 2) (Nat.le_of_ble_eq_true rfl)
  rw [lg_entry_eq]
  generalize (lg_sl ([.ref h0]) ++ List.replicate (2 - (lg_sl ([.ref h0])).length) Slot.unset).toArray = ls at hl ⊢
  have hl : lv_has ls 2 [(0, .ref h0)] := hl
  have hls := lv_at hl 0 rfl
  refine lv_aload_n hx hb (show decode cX2_init 0 = .ok (.aload_n 0, 1) by decide +kernel) rfl hls ?_
  refine W.objInit hx hb hown (hts _ ol_2) (hts _ (mm_gw 43 rfl rfl)) (hts _ (mm_gw 44 rfl rfl)) rfl (by rw [hml]; exact hl.1) rfl (show decode cX2_init 1 = .ok (.invokespecial 3, 3) by decide +kernel) (Nat.le_of_ble_eq_true rfl) (Nat.le_of_ble_eq_true rfl) ?_
  refine W.eq (g2 := F0 m 4 ls []) rfl ?_
  refine ct_all hx hb hts hown hin hK hA hls its_2 4 fs_2 [] s.heap [] 0 0 ik_2 (by decide) (Nat.le_refl 5) (Nat.le_refl 192) hP hD hS (fun qs H1 locs1 hq hP1 hD1 hS1 => ?_)
  obtain ⟨q1, q2, q3, q4, q5, rfl⟩ := len5 hq
  have hG : ∃ G : mm_G, G = (dC, dI, fun i => [h0, q1, q2, q3, q4, q5].getD i 0, cI, cZ) := ⟨_, rfl⟩
  obtain ⟨G, eG⟩ := hG
  have hP2 : va_P (G.1, G.2.1) vwCl (mm_cells G hh_C (fun _ _ => 0)) H1 := by
    subst eG
    exact hP1
  have hD2 : ∀ μ, va_D A (mm_cells G hh_C μ) := by
    subst eG
    exact fun μ => mm_Dany (μ := fun _ _ => 0) hD1 μ
  have C0 : mm_Cx ck_r hh_C G none A p { frames := 2, cells := 5, slots := 192, locals := 96 } s m ([.ref h0] : List Value).toArray c 5 192 := ⟨hx, hb, hml, hown, hts, fun q hq => hN _ (List.mem_append_left _ (List.mem_map.mpr ⟨q, hq, rfl⟩)), by subst eG; exact hK, hD2, hA, ⟨Nat.le_refl _, Nat.le_refl _⟩, ⟨Nat.le_refl _, Nat.le_refl _⟩, fun L xs h => by cases h⟩
  have hRV : ∀ pc μ loc, decode ck_r.2.2.1 pc = .ok (.return_, 1) → ck_r.2.2.2.2.1 = none → ckP 3 μ → mm_WX hh_C G A ck_r.2.2.2.1 p l e { frames := 2, cells := 5, slots := 192, locals := 96 } s m ([.ref h0] : List Value).toArray below meth c 5 192 (MQ below (va_Qv (fun (u : List Nat × mm_M) => u.1.length = 5 ∧ ckP 3 u.2) (fun u t => va_P (dC, dI) vwCl ((h0, .inr (2, ct_fs fs_2 its_2 u.1)) :: ct_am cI cZ its_2 u.1 1 u.2) t.heap ∧ va_D A ((h0, .inr (2, ct_fs fs_2 its_2 u.1)) :: ct_am cI cZ its_2 u.1 1 u.2)) A) ([.ref h0] : List Value).toArray s 5 192 A) pc loc [] μ := by
    intro pc μ loc hd _ hrv H locs ls hP3 hS3 hl3
    refine W.vret hx hb hr (fun t ht hW => ⟨⟨([q1, q2, q3, q4, q5], μ), rfl, ⟨rfl, hrv⟩, ?_, ?_⟩, hS3.F ht⟩) hS3.2.2 hd
    · rw [ht]
      subst eG
      exact hP3
    · have := hD2 μ
      subst eG
      exact this
  have key := up_ind (n := 3) (P := fun j => ∀ ν, ckP j ν → mm_WX hh_C G A ck_r.2.2.2.1 p l e { frames := 2, cells := 5, slots := 192, locals := 96 } s m ([.ref h0] : List Value).toArray below meth c 5 192 (MQ below (va_Qv (fun (u : List Nat × mm_M) => u.1.length = 5 ∧ ckP 3 u.2) (fun u t => va_P (dC, dI) vwCl ((h0, .inr (2, ct_fs fs_2 its_2 u.1)) :: ct_am cI cZ its_2 u.1 1 u.2) t.heap ∧ va_D A ((h0, .inr (2, ct_fs fs_2 its_2 u.1)) :: ct_am cI cZ its_2 u.1 1 u.2)) A) ([.ref h0] : List Value).toArray s 5 192 A) 43 [some (.ref 0), some (.int (nI j))] [] ν) (fun j hj ih ν hν => by
    refine mm_soundB C0 (RI := fun _ _ => False) (RV := ckP 3) (rb := false) (K := fun t loc st μ => mm_WX hh_C G A ck_r.2.2.2.1 p l e { frames := 2, cells := 5, slots := 192, locals := 96 } s m ([.ref h0] : List Value).toArray below meth c 5 192 (MQ below (va_Qv (fun (u : List Nat × mm_M) => u.1.length = 5 ∧ ckP 3 u.2) (fun u t => va_P (dC, dI) vwCl ((h0, .inr (2, ct_fs fs_2 its_2 u.1)) :: ct_am cI cZ its_2 u.1 1 u.2) t.heap ∧ va_D A ((h0, .inr (2, ct_fs fs_2 its_2 u.1)) :: ct_am cI cZ its_2 u.1 1 u.2)) A) ([.ref h0] : List Value).toArray s 5 192 A) t loc st μ) (fun t loc st μ h => h) (fun pc x μ loc _ hne => absurd rfl hne) hRV (lab_ck 43) 43 _ _ _ (ck_ok 43) ?_
    rw [show lab_ck 43 = [(some (.iload_n 1), 0, 0, [], 0), (some (.iconst 3), 0, 0, [], 3), (some (.if_icmp .ge 14), 59, 0, [], 0), (some (.aload_n 0), 0, 0, [], 0), (some (.iload_n 1), 0, 0, [], 0), (some (.invokevirtual 27), 16, 2, [], 0), (some (.iinc 1 1), 0, 0, [], 1), (some (.goto (-13)), 43, 0, [], 0)] from rfl]
    simp only [↓w_iload_1, ↓w_aload_0, ↓w_iconst, ↓w_ic_ge, ↓w_c16, ↓w_iinc, ↓w_goto, ↓li_0, ↓li_s, ↓lr_0, ↓rC_0, mm_cb, List.length_cons, List.length_nil, List.all_cons, List.all_nil, Nat.zero_add, Nat.reduceAdd, Nat.reduceLeDiff, Nat.le_refl, decide_true, Bool.and_self, Bool.and_true, true_and, c1_i, c1_r, List.set_cons_zero, List.set_cons_succ, mm_c1]
    rw [nI_1, show (3 : Int32) = nI 3 from rfl]
    refine ⟨fun q => ?_, fun q => ?_⟩
    · have := le_nI (by omega) (by omega) q
      have e3 : j = 3 := by omega
      subst e3
      refine mm_soundB C0 (RI := fun _ _ => False) (RV := ckP 3) (rb := false) (K := fun _ _ _ _ => False) (fun t loc st μ h => h.elim) (fun pc x μ loc _ hne => absurd rfl hne) hRV (lab_ck 59) 59 _ _ _ (ck_ok 59) ?_
      exact hν
    · have := nle_nI (by omega) (by omega) q
      exact k_empty (by omega) (ih (j + 1) (by omega) (by omega) _ (ckP_s hν)))
  have hlh : mm_lh G.2.2.1 ls 2 [some (.ref 0), none] := by
    refine ⟨hl.1, hl.2.1, fun i v hi => ?_⟩
    match i, hi with
    | 0, hi =>
      cases hi
      subst eG
      exact ⟨hls, rfl⟩
    | 1, hi => cases hi
    | i + 2, hi => simp at hi
  refine mm_soundB C0 (RI := fun _ _ => False) (RV := ckP 3) (rb := false) (K := fun t loc st μ => mm_WX hh_C G A ck_r.2.2.2.1 p l e { frames := 2, cells := 5, slots := 192, locals := 96 } s m ([.ref h0] : List Value).toArray below meth c 5 192 (MQ below (va_Qv (fun (u : List Nat × mm_M) => u.1.length = 5 ∧ ckP 3 u.2) (fun u t => va_P (dC, dI) vwCl ((h0, .inr (2, ct_fs fs_2 its_2 u.1)) :: ct_am cI cZ its_2 u.1 1 u.2) t.heap ∧ va_D A ((h0, .inr (2, ct_fs fs_2 its_2 u.1)) :: ct_am cI cZ its_2 u.1 1 u.2)) A) ([.ref h0] : List Value).toArray s 5 192 A) t loc st μ) (fun t loc st μ h => h) (fun pc x μ loc _ hne => absurd rfl hne) hRV (lab_ck 41) 41 [some (.ref 0), none] [] (fun _ _ => 0) (ck_ok 41) ?_ H1 locs1 ls hP2 hS1 hlh
  exact key 0 (Nat.zero_le _) _ (fun c hc => absurd hc (Nat.not_lt_zero c))
