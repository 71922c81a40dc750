theorem mm_blind {av : List Value} {Sh : List mm_C} {G : mm_G} {sz : Nat} {μ : mm_M} : FrameBlind (va_Pc av (mm_Pre Sh G sz μ)) := fun a U g mk q => by
  obtain ⟨q0, q1, qP, qK, qD, qN⟩ := q
  exact ⟨q0, q1, qP, va_K.moved (u := U) (U := U.calling g mk a) (Vm.Alike.refl U.vm) qK, qD, fun w hw => va_Nw.same rfl rfl (qN w hw)⟩
section SND
variable {ρ : mm_Row} {Sh : List mm_C} {G : mm_G} {scr : Option (Nat × (Nat → Int32))} {A : Nat → Prop} {p : Program} {l : Launch} {e : Env} {R : Room} {s : State} {m : MethodId} {args : Array Value} {below : List Frame} {meth : Method} {c : Code} {cells slots : Nat} {Q : State → Prop}
variable {pc : Nat} {loc : mm_L} {st : List Value} {μ : mm_M}
theorem ms_pre (C0 : mm_Cx ρ Sh G scr A p R s m args c cells slots) {H : Heap} (hP : va_P (G.1, G.2.1) vwCl (mm_cells G Sh μ) H) : ∀ U : State, U.heap = H → s.WarmedH U.vm → mm_Pre Sh G H.size μ U := by
  obtain ⟨hx, hb, hml, hown, hts, hN, hK, hD, hA, hR, hcs, hX⟩ := C0
  intro U hU hW
  exact ⟨by rw [hU], by rw [hU]; exact hP, va_K.moved hW.alike hK, (hD μ).weaken (fun _ _ _ _ => trivial), fun q hq => va_Nw.warmM hW (hN q hq)⟩
theorem ms_free (C0 : mm_Cx ρ Sh G scr A p R s m args c cells slots) {H : Heap} {locs : List Loc} (hS : va_S A s.heap H locs) : ∀ q, va_A (mm_cells G Sh μ) H.size q → A q := by
  obtain ⟨hx, hb, hml, hown, hts, hN, hK, hD, hA, hR, hcs, hX⟩ := C0
  intro q h
  rcases h with ⟨k, z, h⟩ | h
  · exact (hD μ).2 k (q, z) h
  · exact hA q (Nat.le_trans hS.1 h)
theorem ms_after (C0 : mm_Cx ρ Sh G scr A p R s m args c cells slots) {H : Heap} {locs : List Loc} {ls : Array Slot} {rest : List Value} {ret : Option FieldType} {RI : Int32 → mm_M → Prop} {RV : mm_M → Prop} {a : Array Value} {st0 : List Value} (hS : va_S A s.heap H locs) (hl : mm_lh G.2.2.1 ls ρ.2.2.2.1 loc)
    (run : va_Run p l e R s m args below meth c H locs cells slots 0 0 (F0 m pc ls st0) (rest.map (mm_v G.2.2.1)) (mm_Qc Sh G ret RI RV (va_A (mm_cells G Sh μ) H.size) a) (va_A (mm_cells G Sh μ) H.size))
    (kI : ∀ r μ', RI r μ' → mm_WX Sh G A ρ.2.2.2.1 p l e R s m args below meth c cells slots Q (pc + 3) loc (.int r :: rest) μ') (kV : ∀ μ', RV μ' → mm_WX Sh G A ρ.2.2.2.1 p l e R s m args below meth c cells slots Q (pc + 3) loc rest μ') : W p l e R s m args below meth c H locs cells slots Q (F0 m pc ls st0) := by
  have hF := ms_free (μ := μ) C0 hS
  by_cases hr : ret = none
  · rw [mm_Qc, if_pos hr] at run
    exact va_callv run hS (fun q _ h => hF q h) hF (fun u t H1 locs1 ht hvm hw hB hz1 hk1 hS1 => kV u hw H1 locs1 ls (by rw [← ht]; exact hB) hS1 hl)
  · rw [mm_Qc, if_neg hr] at run
    exact va_calli run hS (fun q _ h => hF q h) hF (fun r u t H1 locs1 ht hvm hw hB hz1 hk1 hS1 => kI r u hw H1 locs1 ls (by rw [← ht]; exact hB) hS1 hl)
theorem ms_callS (C0 : mm_Cx ρ Sh G scr A p R s m args c cells slots) {x k n : Nat} {RI : Int32 → mm_M → Prop} {RV : mm_M → Prop} (hd : decode ρ.2.2.1 pc = .ok (.invokestatic x, 3)) (hct : (ρ.1, x, k) ∈ mm_CT ∨ (ρ.1, x, k) ∈ mm_NT) (hdep : (mm_m k).2.2.2.2.2.1 < ρ.2.2.2.2.2.1) (hn : (mm_m k).2.2.2.2.2.2.1 = n) (hst : (mm_m k).2.2.2.2.2.2.2 = true) (hcb : mm_cb n st = true) (hC : mm_Cs Sh k (st.take n).reverse μ RI RV)
    (kI : ∀ r μ', RI r μ' → mm_WX Sh G A ρ.2.2.2.1 p l e R s m args below meth c cells slots Q (pc + 3) loc (.int r :: st.drop n) μ') (kV : ∀ μ', RV μ' → mm_WX Sh G A ρ.2.2.2.1 p l e R s m args below meth c cells slots Q (pc + 3) loc (st.drop n) μ') : mm_WX Sh G A ρ.2.2.2.1 p l e R s m args below meth c cells slots Q pc loc st μ := by
  intro H locs ls hP hS hl
  have hpre := ms_pre C0 hP
  have C1 := C0
  obtain ⟨hx, hb, hml, hown, hts, hN, hK, hD, hA, hR, hcs, hX⟩ := C0
  obtain ⟨o1, o2, o3, o4, o5, o6, o7, o8, o9, o10, o11⟩ := mm_mok k
  rw [hst, hn] at o7
  obtain ⟨hc0, hc1, hc8⟩ := mm_cb_inv hcb
  have hM := hC l G H.size
  have hG : GoodIn mm_GW (mm_ws (mm_m k)) := mm_gw_good (fun w hw => (List.mem_cons.mp hw).elim (fun h => h ▸ o1) (fun h => h))
  have hRm : (mm_rm (mm_m k)).frames + 1 ≤ R.frames ∧ 8 + ((mm_m k).2.2.2.1 + 11) + (mm_rm (mm_m k)).locals ≤ R.locals := by
    have h1 := hR.1
    have h2 := hR.2
    constructor
    · show (mm_m k).2.2.2.2.2.1 + 1 ≤ R.frames
      omega
    · show 8 + ((mm_m k).2.2.2.1 + 11) + 48 * (mm_m k).2.2.2.2.2.1 ≤ R.locals
      omega
  have hlen : ((st.take n).reverse.map (mm_v G.2.2.1)).length = n := by
    simp; omega
  have hW8 : 2 * (F0 m pc ls (st.map (mm_v G.2.2.1))).monitorRoom + (((st.drop n).map (mm_v G.2.2.1)).map fun v => v.category).sum ≤ 8 := by
    rw [mm_cat_le _ (mm_drop_all hc1), List.length_drop]
    show 2 * 0 + _ ≤ 8
    omega
  refine ms_after (μ := μ) (ret := (mm_m k).2.2.2.2.1) (a := ((st.take n).reverse.map (mm_v G.2.2.1)).toArray) C1 hS hl ?_ kI kV
  · rcases hct with h | h
    · exact va_runS (Ts := mm_GW) (own := mm_R ρ.1) ⟨hx, hb, hml, hown, hts⟩ hM ⟨callB_of n hts hG rfl rfl rfl (hts _ o2) (hts _ (mm_ct_ok h)) o7 hRm, hts _ (o3 hst)⟩ ⟨mm_blind, fun U hU hW => ⟨rfl, hpre U hU hW⟩⟩ rfl hlen hl.1 (mm_map_rev st n) hW8 hd ⟨hcs.1, hcs.2⟩
    · exact va_runSN (Ts := mm_GW) (own := mm_R ρ.1) (host := "FishTins") ⟨hx, hb, hml, hown, hts⟩ hM ⟨va_cnB n hts hG rfl rfl rfl (hN _ h) (hts _ o2) o7 hRm, hts _ (o3 hst), trivial⟩ ⟨mm_blind, fun U hU hW => ⟨rfl, hpre U hU hW⟩⟩ rfl hlen hl.1 (mm_map_rev st n) hW8 hd ⟨hcs.1, hcs.2⟩
theorem ms_callV (C0 : mm_Cx ρ Sh G scr A p R s m args c cells slots) {x k n : Nat} {RI : Int32 → mm_M → Prop} {RV : mm_M → Prop} (hd : decode ρ.2.2.1 pc = .ok (.invokevirtual x, 3)) (hct : (ρ.1, x, k) ∈ mm_CT) (hdep : (mm_m k).2.2.2.2.2.1 < ρ.2.2.2.2.2.1) (hn : (mm_m k).2.2.2.2.2.2.1 = n) (hst : (mm_m k).2.2.2.2.2.2.2 = false) (hcb : mm_cb n st = true) (hrc : mm_rc Sh (mm_m k).1 (st.take n).reverse) (hC : mm_Cs Sh k (st.take n).reverse μ RI RV)
    (kI : ∀ r μ', RI r μ' → mm_WX Sh G A ρ.2.2.2.1 p l e R s m args below meth c cells slots Q (pc + 3) loc (.int r :: st.drop n) μ') (kV : ∀ μ', RV μ' → mm_WX Sh G A ρ.2.2.2.1 p l e R s m args below meth c cells slots Q (pc + 3) loc (st.drop n) μ') : mm_WX Sh G A ρ.2.2.2.1 p l e R s m args below meth c cells slots Q pc loc st μ := by
  intro H locs ls hP hS hl
  have hpre := ms_pre C0 hP
  have C1 := C0
  obtain ⟨hx, hb, hml, hown, hts, hN, hK, hD, hA, hR, hcs, hX⟩ := C0
  obtain ⟨o1, o2, o3, o4, o5, o6, o7, o8, o9, o10, o11⟩ := mm_mok k
  obtain ⟨o4a, o4b, o4c⟩ := o4 hst
  rw [hst, hn] at o7
  rw [hn] at o4c
  obtain ⟨hc0, hc1, hc8⟩ := mm_cb_inv hcb
  have hM := hC l G H.size
  have hG : GoodIn mm_GW (wsV (mm_R ρ.1) x (mm_m k).2.1.cls (mm_m k).2.1 (mm_ws (mm_m k))) := mm_gw_good (fun w hw => by
    unfold wsV at hw
    rcases List.mem_append.mp hw with h | h
    · simp only [List.mem_cons, List.not_mem_nil, or_false] at h
      rcases h with rfl | rfl | rfl | rfl
      · exact mm_ct_ok hct
      · exact o4a
      · exact o4b
      · exact o2
    · exact (List.mem_cons.mp h).elim (fun h => h ▸ o1) (fun h => h))
  have hRm : (mm_rm (mm_m k)).frames + 1 ≤ R.frames ∧ 8 + ((mm_m k).2.2.2.1 + 11) + (mm_rm (mm_m k)).locals ≤ R.locals := by
    have h1 := hR.1
    have h2 := hR.2
    constructor
    · show (mm_m k).2.2.2.2.2.1 + 1 ≤ R.frames
      omega
    · show 8 + ((mm_m k).2.2.2.1 + 11) + 48 * (mm_m k).2.2.2.2.2.1 ≤ R.locals
      omega
  have hW8 : 2 * (F0 m pc ls (st.map (mm_v G.2.2.1))).monitorRoom + (((st.drop n).map (mm_v G.2.2.1)).map fun v => v.category).sum ≤ 8 := by
    rw [mm_cat_le _ (mm_drop_all hc1), List.length_drop]
    show 2 * 0 + _ ≤ 8
    omega
  obtain ⟨a, As, fs, hav, ha⟩ := mm_rc_inv hrc
  have hlen0 : (st.take n).reverse.length = n := by simp; omega
  have hlenA : (As.map (mm_v G.2.2.1)).length = n - 1 := by
    rw [hav] at hlen0
    simp at hlen0 ⊢
    omega
  have hstack : st.map (mm_v G.2.2.1) = (As.map (mm_v G.2.2.1)).reverse ++ .ref (G.2.2.1 a) :: (st.drop n).map (mm_v G.2.2.1) := by
    rw [mm_map_rev st n, hav]
    simp [mm_v]
  have hM2 : Met l (mm_m k).2.1 (mm_ws (mm_m k)) (mm_rm (mm_m k)) (va_Pc (.ref (G.2.2.1 a) :: As.map (mm_v G.2.2.1)) (mm_Pre Sh G H.size μ)) (mm_Qc Sh G (mm_m k).2.2.2.2.1 RI RV (va_A (mm_cells G Sh μ) H.size)) 0 0 (va_A (mm_cells G Sh μ) H.size) := by
    rw [hav] at hM
    exact hM
  have hrecv := va_recv hK hP (ci := (mm_m k).1) (q0 := a) (mm_cl o9) (mm_cells_get ha)
  refine ms_after (μ := μ) (ret := (mm_m k).2.2.2.2.1) (a := (Value.ref (G.2.2.1 a) :: As.map (mm_v G.2.2.1)).toArray) C1 hS hl ?_ kI kV
  exact va_runV (Ts := mm_GW) (own := mm_R ρ.1) (C := (mm_m k).2.1.cls) (b := G.2.2.1 a) (As := As.map (mm_v G.2.2.1)) ⟨hx, hb, hml, hown, hts⟩ hM2 (cwV (n - 1) hts hG rfl rfl rfl ⟨rfl, o7.1, o7.2.1, o7.2.2⟩ hRm) ⟨mm_blind, by rw [o5]; exact hrecv, fun U hU hW => ⟨rfl, hpre U hU hW⟩⟩ rfl hlenA hl.1 hstack hW8 hd ⟨hcs.1, hcs.2⟩
end SND
