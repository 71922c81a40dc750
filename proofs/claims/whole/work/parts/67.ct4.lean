/-! constructors: a new object, by its constructor -/
theorem nd_range' : ∀ n s, va_nd (List.range' s n) = true
  | 0, _ => rfl
  | n + 1, s => by
    rw [List.range'_succ]
    simp only [va_nd, Bool.and_eq_true, decide_eq_true_eq]
    refine ⟨fun h => ?_, nd_range' n (s + 1)⟩
    have := List.mem_range'.mp h
    omega
theorem nd_range (n : Nat) : va_nd (List.range n) = true := by
  rw [List.range_eq_range']
  exact nd_range' n 0
theorem map_range {w v : va_W} : (List.range w.length).map (fun i => (w ++ v)[i]?) = w.map some := by
  apply List.ext_getElem?
  intro i
  rw [List.getElem?_map, List.getElem?_map]
  by_cases h : i < w.length
  · rw [List.getElem?_range h, List.getElem?_eq_getElem h]
    show some ((w ++ v)[i]?) = some (some w[i])
    rw [List.getElem?_append_left h, List.getElem?_eq_getElem h]
  · rw [List.getElem?_eq_none (by simpa using h), List.getElem?_eq_none (by omega)]
    rfl
theorem last_get {w : va_W} {x : Nat × va_E} : (w ++ [x])[w.length]? = some x := by
  rw [List.getElem?_append_right (Nat.le_refl _), Nat.sub_self]
  rfl
theorem last_set {w : va_W} {x y : Nat × va_E} : (w ++ [x]).set w.length y = w ++ [y] := by
  rw [List.set_append_right _ _ (Nat.le_refl _), Nat.sub_self]
  rfl
theorem va_jl {A0 : Nat → Prop} {D : va_G} {cl : List vw_C} {w w1 : va_W} {x : Nat × va_E} {H H1 : Heap} (hP : va_P D cl (w ++ [x]) H) (hD : va_D A0 (w ++ [x])) (hk : ∀ q : Nat, q < H.size → ¬ va_A [x] H.size q → H1[q]? = H[q]?) (hF : ∀ q, va_A [x] H.size q → A0 q) (hP1 : va_P D cl w1 H1) (hD1 : va_D (va_A [x] H.size) w1) : va_P D cl (w ++ w1) H1 ∧ va_D A0 (w ++ w1) := by
  refine va_join (wc := [x]) (wr := w) hP hD [w.length] (List.range w.length) ?_ map_range (nd_range _) ?_ hk hF hP1 hD1
  · show [(w ++ [x])[w.length]?] = [some x]
    rw [last_get]
  · intro i hi h
    have h1 := List.mem_range.mp hi
    have h2 := List.mem_singleton.mp h
    omega
section CT4
variable {p : Program} {l : Launch} {e : Env} {R : Room} {s : State} {m : MethodId} {args : Array Value} {below : List Frame} {meth : Method} {c : Code} {cells slots : Nat} {Q : State → Prop} {A : Nat → Prop} {dC : Nat → ClassId} {dI : Nat → Nat → Nat} {cI cZ : ClassId} {h0 ci : Nat} {cc : ByteArray} {ls : Array Slot}
theorem ct_new {S : Type} {post : Nat → S → Prop} {wB : Nat → S → va_W} {ws : va_W} {fs0 : List Value} {rm : Room} {y : MethodName} {bytes : ByteArray} {own : String} {x1 x2 maxL mc ms nL pc : Nat} {H : Heap} {locs : List Loc} {rest : List Value} (hx : p.tables.exec = Jvm.exec) (hb : c.code = cc) (hml : c.maxLocals = nL) (hsz : ls.size = nL) (hts : ∀ w ∈ mm_GW, w.before args s = true) (hown : s.vm.findClass own = some m.cls) (hN : ∀ q ∈ ct_NT, va_Nw (ct_nl q) s) (hK : va_K (dC, dI) vwCl [(cI, .int), (cZ, .boolean)] s) (hA : ∀ q, s.heap.size ≤ q → A q) (h9 : ci < 9) (w1 : Cond.classLink own x1 (mm_R ci) ∈ mm_GW) (w2 : Cond.instantiable (mm_R ci) (mm_N ci) ∈ mm_GW) (w3 : Cond.initialized (mm_R ci) ∈ mm_GW) (hfs : ∀ j, j < mm_N ci → defaultValue (mm_ty ci j) = vp_V fs0 j) (hM : ct_M l dC dI cI cZ y bytes maxL rm ci fs0 post wB mc ms)
    (hcw : (va_CN R s args own x2 y "FishTins" bytes maxL none (.code y bytes maxL none :: mm_GW) rm mc ms 0 ∧ y.name = "<init>" ∧ (Cond.instanceMethod y).before args s = true) ∨ (CallB R s args own x2 y bytes maxL none (.code y bytes maxL none :: mm_GW) rm mc ms 0 ∧ y.name = "<init>" ∧ (Cond.instanceMethod y).before args s = true)) (hcat : (rest.map fun v => v.category).sum ≤ 7) (hcs : cells + 1 + mc ≤ R.cells) (hss : slots + mm_N ci + ms ≤ R.slots) (d0 : decode cc pc = .ok (.new x1, 3)) (d1 : decode cc (pc + 3) = .ok (.dup, 1)) (d2 : decode cc (pc + 4) = .ok (.invokespecial x2, 3)) (hP : va_P (dC, dI) vwCl ws H) (hD : va_D A ws) (hS : va_S A s.heap H locs)
    (kk : ∀ q u H1 locs1, post q u → va_P (dC, dI) vwCl (ws ++ wB q u) H1 → va_D A (ws ++ wB q u) → va_S A s.heap H1 locs1 → W p l e R s m args below meth c H1 locs1 (cells + 1 + mc) (slots + mm_N ci + ms) Q (F0 m (pc + 7) ls (.ref q :: rest))) : W p l e R s m args below meth c H locs cells slots Q (F0 m pc ls rest) := by
  refine va_new (D := (dC, dI)) (ci := ci) (fs := fs0) (C := mm_R ci) (T := mm_T ci) (N := mm_N ci) hx hb hts (mm_lay h9) (mm_ty ci) (mm_tyok h9) hown (hts _ w1) (hts _ w2) (hts _ w3) hK hP hD hS hA (mm_cl h9) hfs (by omega) (by omega) d0 (fun q H1 hP1 hD1 hS1 => ?_)
  refine lv_dup hx hb d1 rfl ?_
  have hF : ∀ z, va_A [(q, .inr (ci, fs0))] H1.size z → A z := by
    intro z hz
    rcases hz with ⟨k, en, hk⟩ | hz
    · have h1 : k = 0 := by
        have := (List.getElem?_eq_some_iff.mp hk).1
        simp at this
        exact this
      subst h1
      cases hk
      exact hD1.2 ws.length _ last_get
    · exact hA z (Nat.le_trans hS1.1 hz)
  have hPc : va_P (dC, dI) vwCl [(q, .inr (ci, fs0))] H1 := hP1.sub [ws.length] (by
    rw [List.filterMap_cons_some last_get]
    rfl)
  have hDc : va_D (fun _ => True) [(q, (.inr (ci, fs0) : va_E))] := (hD1.sub (ws' := [(q, .inr (ci, fs0))]) [ws.length] rfl (by
    show [(ws ++ [(q, .inr (ci, fs0))])[ws.length]?] = _
    rw [last_get]
    rfl)).weaken (fun _ _ _ _ => trivial)
  have hpre : PreS s H1 (va_Pc [.ref q] (ct_P dC dI cI cZ ci q fs0 H1.size)) [.ref q] := ⟨ct_blind, fun U hU hW => ⟨rfl, by rw [hU], by rw [hU]; exact hPc, va_K.moved hW.alike hK, hDc, fun z hz => va_Nw.warmM hW (hN z hz)⟩⟩
  have hrm : 2 * (F0 m (pc + 4) ls (.ref q :: .ref q :: rest)).monitorRoom + ((Value.ref q :: rest).map fun v => v.category).sum ≤ 8 := by
    refine lv_room ?_
    rw [List.map_cons, List.sum_cons]
    show 1 + _ ≤ 8
    omega
  have hrun : va_Run p l e R s m args below meth c H1 locs (cells + 1) (slots + mm_N ci) mc ms (F0 m (pc + 4) ls (.ref q :: .ref q :: rest)) (.ref q :: rest) (va_Qv (post q) (fun u t => va_P (dC, dI) vwCl (wB q u) t.heap ∧ va_D (va_A [(q, .inr (ci, fs0))] H1.size) (wB q u)) (va_A [(q, .inr (ci, fs0))] H1.size) (Value.ref q :: []).toArray) (va_A [(q, .inr (ci, fs0))] H1.size) := by
    rcases hcw with h | h
    · exact va_runIN (Ts := mm_GW) (own := own) (As := []) (rest := .ref q :: rest) ⟨hx, hb, hml, hown, hts⟩ (hM q H1.size) h hpre rfl rfl hsz rfl hrm d2 ⟨hcs, hss⟩
    · exact va_runI (Ts := mm_GW) (own := own) (As := []) (rest := .ref q :: rest) ⟨hx, hb, hml, hown, hts⟩ (hM q H1.size) h hpre rfl rfl hsz rfl hrm d2 ⟨hcs, hss⟩
  refine va_callv hrun hS1 (fun z _ h => hF z h) hF (fun u t H2 locs2 ht hvm hw hB hz1 hk1 hS2 => ?_)
  obtain ⟨hP2, hD2⟩ := hB
  rw [ht] at hP2
  obtain ⟨hP3, hD3⟩ := va_jl hP1 hD1 hk1 hF hP2 hD2
  exact kk q u H2 locs2 hw hP3 hD3 hS2
/-- a final field gets a new object -/
theorem ct_sub {S : Type} {post : Nat → S → Prop} {wB : Nat → S → va_W} {as : va_W} {fs fs0 : List Value} {rm : Room} {y : MethodName} {bytes : ByteArray} {o k x1 x2 x3 maxL mc ms nL pc : Nat} {cn : String} {H : Heap} {locs : List Loc} (hx : p.tables.exec = Jvm.exec) (hb : c.code = cc) (hml : c.maxLocals = nL) (hsz : ls.size = nL) (hts : ∀ w ∈ mm_GW, w.before args s = true) (hown : s.vm.findClass (mm_R o) = some m.cls) (hin : meth.name = "<init>") (hN : ∀ q ∈ ct_NT, va_Nw (ct_nl q) s) (hK : va_K (dC, dI) vwCl [(cI, .int), (cZ, .boolean)] s) (hA : ∀ q, s.heap.size ≤ q → A q) (hls : ls[0]? = some (.val (.ref h0))) (h9 : ci < 9) (w1 : Cond.classLink (mm_R o) x1 (mm_R ci) ∈ mm_GW) (w2 : Cond.instantiable (mm_R ci) (mm_N ci) ∈ mm_GW) (w3 : Cond.initialized (mm_R ci) ∈ mm_GW) (hfs : ∀ j, j < mm_N ci → defaultValue (mm_ty ci j) = vp_V fs0 j) (hM : ct_M l dC dI cI cZ y bytes maxL rm ci fs0 post wB mc ms)
    (hcw : (va_CN R s args (mm_R o) x2 y "FishTins" bytes maxL none (.code y bytes maxL none :: mm_GW) rm mc ms 0 ∧ y.name = "<init>" ∧ (Cond.instanceMethod y).before args s = true) ∨ (CallB R s args (mm_R o) x2 y bytes maxL none (.code y bytes maxL none :: mm_GW) rm mc ms 0 ∧ y.name = "<init>" ∧ (Cond.instanceMethod y).before args s = true)) (hcs : cells + 1 + mc ≤ R.cells) (hss : slots + mm_N ci + ms ≤ R.slots) (da : decode cc pc = .ok (.aload_n 0, 1)) (d0 : decode cc (pc + 1) = .ok (.new x1, 3)) (d1 : decode cc (pc + 4) = .ok (.dup, 1)) (d2 : decode cc (pc + 5) = .ok (.invokespecial x2, 3)) (d3 : decode cc (pc + 8) = .ok (.putfield x3, 3)) (hf : (o, x3, o, k) ∈ mm_FT) (hfin : (mm_T o k).2.2.2 = true) (hdecl : (mm_T o k).1 = mm_R o) (hd : parseFieldDescriptor (mm_T o k).2.2.1 = some (.object cn)) (hlen : mm_N o ≤ fs.length) (hP : va_P (dC, dI) vwCl ((h0, .inr (o, fs)) :: as) H) (hD : va_D A ((h0, .inr (o, fs)) :: as)) (hS : va_S A s.heap H locs)
    (kk : ∀ q u H1 locs1, post q u → va_P (dC, dI) vwCl ((h0, .inr (o, fs.set k (.ref q))) :: (as ++ wB q u)) H1 → va_D A ((h0, .inr (o, fs.set k (.ref q))) :: (as ++ wB q u)) → va_S A s.heap H1 locs1 → W p l e R s m args below meth c H1 locs1 (cells + 1 + mc) (slots + mm_N ci + ms) Q (F0 m (pc + 11) ls [])) : W p l e R s m args below meth c H locs cells slots Q (F0 m pc ls []) := by
  refine lv_aload_n hx hb da rfl hls ?_
  refine ct_new (S := S) (post := post) (wB := wB) (own := mm_R o) hx hb hml hsz hts hown hN hK hA h9 w1 w2 w3 hfs hM hcw (Nat.le_of_ble_eq_true rfl) hcs hss d0 d1 d2 hP hD hS (fun q u H1 locs1 hu hP1 hD1 hS1 => ?_)
  exact ct_put (ci := o) (k := k) (ty := .object cn) hx hb hts hown hin hK hP1 hD1 hS1 hf hfin hdecl hd rfl rfl hlen d3 (fun H2 locs2 hP2 hD2 hS2 => kk q u H2 locs2 hu hP2 hD2 hS2)
end CT4
