/-! locals -/
def mm_al (ad : Nat → Nat) (loc : mm_L) : List (Nat × Value) := (List.range loc.length).filterMap (fun i => match loc[i]? with
  | some (some v) => some (i, mm_v ad v)
  | _ => none)
theorem mm_al_in {ad : Nat → Nat} {loc : mm_L} {i : Nat} {v : Value} (h : loc[i]? = some (some v)) : (i, mm_v ad v) ∈ mm_al ad loc := by
  refine List.mem_filterMap.mpr ⟨i, List.mem_range.mpr (List.getElem?_eq_some_iff.mp h).1, ?_⟩
  rw [h]
theorem mm_al_inv {ad : Nat → Nat} {loc : mm_L} {q : Nat × Value} (h : q ∈ mm_al ad loc) : ∃ v, loc[q.1]? = some (some v) ∧ q.2 = mm_v ad v := by
  obtain ⟨i, -, hi⟩ := List.mem_filterMap.mp h
  split at hi
  · next v hv => obtain rfl := Option.some.inj hi; exact ⟨v, hv, rfl⟩
  · cases hi
theorem mm_lh_has {ad : Nat → Nat} {ls : Array Slot} {nL : Nat} {loc : mm_L} (h : mm_lh ad ls nL loc) : lv_has ls nL (mm_al ad loc) := ⟨h.1, h.2.1, fun q hq => by
  obtain ⟨v, h1, h2⟩ := mm_al_inv hq
  rw [h2]
  exact (h.2.2 _ _ h1).1⟩
theorem mm_lh_set {ad : Nat → Nat} {ls ls' : Array Slot} {nL i : Nat} {loc : mm_L} {w : Int32} (h : mm_lh ad ls nL loc) (h' : lv_has ls' nL ((i, Value.int w) :: (mm_al ad loc).filter (fun q => !(q.1 == i) && !(q.1 + 1 == i && q.2.category == 2)))) : mm_lh ad ls' nL (loc.set i (some (.int w))) := by
  refine ⟨h'.1, h'.2.1, fun j v hj => ?_⟩
  rw [List.getElem?_set] at hj
  by_cases hij : i = j
  · subst hij
    rw [if_pos rfl] at hj
    split at hj
    · obtain rfl := Option.some.inj (Option.some.inj hj)
      exact ⟨h'.2.2 (i, .int w) List.mem_cons_self, rfl⟩
    · cases hj
  · rw [if_neg hij] at hj
    have hc := (h.2.2 j v hj).2
    refine ⟨h'.2.2 (j, mm_v ad v) (List.mem_cons_of_mem _ (List.mem_filter.mpr ⟨mm_al_in hj, ?_⟩)), hc⟩
    have h1 : (mm_v ad v).category = 1 := mm_v_cat hc
    have h2 : (j == i) = false := beq_eq_false_iff_ne.mpr (fun h => hij h.symm)
    show (!(j == i) && !(j + 1 == i && (mm_v ad v).category == 2)) = true
    rw [h1, h2]
    simp
theorem mm_narb {x : Int32} (h : x &&& 1 = x) : narrow .boolean (.int x) = .int x := by
  show Value.int (x &&& 1) = .int x
  rw [h]
theorem mm_map_rev {ad : Nat → Nat} (st : List Value) (n : Nat) : st.map (mm_v ad) = ((st.take n).reverse.map (mm_v ad)).reverse ++ (st.drop n).map (mm_v ad) := by
  rw [List.map_reverse, List.reverse_reverse, ← List.map_append, List.take_append_drop]
theorem mm_cat_le {ad : Nat → Nat} : ∀ (st : List Value), st.all mm_c1 = true → ((st.map (mm_v ad)).map fun v => v.category).sum = st.length
  | [], _ => rfl
  | v :: st, h => by
    simp only [List.all_cons, Bool.and_eq_true] at h
    simp only [List.map_cons, List.sum_cons, List.length_cons, mm_v_cat h.1, mm_cat_le st h.2]
    omega
theorem mm_cb_inv {n : Nat} {st : List Value} (h : mm_cb n st = true) : n ≤ st.length ∧ st.all mm_c1 = true ∧ st.length ≤ 8 := by
  simp only [mm_cb, Bool.and_eq_true, decide_eq_true_eq] at h
  exact ⟨h.1.1, h.1.2, h.2⟩
theorem mm_drop_all {n : Nat} {st : List Value} (h : st.all mm_c1 = true) : (st.drop n).all mm_c1 = true := by
  rw [List.all_eq_true] at h ⊢
  exact fun v hv => h v (List.mem_of_mem_drop hv)
section SND
variable {ρ : mm_Row} {Sh : List mm_C} {G : mm_G} {scr : Option (Nat × (Nat → Int32))} {A : Nat → Prop} {p : Program} {l : Launch} {e : Env} {R : Room} {s : State} {m : MethodId} {args : Array Value} {below : List Frame} {meth : Method} {c : Code} {cells slots : Nat} {Q : State → Prop}
variable {pc : Nat} {loc : mm_L} {st : List Value} {μ : mm_M}
/-- storing a number -/
theorem ms_istore_n (C0 : mm_Cx ρ Sh G scr A p R s m args c cells slots) {n : Fin 4} {x : Int32} (hd : decode ρ.2.2.1 pc = .ok (.istore_n n, 1)) (hn : n.val < ρ.2.2.2.1) (k : mm_WX Sh G A ρ.2.2.2.1 p l e R s m args below meth c cells slots Q (pc + 1) (loc.set n.val (some (.int x))) st μ) : mm_WX Sh G A ρ.2.2.2.1 p l e R s m args below meth c cells slots Q pc loc (.int x :: st) μ := by
  obtain ⟨hx, hb, -⟩ := C0
  intro H locs ls hP hS hl
  exact lv_istore_n hx hb hd rfl (mm_lh_has hl) hn rfl (fun ls' hl' => k H locs ls' hP hS (mm_lh_set hl hl'))
theorem ms_istore (C0 : mm_Cx ρ Sh G scr A p R s m args c cells slots) {n : Nat} {x : Int32} (hd : decode ρ.2.2.1 pc = .ok (.istore n, 2)) (hn : n < ρ.2.2.2.1) (k : mm_WX Sh G A ρ.2.2.2.1 p l e R s m args below meth c cells slots Q (pc + 2) (loc.set n (some (.int x))) st μ) : mm_WX Sh G A ρ.2.2.2.1 p l e R s m args below meth c cells slots Q pc loc (.int x :: st) μ := by
  obtain ⟨hx, hb, -⟩ := C0
  intro H locs ls hP hS hl
  exact lv_istore hx hb hd (mm_lh_has hl) hn rfl (fun ls' hl' => k H locs ls' hP hS (mm_lh_set hl hl'))
theorem ms_iinc (C0 : mm_Cx ρ Sh G scr A p R s m args c cells slots) {n : Nat} {z : Int} {x im : Int32} (hd : decode ρ.2.2.1 pc = .ok (.iinc n z, 3)) (hz : Int32.ofInt z = im) (hn : n < ρ.2.2.2.1) (hx0 : loc[n]? = some (some (.int x))) (k : mm_WX Sh G A ρ.2.2.2.1 p l e R s m args below meth c cells slots Q (pc + 3) (loc.set n (some (.int (x + im)))) st μ) : mm_WX Sh G A ρ.2.2.2.1 p l e R s m args below meth c cells slots Q pc loc st μ := by
  obtain ⟨hx, hb, -⟩ := C0
  intro H locs ls hP hS hl
  obtain ⟨j, hj⟩ := List.getElem?_of_mem (mm_al_in (ad := G.2.2.1) hx0)
  exact lv_iinc (v := x + im) hx hb hd (mm_lh_has hl) (k := j) hj (by rw [hz]) hn rfl (fun ls' hl' => k H locs ls' hP hS (mm_lh_set hl hl'))
/-- reading and writing fields -/
theorem ms_get (C0 : mm_Cx ρ Sh G scr A p R s m args c cells slots) {x r1 r2 a : Nat} {fs : List (Option Nat)} {f : Option Nat} (hd : decode ρ.2.2.1 pc = .ok (.getfield x, 3)) (hf : (ρ.1, x, r1, r2) ∈ mm_FT) (ha : Sh[a]? = some (.inr (r1, fs))) (hv : fs[r2]? = some f) (k : mm_WX Sh G A ρ.2.2.2.1 p l e R s m args below meth c cells slots Q (pc + 3) loc (mm_gv μ a r2 f :: st) μ) : mm_WX Sh G A ρ.2.2.2.1 p l e R s m args below meth c cells slots Q pc loc (.ref a :: st) μ := by
  obtain ⟨hx, hb, hml, hown, hts, hN, hK, hD, hA, hR, hcs, hX⟩ := C0
  obtain ⟨hw, h9, hk⟩ := mm_ft_ok hf
  intro H locs ls hP hS hl
  refine va_get (D := (G.1, G.2.1)) (ci := r1) (v := mm_fv G.2.2.1 (μ a) r2 f) (C := mm_R r1) (T := mm_T r1) (N := mm_N r1) hx hb hts (mm_lay h9) hown hK hP a (fs := fs.mapIdx (mm_fv G.2.2.1 (μ a))) (mm_cells_get ha) (mm_cl h9) r2 hk (hts _ hw) (fun _ h => h) (by rw [List.getElem?_mapIdx, hv]; rfl) hd ?_
  have := k H locs ls hP hS hl
  cases f <;> exact this
theorem ms_put (C0 : mm_Cx ρ Sh G scr A p R s m args c cells slots) {x r1 r2 a : Nat} {fs : List (Option Nat)} {z : Int32} (hd : decode ρ.2.2.1 pc = .ok (.putfield x, 3)) (hf : (ρ.1, x, r1, r2) ∈ mm_FT) (hfin : (mm_T r1 r2).2.2.2 = false) (hty : parseFieldDescriptor (mm_T r1 r2).2.2.1 = some .int) (ha : Sh[a]? = some (.inr (r1, fs))) (hv : fs[r2]? = some none) (k : mm_WX Sh G A ρ.2.2.2.1 p l e R s m args below meth c cells slots Q (pc + 3) loc st (mm_wr μ a r2 z)) : mm_WX Sh G A ρ.2.2.2.1 p l e R s m args below meth c cells slots Q pc loc (.int z :: .ref a :: st) μ := by
  obtain ⟨hx, hb, hml, hown, hts, hN, hK, hD, hA, hR, hcs, hX⟩ := C0
  obtain ⟨hw, h9, hk⟩ := mm_ft_ok hf
  intro H locs ls hP hS hl
  have hset : (mm_cells G Sh μ).set a (G.2.2.1 a, .inr (r1, (fs.mapIdx (mm_fv G.2.2.1 (μ a))).set r2 (.int z))) = mm_cells G Sh (mm_wr μ a r2 z) := mm_cells_set ha (by rw [mm_fs_set hv]; simp only [mm_cell, mm_wr_s]) mm_wr_o
  refine va_put (D := (G.1, G.2.1)) (ci := r1) (v := .int z) (ty := .int) (C := mm_R r1) (T := mm_T r1) (N := mm_N r1) hx hb hts (mm_lay h9) (mm_ty r1) (mm_tyok h9) (mm_nm h9) hown hK hP (hD μ) hS a (fs := fs.mapIdx (mm_fv G.2.2.1 (μ a))) (mm_cells_get ha) (mm_cl h9) r2 hk (hts _ hw) (fun _ h => h) hfin hty rfl rfl (by rw [List.length_mapIdx]; exact (List.getElem?_eq_some_iff.mp hv).1) hd (fun H1 locs1 hP1 hD1 hS1 => ?_)
  rw [hset] at hP1
  exact k H1 locs1 ls hP1 hS1 hl
/-- arrays -/
theorem ms_iald (C0 : mm_Cx ρ Sh G scr A p R s m args c cells slots) {a n : Nat} {i : Int32} (hd : decode ρ.2.2.1 pc = .ok (.iaload, 1)) (ha : Sh[a]? = some (.inl (false, n))) (hi : vp_in i n) (k : mm_WX Sh G A ρ.2.2.2.1 p l e R s m args below meth c cells slots Q (pc + 1) loc (.int (μ a i.toNatClampNeg) :: st) μ) : mm_WX Sh G A ρ.2.2.2.1 p l e R s m args below meth c cells slots Q pc loc (.int i :: .ref a :: st) μ := by
  obtain ⟨hx, hb, hml, hown, hts, hN, hK, hD, hA, hR, hcs, hX⟩ := C0
  intro H locs ls hP hS hl
  exact va_iald hx hb hK hP a 0 (cA := G.2.2.2.1) (n := n) (f := μ a) (mm_cells_get ha) rfl hi hd (k H locs ls hP hS hl)
theorem ms_zald (C0 : mm_Cx ρ Sh G scr A p R s m args c cells slots) {a n : Nat} {i : Int32} (hd : decode ρ.2.2.1 pc = .ok (.baload, 1)) (ha : Sh[a]? = some (.inl (true, n))) (hi : vp_in i n) (k : mm_WX Sh G A ρ.2.2.2.1 p l e R s m args below meth c cells slots Q (pc + 1) loc (.int (μ a i.toNatClampNeg) :: st) μ) : mm_WX Sh G A ρ.2.2.2.1 p l e R s m args below meth c cells slots Q pc loc (.int i :: .ref a :: st) μ := by
  obtain ⟨hx, hb, hml, hown, hts, hN, hK, hD, hA, hR, hcs, hX⟩ := C0
  intro H locs ls hP hS hl
  exact va_zald hx hb hK hP a 1 (cA := G.2.2.2.2) (n := n) (f := μ a) (mm_cells_get ha) rfl hi hd (k H locs ls hP hS hl)
theorem ms_iast (C0 : mm_Cx ρ Sh G scr A p R s m args c cells slots) {a n : Nat} {i x : Int32} (hd : decode ρ.2.2.1 pc = .ok (.iastore, 1)) (ha : Sh[a]? = some (.inl (false, n))) (hi : vp_in i n) (k : mm_WX Sh G A ρ.2.2.2.1 p l e R s m args below meth c cells slots Q (pc + 1) loc st (mm_wr μ a i.toNatClampNeg x)) : mm_WX Sh G A ρ.2.2.2.1 p l e R s m args below meth c cells slots Q pc loc (.int x :: .int i :: .ref a :: st) μ := by
  obtain ⟨hx, hb, hml, hown, hts, hN, hK, hD, hA, hR, hcs, hX⟩ := C0
  intro H locs ls hP hS hl
  have hset : (mm_cells G Sh μ).set a (G.2.2.1 a, .inl (G.2.2.2.1, n, .inl (upd (μ a) i.toNatClampNeg x))) = mm_cells G Sh (mm_wr μ a i.toNatClampNeg x) := mm_cells_set ha (by simp only [mm_cell, mm_wr_s]; rfl) mm_wr_o
  refine va_iast hx hb hK hP (hD μ) hS a 0 (cA := G.2.2.2.1) (n := n) (f := μ a) (mm_cells_get ha) rfl hi hd (fun H1 locs1 hP1 hD1 hS1 => ?_)
  rw [hset] at hP1
  exact k H1 locs1 ls hP1 hS1 hl
theorem ms_zast (C0 : mm_Cx ρ Sh G scr A p R s m args c cells slots) {a n : Nat} {i x : Int32} (hd : decode ρ.2.2.1 pc = .ok (.bastore, 1)) (ha : Sh[a]? = some (.inl (true, n))) (hi : vp_in i n) (hxx : x &&& 1 = x) (k : mm_WX Sh G A ρ.2.2.2.1 p l e R s m args below meth c cells slots Q (pc + 1) loc st (mm_wr μ a i.toNatClampNeg x)) : mm_WX Sh G A ρ.2.2.2.1 p l e R s m args below meth c cells slots Q pc loc (.int x :: .int i :: .ref a :: st) μ := by
  obtain ⟨hx, hb, hml, hown, hts, hN, hK, hD, hA, hR, hcs, hX⟩ := C0
  intro H locs ls hP hS hl
  have hset : (mm_cells G Sh μ).set a (G.2.2.1 a, .inl (G.2.2.2.2, n, .inl (upd (μ a) i.toNatClampNeg x))) = mm_cells G Sh (mm_wr μ a i.toNatClampNeg x) := mm_cells_set ha (by simp only [mm_cell, mm_wr_s]; rfl) mm_wr_o
  have hnar : vp_nar .boolean x = x := by
    show (x &&& 1) = x
    exact hxx
  refine va_zast hx hb hK hP (hD μ) hS a 1 (cA := G.2.2.2.2) (n := n) (f := μ a) (mm_cells_get ha) rfl hi hd (fun H1 locs1 hP1 hD1 hS1 => ?_)
  rw [hnar, hset] at hP1
  exact k H1 locs1 ls hP1 hS1 hl
theorem ms_cpy (C0 : mm_Cx ρ Sh G scr A p R s m args c cells slots) {x a d na nd : Nat} {sp dp n : Int32} (hd : decode ρ.2.2.1 pc = .ok (.invokestatic x, 3)) (hsp : (ρ.1, x, 1002) ∈ mm_SP) (hdep : 1 ≤ ρ.2.2.2.2.2.1) (hcb : mm_cb 0 st = true) (ha : Sh[a]? = some (.inl (false, na))) (hb1 : Sh[d]? = some (.inl (false, nd))) (h1 : ¬ sp < 0) (h2 : ¬ dp < 0) (h3 : ¬ n < 0) (h4 : sp.toNatClampNeg + n.toNatClampNeg ≤ na) (h5 : dp.toNatClampNeg + n.toNatClampNeg ≤ nd)
    (k : mm_WX Sh G A ρ.2.2.2.1 p l e R s m args below meth c cells slots Q (pc + 3) loc st (mm_cp μ a d sp.toNatClampNeg dp.toNatClampNeg n.toNatClampNeg)) : mm_WX Sh G A ρ.2.2.2.1 p l e R s m args below meth c cells slots Q pc loc (.int n :: .int dp :: .ref d :: .int sp :: .ref a :: st) μ := by
  obtain ⟨hx, hb, hml, hown, hts, hN, hK, hD, hA, hR, hcs, hX⟩ := C0
  obtain ⟨-, hc1, hc8⟩ := mm_cb_inv hcb
  intro H locs ls hP hS hl
  have hlink := mm_sp_ok _ hsp
  have hset : (mm_cells G Sh μ).set d (G.2.2.1 d, .inl (G.2.2.2.1, nd, .inl (va_cpy (μ a) (μ d) sp.toNatClampNeg dp.toNatClampNeg n.toNatClampNeg))) = mm_cells G Sh (mm_cp μ a d sp.toNatClampNeg dp.toNatClampNeg n.toNatClampNeg) := mm_cells_set hb1 (by simp only [mm_cell, mm_cp_s]; rfl) mm_cp_o
  refine va_copyi hx hb (by rw [hml, hl.1]) hown (hts _ hlink) (hts _ mm_cpy_w.1) (hts _ mm_cpy_w.2.1) (hts _ mm_cpy_w.2.2) hK hP (hD μ) hS a d 0 0 (a0 := G.2.2.1 a) (c0 := G.2.2.2.1) (c1 := G.2.2.2.1) (n0 := na) (n1 := nd) (f := μ a) (g := μ d) (ty := .int) (mm_cells_get ha) (mm_cells_get hb1) rfl rfl rfl h1 h2 h3 h4 h5 (fun _ _ => rfl) (by have := hR.1; omega) ?_ hd (fun H1 locs1 hP1 hD1 hS1 => ?_)
  · rw [mm_cat_le _ hc1]
    have h48 := hR.2
    have : nativeFrameWords "java/lang/System" "arraycopy" 5 = 7 := by decide +kernel
    rw [this]
    omega
  · rw [hset] at hP1
    exact k H1 locs1 ls hP1 hS1 hl
theorem ms_min (C0 : mm_Cx ρ Sh G scr A p R s m args c cells slots) {q : Nat} {x y : Int32} (hd : decode ρ.2.2.1 pc = .ok (.invokestatic q, 3)) (hsp : (ρ.1, q, 1000) ∈ mm_SP) (hdep : 1 ≤ ρ.2.2.2.2.2.1) (hcb : mm_cb 0 st = true)
    (k : mm_WX Sh G A ρ.2.2.2.1 p l e R s m args below meth c cells slots Q (pc + 3) loc (.int (if y < x then y else x) :: st) μ) : mm_WX Sh G A ρ.2.2.2.1 p l e R s m args below meth c cells slots Q pc loc (.int y :: .int x :: st) μ := by
  obtain ⟨hx, hb, hml, hown, hts, hN, hK, hD, hA, hR, hcs, hX⟩ := C0
  obtain ⟨-, hc1, hc8⟩ := mm_cb_inv hcb
  intro H locs ls hP hS hl
  have hlink := mm_sp_ok _ hsp
  refine va_mmin hx hb (by rw [hml, hl.1]) hown (hts _ hlink) (hts _ mm_min_w.1) (hts _ mm_min_w.2.1) (hts _ mm_min_w.2.2) (by have := hR.1; omega) ?_ hcs.1 hcs.2 hd (k H locs ls hP hS hl)
  rw [mm_cat_le _ hc1]
  have h48 := hR.2
  omega
theorem ms_max (C0 : mm_Cx ρ Sh G scr A p R s m args c cells slots) {q : Nat} {x y : Int32} (hd : decode ρ.2.2.1 pc = .ok (.invokestatic q, 3)) (hsp : (ρ.1, q, 1001) ∈ mm_SP) (hdep : 1 ≤ ρ.2.2.2.2.2.1) (hcb : mm_cb 0 st = true)
    (k : mm_WX Sh G A ρ.2.2.2.1 p l e R s m args below meth c cells slots Q (pc + 3) loc (.int (if x < y then y else x) :: st) μ) : mm_WX Sh G A ρ.2.2.2.1 p l e R s m args below meth c cells slots Q pc loc (.int y :: .int x :: st) μ := by
  obtain ⟨hx, hb, hml, hown, hts, hN, hK, hD, hA, hR, hcs, hX⟩ := C0
  obtain ⟨-, hc1, hc8⟩ := mm_cb_inv hcb
  intro H locs ls hP hS hl
  have hlink := mm_sp_ok _ hsp
  refine va_mmax hx hb (by rw [hml, hl.1]) hown (hts _ hlink) (hts _ mm_max_w.1) (hts _ mm_max_w.2.1) (hts _ mm_max_w.2.2) (by have := hR.1; omega) ?_ hcs.1 hcs.2 hd (k H locs ls hP hS hl)
  rw [mm_cat_le _ hc1]
  have h48 := hR.2
  omega
/-- the script -/
theorem ms_sld (C0 : mm_Cx ρ Sh G scr A p R s m args c cells slots) {L : Nat} {xs : Nat → Int32} {i : Int32} (hd : decode ρ.2.2.1 pc = .ok (.iaload, 1)) (hs : scr = some (L, xs)) (hi : vp_in i L) (k : mm_WX Sh G A ρ.2.2.2.1 p l e R s m args below meth c cells slots Q (pc + 1) loc (.int (xs i.toNatClampNeg) :: st) μ) : mm_WX Sh G A ρ.2.2.2.1 p l e R s m args below meth c cells slots Q pc loc (.int i :: .ref 999 :: st) μ := by
  obtain ⟨hx, hb, hml, hown, hts, hN, hK, hD, hA, hR, hcs, hX⟩ := C0
  obtain ⟨h1, h2, h3⟩ := hX L xs hs
  intro H locs ls hP hS hl
  exact va_sld hx hb h1 h2 h3 hS hi hd (k H locs ls hP hS hl)
theorem ms_slen (C0 : mm_Cx ρ Sh G scr A p R s m args c cells slots) {L : Nat} {xs : Nat → Int32} (hd : decode ρ.2.2.1 pc = .ok (.arraylength, 1)) (hs : scr = some (L, xs)) (k : mm_WX Sh G A ρ.2.2.2.1 p l e R s m args below meth c cells slots Q (pc + 1) loc (.int (Int32.ofNat L) :: st) μ) : mm_WX Sh G A ρ.2.2.2.1 p l e R s m args below meth c cells slots Q pc loc (.ref 999 :: st) μ := by
  obtain ⟨hx, hb, hml, hown, hts, hN, hK, hD, hA, hR, hcs, hX⟩ := C0
  obtain ⟨h1, h2, h3⟩ := hX L xs hs
  intro H locs ls hP hS hl
  exact va_slen hx hb h1 h2 h3 hS hd (k H locs ls hP hS hl)
end SND
