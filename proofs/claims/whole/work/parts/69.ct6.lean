/-! the constructor of FishTinsModel -/
def ct_pw (i : Instr) (lp : Nat) (v : Int32) : Bool := match i with
  | .iconst z => decide (lp = 1) && decide (Int32.ofInt z = v)
  | .bipush z => decide (lp = 2) && decide ((Int8.ofInt z).toInt32 = v)
  | _ => false
section CT6
variable {p : Program} {l : Launch} {e : Env} {R : Room} {s : State} {m : MethodId} {args : Array Value} {below : List Frame} {meth : Method} {c : Code} {cells slots : Nat} {Q : State → Prop} {A : Nat → Prop} {dC : Nat → ClassId} {dI : Nat → Nat → Nat} {cI cZ : ClassId} {h0 ci : Nat} {cc : ByteArray} {ls : Array Slot}
theorem ct_push {i : Instr} {lp pc : Nat} {v : Int32} {H : Heap} {locs : List Loc} {rest : List Value} (hx : p.tables.exec = Jvm.exec) (hb : c.code = cc) (hd : decode cc pc = .ok (i, lp)) (hv : ct_pw i lp v = true) (key : W p l e R s m args below meth c H locs cells slots Q (F0 m (pc + lp) ls (.int v :: rest))) : W p l e R s m args below meth c H locs cells slots Q (F0 m pc ls rest) := by
  cases i with
  | iconst z =>
    simp only [ct_pw, Bool.and_eq_true, decide_eq_true_eq] at hv
    obtain ⟨rfl, hv⟩ := hv
    exact lv_iconst hx hb hd hv key
  | bipush z =>
    simp only [ct_pw, Bool.and_eq_true, decide_eq_true_eq] at hv
    obtain ⟨rfl, hv⟩ := hv
    exact lv_bipush hx hb hd hv key
  | _ => simp [ct_pw] at hv
theorem ct_st {w : va_W} {i : Instr} {lp pc q j : Nat} {z : Int} {v : Int32} {f : Nat → Int32} {H : Heap} {locs : List Loc} {rest : List Value} (hx : p.tables.exec = Jvm.exec) (hb : c.code = cc) (hK : va_K (dC, dI) vwCl [(cI, .int), (cZ, .boolean)] s) (hP : va_P (dC, dI) vwCl (w ++ [(q, .inl (cI, 3, .inl f))]) H) (hD : va_D A (w ++ [(q, .inl (cI, 3, .inl f))])) (hS : va_S A s.heap H locs) (d0 : decode cc pc = .ok (.dup, 1)) (d1 : decode cc (pc + 1) = .ok (.iconst z, 1)) (hz : Int32.ofInt z = nI j) (hj : j < 3) (d2 : decode cc (pc + 2) = .ok (i, lp)) (hv : ct_pw i lp v = true) (d3 : decode cc (pc + 2 + lp) = .ok (.iastore, 1))
    (kk : ∀ H1 locs1, va_P (dC, dI) vwCl (w ++ [(q, .inl (cI, 3, .inl (upd f j v)))]) H1 → va_D A (w ++ [(q, .inl (cI, 3, .inl (upd f j v)))]) → va_S A s.heap H1 locs1 → W p l e R s m args below meth c H1 locs1 cells slots Q (F0 m (pc + 2 + lp + 1) ls (.ref q :: rest))) : W p l e R s m args below meth c H locs cells slots Q (F0 m pc ls (.ref q :: rest)) := by
  refine lv_dup hx hb d0 rfl ?_
  refine lv_iconst hx hb d1 hz ?_
  refine ct_push hx hb d2 hv ?_
  refine va_iast (D := (dC, dI)) hx hb hK hP hD hS w.length 0 last_get rfl (in_nI hj (by omega)) d3 (fun H1 locs1 hP1 hD1 hS1 => ?_)
  rw [last_set, nI_cl (by omega)] at hP1 hD1
  exact kk H1 locs1 hP1 hD1 hS1
end CT6
theorem ct_fs_len : ∀ (its : List ct_I) (fs : List Value) (qs : List Nat), (ct_fs fs its qs).length = fs.length
  | [], _, _ => by simp only [ct_fs]
  | _ :: _, _, [] => by simp only [ct_fs]
  | it :: its, fs, q :: qs => by
    simp only [ct_fs]
    rw [ct_fs_len its, List.length_set]
def its_8a : List ct_I := [(false, 60, 2, 9, .bipush 60, 2), (false, 60, 3, 13, .bipush 60, 2), (false, 60, 4, 16, .bipush 60, 2), (true, 60, 5, 19, .bipush 60, 2), (true, 60, 6, 23, .bipush 60, 2), (false, 4, 8, 26, .iconst 4, 1), (false, 4, 9, 29, .iconst 4, 1), (false, 2, 10, 32, .iconst 2, 1)]
def its_8b : List ct_I := [(false, 3, 14, 41, .iconst 3, 1), (false, 3, 15, 44, .iconst 3, 1), (false, 180, 16, 47, .sipush 180, 3), (false, 100, 19, 50, .bipush 100, 2), (false, 100, 20, 53, .bipush 100, 2), (false, 100, 21, 56, .bipush 100, 2), (false, 100, 22, 59, .bipush 100, 2), (true, 100, 23, 62, .bipush 100, 2), (false, 100, 24, 65, .bipush 100, 2), (false, 6000, 25, 68, .sipush 6000, 3), (false, 20, 28, 71, .bipush 20, 2), (false, 20, 29, 74, .bipush 20, 2), (false, 20, 30, 77, .bipush 20, 2), (false, 20, 31, 80, .bipush 20, 2), (false, 20, 32, 83, .bipush 20, 2), (true, 20, 33, 86, .bipush 20, 2), (false, 3, 35, 89, .iconst 3, 1), (false, 4, 36, 92, .iconst 4, 1), (false, 4, 37, 95, .iconst 4, 1)]
abbrev fs_8 : List Value := [.int 0, .int 0, .null, .null, .null, .null, .null, .int 0, .null, .null, .null, .null, .int 0, .null, .null, .null, .null, .int 0, .int 0, .null, .null, .null, .null, .null, .null, .null, .int 0, .int 0, .null, .null, .null, .null, .null, .null, .int 0, .null, .null, .null, .int 0]
theorem ik_8a : ct_ok cX8_init 8 4 its_8a = true := by decide +kernel
theorem ik_8b : ct_ok cX8_init 8 106 its_8b = true := by decide +kernel
set_option maxRecDepth 20000 in
theorem ol_8 : Cond.methodLink (mm_R 8) 1 objectInit ∈ mm_GW := mm_gw 622 rfl rfl
theorem df_8 : ∀ j, j < mm_N 8 → defaultValue (mm_ty 8 j) = vp_V fs_8 j := by
  intro j hj
  have h : j < 39 := hj
  rcases (show j = 0 ∨ j = 1 ∨ j = 2 ∨ j = 3 ∨ j = 4 ∨ j = 5 ∨ j = 6 ∨ j = 7 ∨ j = 8 ∨ j = 9 ∨ j = 10 ∨ j = 11 ∨ j = 12 ∨ j = 13 ∨ j = 14 ∨ j = 15 ∨ j = 16 ∨ j = 17 ∨ j = 18 ∨ j = 19 ∨ j = 20 ∨ j = 21 ∨ j = 22 ∨ j = 23 ∨ j = 24 ∨ j = 25 ∨ j = 26 ∨ j = 27 ∨ j = 28 ∨ j = 29 ∨ j = 30 ∨ j = 31 ∨ j = 32 ∨ j = 33 ∨ j = 34 ∨ j = 35 ∨ j = 36 ∨ j = 37 ∨ j = 38 by omega) with rfl | rfl | rfl | rfl | rfl | rfl | rfl | rfl | rfl | rfl | rfl | rfl | rfl | rfl | rfl | rfl | rfl | rfl | rfl | rfl | rfl | rfl | rfl | rfl | rfl | rfl | rfl | rfl | rfl | rfl | rfl | rfl | rfl | rfl | rfl | rfl | rfl | rfl | rfl <;> rfl
theorem len8 {l : List Nat} (h : l.length = 8) : ∃ a0 a1 a2 a3 a4 a5 a6 a7, l = [a0, a1, a2, a3, a4, a5, a6, a7] := by
  match l, h with
  | [a0, a1, a2, a3, a4, a5, a6, a7], _ => exact ⟨a0, a1, a2, a3, a4, a5, a6, a7, rfl⟩
theorem len19 {l : List Nat} (h : l.length = 19) : ∃ a0 a1 a2 a3 a4 a5 a6 a7 a8 a9 a10 a11 a12 a13 a14 a15 a16 a17 a18, l = [a0, a1, a2, a3, a4, a5, a6, a7, a8, a9, a10, a11, a12, a13, a14, a15, a16, a17, a18] := by
  match l, h with
  | [a0, a1, a2, a3, a4, a5, a6, a7, a8, a9, a10, a11, a12, a13, a14, a15, a16, a17, a18], _ => exact ⟨a0, a1, a2, a3, a4, a5, a6, a7, a8, a9, a10, a11, a12, a13, a14, a15, a16, a17, a18, rfl⟩
def wd_8 (cI cZ : ClassId) (h0 : Nat) (u : List Nat) : va_W := [(h0, .inr (8, [.int 0, .int 0, .ref (u.getD 0 0), .ref (u.getD 1 0), .ref (u.getD 2 0), .ref (u.getD 3 0), .ref (u.getD 4 0), .int 0, .ref (u.getD 5 0), .ref (u.getD 6 0), .ref (u.getD 7 0), .ref (u.getD 8 0), .int 0, .ref (u.getD 9 0), .ref (u.getD 10 0), .ref (u.getD 11 0), .ref (u.getD 12 0), .int 0, .int 0, .ref (u.getD 13 0), .ref (u.getD 14 0), .ref (u.getD 15 0), .ref (u.getD 16 0), .ref (u.getD 17 0), .ref (u.getD 18 0), .ref (u.getD 19 0), .int 0, .int 0, .ref (u.getD 20 0), .ref (u.getD 21 0), .ref (u.getD 22 0), .ref (u.getD 23 0), .ref (u.getD 24 0), .ref (u.getD 25 0), .int 0, .ref (u.getD 26 0), .ref (u.getD 27 0), .ref (u.getD 28 0), .int 0])), ((u.getD 0 0), .inl (cI, 60, .inl (fun _ => 0))), ((u.getD 1 0), .inl (cI, 60, .inl (fun _ => 0))), ((u.getD 2 0), .inl (cI, 60, .inl (fun _ => 0))), ((u.getD 3 0), .inl (cZ, 60, .inl (fun _ => 0))), ((u.getD 4 0), .inl (cZ, 60, .inl (fun _ => 0))), ((u.getD 5 0), .inl (cI, 4, .inl (fun _ => 0))), ((u.getD 6 0), .inl (cI, 4, .inl (fun _ => 0))), ((u.getD 7 0), .inl (cI, 2, .inl (fun _ => 0))), ((u.getD 8 0), .inl (cI, 3, .inl (upd (upd (upd (fun _ => 0) 0 (-100)) 1 (-100)) 2 (-100)))), ((u.getD 9 0), .inl (cI, 3, .inl (upd (upd (upd (fun _ => 0) 0 (-1)) 1 (-1)) 2 (-1)))), ((u.getD 10 0), .inl (cI, 3, .inl (fun _ => 0))), ((u.getD 11 0), .inl (cI, 3, .inl (fun _ => 0))), ((u.getD 12 0), .inl (cI, 180, .inl (fun _ => 0))), ((u.getD 13 0), .inl (cI, 100, .inl (fun _ => 0))), ((u.getD 14 0), .inl (cI, 100, .inl (fun _ => 0))), ((u.getD 15 0), .inl (cI, 100, .inl (fun _ => 0))), ((u.getD 16 0), .inl (cI, 100, .inl (fun _ => 0))), ((u.getD 17 0), .inl (cZ, 100, .inl (fun _ => 0))), ((u.getD 18 0), .inl (cI, 100, .inl (fun _ => 0))), ((u.getD 19 0), .inl (cI, 6000, .inl (fun _ => 0))), ((u.getD 20 0), .inl (cI, 20, .inl (fun _ => 0))), ((u.getD 21 0), .inl (cI, 20, .inl (fun _ => 0))), ((u.getD 22 0), .inl (cI, 20, .inl (fun _ => 0))), ((u.getD 23 0), .inl (cI, 20, .inl (fun _ => 0))), ((u.getD 24 0), .inl (cI, 20, .inl (fun _ => 0))), ((u.getD 25 0), .inl (cZ, 20, .inl (fun _ => 0))), ((u.getD 26 0), .inl (cI, 3, .inl (fun _ => 0))), ((u.getD 27 0), .inl (cI, 4, .inl (fun _ => 0))), ((u.getD 28 0), .inl (cI, 4, .inl (fun _ => 0)))]
set_option maxHeartbeats 2000000 in
set_option maxRecDepth 20000 in
theorem ct_8 {l : Launch} {dC : Nat → ClassId} {dI : Nat → Nat → Nat} {cI cZ : ClassId} : ct_M l dC dI cI cZ yX8_init cX8_init 1 { frames := 1, cells := 29, slots := 7233, locals := 12 } 8 fs_8 (fun _ (u : List Nat) => u.length = 29) (fun h0 u => wd_8 cI cZ h0 u) 29 7233 := by
  intro h0 sz
  refine Met.ofW (cc := cX8_init) (maxL := 1) (ret := none) (by decide +kernel) rfl ?_
  intro p e s m args below meth c s₁ B hml hv
  obtain ⟨rfl, hsz, hP, hK, hD0, hN⟩ := hv
  have hx := B.exec
  have hb := B.bytes
  have hr := B.returns
  have hts0 := atoms_spec (ws := .code yX8_init cX8_init 1 none :: mm_GW) B.pre
  have hts : ∀ w ∈ mm_GW, w.before ([.ref h0] : List Value).toArray s = true := fun w hw => hts0 w (List.mem_cons_of_mem _ hw)
  have hown : s.vm.findClass (mm_R 8) = some m.cls := findClass_of_methodNamed B.named
  have hlocks := B.notSynchronized
  have hin : meth.name = "<init>" := (name_of_methodNamed B.named B.method).1
  subst hsz
  have hD := hD0.self (sz := s.heap.size)
  generalize hAe : va_A [(h0, .inr (8, fs_8))] s.heap.size = A at hD ⊢
  have hA : ∀ q : Nat, s.heap.size ≤ q → A q := fun q h => by rw [← hAe]; exact Or.inr h
  have hS : va_S A s.heap s.heap [] := va_S.rf
  have hl := lv_entry ([.ref h0]) (n := 1) (Nat.le_of_ble_eq_true rfl)
  rw [lg_entry_eq]
  generalize (lg_sl ([.ref h0]) ++ List.replicate (1 - (lg_sl ([.ref h0])).length) Slot.unset).toArray = ls at hl ⊢
  have hl : lv_has ls 1 [(0, .ref h0)] := hl
  have hls := lv_at hl 0 rfl
  refine lv_aload_n hx hb (show decode cX8_init 0 = .ok (.aload_n 0, 1) by decide +kernel) rfl hls ?_
  refine W.objInit hx hb hown (hts _ ol_8) (hts _ (mm_gw 43 rfl rfl)) (hts _ (mm_gw 44 rfl rfl)) rfl (by rw [hml]; exact hl.1) rfl (show decode cX8_init 1 = .ok (.invokespecial 1, 3) by decide +kernel) (Nat.le_of_ble_eq_true rfl) (Nat.le_of_ble_eq_true rfl) ?_
  refine W.eq (g2 := F0 m 4 ls []) rfl ?_
  refine ct_all hx hb hts hown hin hK hA hls its_8a 4 fs_8 [] s.heap [] 0 0 ik_8a (Nat.le_of_ble_eq_true rfl) (Nat.le_of_ble_eq_true rfl) (Nat.le_of_ble_eq_true rfl) hP hD hS (fun qa H locs ha hP hD hS => ?_)
  obtain ⟨m0, m1, m2, m3, m4, m5, m6, m7, rfl⟩ := len8 ha
  simp only [fs_8, its_8a, its_8b, ct_fs, ct_as, List.set_cons_zero, List.set_cons_succ, List.nil_append, List.cons_append, Bool.false_eq_true, ↓reduceIte] at hP hD
  refine W.widen (k := 8) (n := 310) (Nat.le_of_ble_eq_true rfl) (Nat.le_of_ble_eq_true rfl) ?_
  refine lv_aload_n (pc := 65) hx hb (show decode cX8_init 65 = .ok (.aload_n 0, 1) by decide +kernel) rfl hls ?_
  refine ct_row (b := false) (n := 3) (lp := 1) (i := .iconst 3) (pc := 66) hx hb hts hK hA hP hD hS (show decode cX8_init 66 = .ok (.iconst 3, 1) by decide +kernel) (by decide +kernel) (show decode cX8_init 67 = .ok (.newarray .int, 2) by decide +kernel) (by decide) (Nat.le_of_ble_eq_true rfl) (Nat.le_of_ble_eq_true rfl) (fun c0 H hP hD hS => ?_)
  refine ct_st (j := 0) (v := -100) (lp := 2) (i := .bipush (-100)) (pc := 69) hx hb hK hP hD hS (show decode cX8_init 69 = .ok (.dup, 1) by decide +kernel) (show decode cX8_init 70 = .ok (.iconst 0, 1) by decide +kernel) (by decide) (by decide) (show decode cX8_init 71 = .ok (.bipush (-100), 2) by decide +kernel) (by decide +kernel) (show decode cX8_init 73 = .ok (.iastore, 1) by decide +kernel) (fun H locs hP hD hS => ?_)
  refine ct_st (j := 1) (v := -100) (lp := 2) (i := .bipush (-100)) (pc := 74) hx hb hK hP hD hS (show decode cX8_init 74 = .ok (.dup, 1) by decide +kernel) (show decode cX8_init 75 = .ok (.iconst 1, 1) by decide +kernel) (by decide) (by decide) (show decode cX8_init 76 = .ok (.bipush (-100), 2) by decide +kernel) (by decide +kernel) (show decode cX8_init 78 = .ok (.iastore, 1) by decide +kernel) (fun H locs hP hD hS => ?_)
  refine ct_st (j := 2) (v := -100) (lp := 2) (i := .bipush (-100)) (pc := 79) hx hb hK hP hD hS (show decode cX8_init 79 = .ok (.dup, 1) by decide +kernel) (show decode cX8_init 80 = .ok (.iconst 2, 1) by decide +kernel) (by decide) (by decide) (show decode cX8_init 81 = .ok (.bipush (-100), 2) by decide +kernel) (by decide +kernel) (show decode cX8_init 83 = .ok (.iastore, 1) by decide +kernel) (fun H locs hP hD hS => ?_)
  refine ct_put (ci := 8) (k := 11) (ty := .array .int) (pc := 84) hx hb hts hown hin hK hP hD hS (by decide +kernel) rfl rfl (by decide +kernel) rfl rfl (Nat.le_of_ble_eq_true rfl) (show decode cX8_init 84 = .ok (.putfield 35, 3) by decide +kernel) (fun H locs hP hD hS => ?_)
  simp only [List.set_cons_zero, List.set_cons_succ, List.nil_append, List.cons_append] at hP hD
  refine W.widen (k := 9) (n := 313) (Nat.le_of_ble_eq_true rfl) (Nat.le_of_ble_eq_true rfl) ?_
  refine lv_aload_n (pc := 87) hx hb (show decode cX8_init 87 = .ok (.aload_n 0, 1) by decide +kernel) rfl hls ?_
  refine ct_row (b := false) (n := 3) (lp := 1) (i := .iconst 3) (pc := 88) hx hb hts hK hA hP hD hS (show decode cX8_init 88 = .ok (.iconst 3, 1) by decide +kernel) (by decide +kernel) (show decode cX8_init 89 = .ok (.newarray .int, 2) by decide +kernel) (by decide) (Nat.le_of_ble_eq_true rfl) (Nat.le_of_ble_eq_true rfl) (fun c1 H hP hD hS => ?_)
  refine ct_st (j := 0) (v := -1) (lp := 1) (i := .iconst (-1)) (pc := 91) hx hb hK hP hD hS (show decode cX8_init 91 = .ok (.dup, 1) by decide +kernel) (show decode cX8_init 92 = .ok (.iconst 0, 1) by decide +kernel) (by decide) (by decide) (show decode cX8_init 93 = .ok (.iconst (-1), 1) by decide +kernel) (by decide +kernel) (show decode cX8_init 94 = .ok (.iastore, 1) by decide +kernel) (fun H locs hP hD hS => ?_)
  refine ct_st (j := 1) (v := -1) (lp := 1) (i := .iconst (-1)) (pc := 95) hx hb hK hP hD hS (show decode cX8_init 95 = .ok (.dup, 1) by decide +kernel) (show decode cX8_init 96 = .ok (.iconst 1, 1) by decide +kernel) (by decide) (by decide) (show decode cX8_init 97 = .ok (.iconst (-1), 1) by decide +kernel) (by decide +kernel) (show decode cX8_init 98 = .ok (.iastore, 1) by decide +kernel) (fun H locs hP hD hS => ?_)
  refine ct_st (j := 2) (v := -1) (lp := 1) (i := .iconst (-1)) (pc := 99) hx hb hK hP hD hS (show decode cX8_init 99 = .ok (.dup, 1) by decide +kernel) (show decode cX8_init 100 = .ok (.iconst 2, 1) by decide +kernel) (by decide) (by decide) (show decode cX8_init 101 = .ok (.iconst (-1), 1) by decide +kernel) (by decide +kernel) (show decode cX8_init 102 = .ok (.iastore, 1) by decide +kernel) (fun H locs hP hD hS => ?_)
  refine ct_put (ci := 8) (k := 13) (ty := .array .int) (pc := 103) hx hb hts hown hin hK hP hD hS (by decide +kernel) rfl rfl (by decide +kernel) rfl rfl (Nat.le_of_ble_eq_true rfl) (show decode cX8_init 103 = .ok (.putfield 38, 3) by decide +kernel) (fun H locs hP hD hS => ?_)
  simp only [List.set_cons_zero, List.set_cons_succ, List.nil_append, List.cons_append] at hP hD
  refine W.widen (k := 10) (n := 316) (Nat.le_of_ble_eq_true rfl) (Nat.le_of_ble_eq_true rfl) ?_
  refine ct_all hx hb hts hown hin hK hA hls its_8b 106 _ _ H locs 10 316 ik_8b (Nat.le_of_ble_eq_true rfl) (Nat.le_of_ble_eq_true rfl) (Nat.le_of_ble_eq_true rfl) hP hD hS (fun qb H locs hb2 hP hD hS => ?_)
  obtain ⟨n0, n1, n2, n3, n4, n5, n6, n7, n8, n9, n10, n11, n12, n13, n14, n15, n16, n17, n18, rfl⟩ := len19 hb2
  simp only [fs_8, its_8a, its_8b, ct_fs, ct_as, List.set_cons_zero, List.set_cons_succ, List.nil_append, List.cons_append, Bool.false_eq_true, ↓reduceIte] at hP hD
  have hP9 : va_P (dC, dI) vwCl [(h0, .inr (8, [.int 0, .int 0, .ref m0, .ref m1, .ref m2, .ref m3, .ref m4, .int 0, .ref m5, .ref m6, .ref m7, .ref c0, .int 0, .ref c1, .ref n0, .ref n1, .ref n2, .int 0, .int 0, .ref n3, .ref n4, .ref n5, .ref n6, .ref n7, .ref n8, .ref n9, .int 0, .int 0, .ref n10, .ref n11, .ref n12, .ref n13, .ref n14, .ref n15, .int 0, .ref n16, .ref n17, .ref n18, .int 0])), (m0, .inl (cI, 60, .inl (fun _ => 0))), (m1, .inl (cI, 60, .inl (fun _ => 0))), (m2, .inl (cI, 60, .inl (fun _ => 0))), (m3, .inl (cZ, 60, .inl (fun _ => 0))), (m4, .inl (cZ, 60, .inl (fun _ => 0))), (m5, .inl (cI, 4, .inl (fun _ => 0))), (m6, .inl (cI, 4, .inl (fun _ => 0))), (m7, .inl (cI, 2, .inl (fun _ => 0))), (c0, .inl (cI, 3, .inl (upd (upd (upd (fun _ => 0) 0 (-100)) 1 (-100)) 2 (-100)))), (c1, .inl (cI, 3, .inl (upd (upd (upd (fun _ => 0) 0 (-1)) 1 (-1)) 2 (-1)))), (n0, .inl (cI, 3, .inl (fun _ => 0))), (n1, .inl (cI, 3, .inl (fun _ => 0))), (n2, .inl (cI, 180, .inl (fun _ => 0))), (n3, .inl (cI, 100, .inl (fun _ => 0))), (n4, .inl (cI, 100, .inl (fun _ => 0))), (n5, .inl (cI, 100, .inl (fun _ => 0))), (n6, .inl (cI, 100, .inl (fun _ => 0))), (n7, .inl (cZ, 100, .inl (fun _ => 0))), (n8, .inl (cI, 100, .inl (fun _ => 0))), (n9, .inl (cI, 6000, .inl (fun _ => 0))), (n10, .inl (cI, 20, .inl (fun _ => 0))), (n11, .inl (cI, 20, .inl (fun _ => 0))), (n12, .inl (cI, 20, .inl (fun _ => 0))), (n13, .inl (cI, 20, .inl (fun _ => 0))), (n14, .inl (cI, 20, .inl (fun _ => 0))), (n15, .inl (cZ, 20, .inl (fun _ => 0))), (n16, .inl (cI, 3, .inl (fun _ => 0))), (n17, .inl (cI, 4, .inl (fun _ => 0))), (n18, .inl (cI, 4, .inl (fun _ => 0)))] H := hP
  have hD9 : va_D A [(h0, .inr (8, [.int 0, .int 0, .ref m0, .ref m1, .ref m2, .ref m3, .ref m4, .int 0, .ref m5, .ref m6, .ref m7, .ref c0, .int 0, .ref c1, .ref n0, .ref n1, .ref n2, .int 0, .int 0, .ref n3, .ref n4, .ref n5, .ref n6, .ref n7, .ref n8, .ref n9, .int 0, .int 0, .ref n10, .ref n11, .ref n12, .ref n13, .ref n14, .ref n15, .int 0, .ref n16, .ref n17, .ref n18, .int 0])), (m0, .inl (cI, 60, .inl (fun _ => 0))), (m1, .inl (cI, 60, .inl (fun _ => 0))), (m2, .inl (cI, 60, .inl (fun _ => 0))), (m3, .inl (cZ, 60, .inl (fun _ => 0))), (m4, .inl (cZ, 60, .inl (fun _ => 0))), (m5, .inl (cI, 4, .inl (fun _ => 0))), (m6, .inl (cI, 4, .inl (fun _ => 0))), (m7, .inl (cI, 2, .inl (fun _ => 0))), (c0, .inl (cI, 3, .inl (upd (upd (upd (fun _ => 0) 0 (-100)) 1 (-100)) 2 (-100)))), (c1, .inl (cI, 3, .inl (upd (upd (upd (fun _ => 0) 0 (-1)) 1 (-1)) 2 (-1)))), (n0, .inl (cI, 3, .inl (fun _ => 0))), (n1, .inl (cI, 3, .inl (fun _ => 0))), (n2, .inl (cI, 180, .inl (fun _ => 0))), (n3, .inl (cI, 100, .inl (fun _ => 0))), (n4, .inl (cI, 100, .inl (fun _ => 0))), (n5, .inl (cI, 100, .inl (fun _ => 0))), (n6, .inl (cI, 100, .inl (fun _ => 0))), (n7, .inl (cZ, 100, .inl (fun _ => 0))), (n8, .inl (cI, 100, .inl (fun _ => 0))), (n9, .inl (cI, 6000, .inl (fun _ => 0))), (n10, .inl (cI, 20, .inl (fun _ => 0))), (n11, .inl (cI, 20, .inl (fun _ => 0))), (n12, .inl (cI, 20, .inl (fun _ => 0))), (n13, .inl (cI, 20, .inl (fun _ => 0))), (n14, .inl (cI, 20, .inl (fun _ => 0))), (n15, .inl (cZ, 20, .inl (fun _ => 0))), (n16, .inl (cI, 3, .inl (fun _ => 0))), (n17, .inl (cI, 4, .inl (fun _ => 0))), (n18, .inl (cI, 4, .inl (fun _ => 0)))] := hD
  refine W.widen (k := 29) (n := 7233) (Nat.le_of_ble_eq_true rfl) (Nat.le_of_ble_eq_true rfl) ?_
  exact W.vret hx hb hr (fun t ht hW => ⟨⟨[m0, m1, m2, m3, m4, m5, m6, m7, c0, c1, n0, n1, n2, n3, n4, n5, n6, n7, n8, n9, n10, n11, n12, n13, n14, n15, n16, n17, n18], rfl, rfl, by rw [ht]; exact hP9, hD9⟩, hS.F ht⟩) hS.2.2 (show decode cX8_init 255 = .ok (.return_, 1) by decide +kernel)
