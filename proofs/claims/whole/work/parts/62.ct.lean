/-! constructors: an object whose fields are rows -/
/-- a row: of booleans or not, how long, which field, its place in the pool, the push, the push's length -/
abbrev ct_I : Type := Bool × Nat × Nat × Nat × Instr × Nat
def ct_ty (b : Bool) : FieldType := if b then .boolean else .int
def ct_at (b : Bool) : ArrayType := if b then .boolean else .int
def ct_pv (i : Instr) (lp : Nat) (n : Nat) : Bool := match i with
  | .iconst z => decide (lp = 1) && decide (Int32.ofInt z = nI n)
  | .bipush z => decide (lp = 2) && decide ((Int8.ofInt z).toInt32 = nI n)
  | .sipush z => decide (lp = 3) && decide ((Int16.ofInt z).toInt32 = nI n)
  | _ => false
def ct_o1 (cc : ByteArray) (ci pc : Nat) (q : ct_I) : Bool := decide (decode cc pc = .ok (.aload_n 0, 1)) && decide (decode cc (pc + 1) = .ok (q.2.2.2.2.1, q.2.2.2.2.2)) && ct_pv q.2.2.2.2.1 q.2.2.2.2.2 q.2.1 && decide (decode cc (pc + 1 + q.2.2.2.2.2) = .ok (.newarray (ct_at q.1), 2)) && decide (decode cc (pc + 3 + q.2.2.2.2.2) = .ok (.putfield q.2.2.2.1, 3)) && decide ((ci, q.2.2.2.1, ci, q.2.2.1) ∈ mm_FT) && decide ((mm_T ci q.2.2.1).2.2.2 = true) && decide ((mm_T ci q.2.2.1).1 = mm_R ci) && decide (parseFieldDescriptor (mm_T ci q.2.2.1).2.2.1 = some (.array (ct_ty q.1))) && decide (q.2.1 ≤ 6000)
def ct_ok (cc : ByteArray) (ci : Nat) : Nat → List ct_I → Bool
  | _, [] => true
  | pc, q :: its => ct_o1 cc ci pc q && ct_ok cc ci (pc + 6 + q.2.2.2.2.2) its
def ct_e : Nat → List ct_I → Nat
  | pc, [] => pc
  | pc, q :: its => ct_e (pc + 6 + q.2.2.2.2.2) its
def ct_n : List ct_I → Nat
  | [] => 0
  | q :: its => q.2.1 + ct_n its
def ct_fs : List Value → List ct_I → List Nat → List Value
  | fs, it :: its, q :: qs => ct_fs (fs.set it.2.2.1 (.ref q)) its qs
  | fs, _, _ => fs
def ct_as (cI cZ : ClassId) : List ct_I → List Nat → va_W
  | it :: its, q :: qs => (q, .inl (if it.1 then cZ else cI, it.2.1, .inl (fun _ => 0))) :: ct_as cI cZ its qs
  | _, _ => []
theorem ct_arr_w {b : Bool} : Cond.arrayClass (newarray.typeOf (ct_at b)) ∈ mm_GW := by
  cases b
  · exact mm_gw 78 rfl rfl
  · exact mm_gw 79 rfl rfl
section CT
variable {p : Program} {l : Launch} {e : Env} {R : Room} {s : State} {m : MethodId} {args : Array Value} {below : List Frame} {meth : Method} {c : Code} {cells slots : Nat} {Q : State → Prop} {A : Nat → Prop} {dC : Nat → ClassId} {dI : Nat → Nat → Nat} {cI cZ : ClassId} {h0 ci : Nat} {cc : ByteArray} {ls : Array Slot}
/-- a new row: the push, then newarray -/
theorem ct_row {ws : va_W} {b : Bool} {n lp pc : Nat} {i : Instr} {H : Heap} {locs : List Loc} {rest : List Value} (hx : p.tables.exec = Jvm.exec) (hb : c.code = cc) (hts : ∀ w ∈ mm_GW, w.before args s = true) (hK : va_K (dC, dI) vwCl [(cI, .int), (cZ, .boolean)] s) (hA : ∀ q, s.heap.size ≤ q → A q) (hP : va_P (dC, dI) vwCl ws H) (hD : va_D A ws) (hS : va_S A s.heap H locs) (hd1 : decode cc pc = .ok (i, lp)) (hv : ct_pv i lp n = true) (hd2 : decode cc (pc + lp) = .ok (.newarray (ct_at b), 2)) (hn : n ≤ 6000) (hcs : cells + 1 ≤ R.cells) (hss : slots + n ≤ R.slots)
    (kk : ∀ q H1, va_P (dC, dI) vwCl (ws ++ [(q, .inl (if b then cZ else cI, n, .inl (fun _ => 0)))]) H1 → va_D A (ws ++ [(q, .inl (if b then cZ else cI, n, .inl (fun _ => 0)))]) → va_S A s.heap H1 locs → W p l e R s m args below meth c H1 locs (cells + 1) (slots + n) Q (F0 m (pc + lp + 2) ls (.ref q :: rest))) : W p l e R s m args below meth c H locs cells slots Q (F0 m pc ls rest) := by
  have key : W p l e R s m args below meth c H locs cells slots Q (F0 m (pc + lp) ls (.int (nI n) :: rest)) := by
    have hby : n * componentBytes (ct_ty b) ≤ 536870912 := by
      cases b
      · show n * 4 ≤ 536870912
        omega
      · show n * 1 ≤ 536870912
        omega
    refine va_newa (D := (dC, dI)) (atype := ct_at b) (ty := ct_ty b) (a0 := (n, .inl (fun _ => 0))) hx hb (hts _ ct_arr_w) (by cases b <;> rfl) hK hP hD hS hA (fun cA => by cases b <;> rfl) (by rw [i_lt, i_0, i_nI (by omega)]; omega) (nI_cl (by omega)) hby hcs hss hd2 (fun q cA H1 hK1 hP1 hD1 hS1 => ?_)
    have ec : cA = (if b then cZ else cI) := by
      have h1 := (hK1.2 2 _ rfl).2
      have h2 := (hK.2 0 _ rfl).2
      have h3 := (hK.2 1 _ rfl).2
      cases b
      · exact Option.some.inj (h1.symm.trans h2)
      · exact Option.some.inj (h1.symm.trans h3)
    rw [ec] at hP1 hD1
    exact kk q H1 hP1 hD1 hS1
  cases i with
  | iconst z =>
    simp only [ct_pv, Bool.and_eq_true, decide_eq_true_eq] at hv
    obtain ⟨rfl, hv⟩ := hv
    exact lv_iconst hx hb hd1 hv key
  | bipush z =>
    simp only [ct_pv, Bool.and_eq_true, decide_eq_true_eq] at hv
    obtain ⟨rfl, hv⟩ := hv
    exact lv_bipush hx hb hd1 hv key
  | sipush z =>
    simp only [ct_pv, Bool.and_eq_true, decide_eq_true_eq] at hv
    obtain ⟨rfl, hv⟩ := hv
    exact lv_sipush hx hb hd1 hv key
  | _ => simp [ct_pv] at hv
/-- a final field of the object at the head -/
theorem ct_put {as : va_W} {fs : List Value} {k x pc : Nat} {ty : FieldType} {v : Value} {H : Heap} {locs : List Loc} {rest : List Value} (hx : p.tables.exec = Jvm.exec) (hb : c.code = cc) (hts : ∀ w ∈ mm_GW, w.before args s = true) (hown : s.vm.findClass (mm_R ci) = some m.cls) (hin : meth.name = "<init>") (hK : va_K (dC, dI) vwCl [(cI, .int), (cZ, .boolean)] s) (hP : va_P (dC, dI) vwCl ((h0, .inr (ci, fs)) :: as) H) (hD : va_D A ((h0, .inr (ci, fs)) :: as)) (hS : va_S A s.heap H locs) (hf : (ci, x, ci, k) ∈ mm_FT) (hfin : (mm_T ci k).2.2.2 = true) (hdecl : (mm_T ci k).1 = mm_R ci) (hd : parseFieldDescriptor (mm_T ci k).2.2.1 = some ty) (hn : narrow ty v = v) (hfit : fits ty v = true) (hl : mm_N ci ≤ fs.length) (hdg : decode cc pc = .ok (.putfield x, 3))
    (kk : ∀ H1 locs1, va_P (dC, dI) vwCl ((h0, .inr (ci, fs.set k v)) :: as) H1 → va_D A ((h0, .inr (ci, fs.set k v)) :: as) → va_S A s.heap H1 locs1 → W p l e R s m args below meth c H1 locs1 cells slots Q (F0 m (pc + 3) ls rest)) : W p l e R s m args below meth c H locs cells slots Q (F0 m pc ls (v :: .ref h0 :: rest)) := by
  obtain ⟨hw, h9, hk⟩ := mm_ft_ok hf
  exact va_putF (D := (dC, dI)) (own := mm_R ci) (ci := ci) (C := mm_R ci) (T := mm_T ci) (N := mm_N ci) (ty := ty) hx hb hts (mm_lay h9) (mm_ty ci) (mm_tyok h9) (mm_nm h9) hown hK hP hD hS 0 rfl (mm_cl h9) k hk (hts _ hw) (fun _ h => h) hfin hin hdecl hd hn hfit (Nat.lt_of_lt_of_le hk hl) hdg (fun H1 locs1 h1 h2 h3 => kk H1 locs1 h1 h2 h3)
theorem ct_step {as : va_W} {fs : List Value} {it : ct_I} {pc : Nat} {H : Heap} {locs : List Loc} (hx : p.tables.exec = Jvm.exec) (hb : c.code = cc) (hts : ∀ w ∈ mm_GW, w.before args s = true) (hown : s.vm.findClass (mm_R ci) = some m.cls) (hin : meth.name = "<init>") (hK : va_K (dC, dI) vwCl [(cI, .int), (cZ, .boolean)] s) (hA : ∀ q, s.heap.size ≤ q → A q) (hls : ls[0]? = some (.val (.ref h0))) (hP : va_P (dC, dI) vwCl ((h0, .inr (ci, fs)) :: as) H) (hD : va_D A ((h0, .inr (ci, fs)) :: as)) (hS : va_S A s.heap H locs) (hl : mm_N ci ≤ fs.length) (ho : ct_o1 cc ci pc it = true) (hcs : cells + 1 ≤ R.cells) (hss : slots + it.2.1 ≤ R.slots)
    (kk : ∀ q H1 locs1, va_P (dC, dI) vwCl ((h0, .inr (ci, fs.set it.2.2.1 (.ref q))) :: (as ++ [(q, .inl (if it.1 then cZ else cI, it.2.1, .inl (fun _ => 0)))])) H1 → va_D A ((h0, .inr (ci, fs.set it.2.2.1 (.ref q))) :: (as ++ [(q, .inl (if it.1 then cZ else cI, it.2.1, .inl (fun _ => 0)))])) → va_S A s.heap H1 locs1 → W p l e R s m args below meth c H1 locs1 (cells + 1) (slots + it.2.1) Q (F0 m (pc + 6 + it.2.2.2.2.2) ls [])) : W p l e R s m args below meth c H locs cells slots Q (F0 m pc ls []) := by
  obtain ⟨b, n, k, x, i, lp⟩ := it
  simp only [ct_o1, Bool.and_eq_true, decide_eq_true_eq] at ho
  obtain ⟨⟨⟨⟨⟨⟨⟨⟨⟨d0, d1⟩, hv⟩, d2⟩, d3⟩, hf⟩, hfin⟩, hdecl⟩, hty⟩, hn⟩ := ho
  refine lv_aload_n hx hb d0 rfl hls ?_
  refine ct_row (b := b) (n := n) (lp := lp) (i := i) hx hb hts hK hA hP hD hS d1 hv d2 hn hcs hss (fun q H1 hP1 hD1 hS1 => ?_)
  rw [show pc + 1 + lp + 2 = pc + 3 + lp by omega]
  refine ct_put (k := k) (ty := .array (ct_ty b)) hx hb hts hown hin hK hP1 hD1 hS1 hf hfin hdecl hty (by cases b <;> rfl) (by cases b <;> rfl) hl d3 (fun H2 locs2 hP2 hD2 hS2 => ?_)
  rw [show pc + 3 + lp + 3 = pc + 6 + lp by omega]
  exact kk q H2 locs2 hP2 hD2 hS2
theorem ct_all (hx : p.tables.exec = Jvm.exec) (hb : c.code = cc) (hts : ∀ w ∈ mm_GW, w.before args s = true) (hown : s.vm.findClass (mm_R ci) = some m.cls) (hin : meth.name = "<init>") (hK : va_K (dC, dI) vwCl [(cI, .int), (cZ, .boolean)] s) (hA : ∀ q, s.heap.size ≤ q → A q) (hls : ls[0]? = some (.val (.ref h0))) : ∀ (its : List ct_I) (pc : Nat) (fs : List Value) (as : va_W) (H : Heap) (locs : List Loc) (cells slots : Nat), ct_ok cc ci pc its = true → mm_N ci ≤ fs.length → cells + its.length ≤ R.cells → slots + ct_n its ≤ R.slots → va_P (dC, dI) vwCl ((h0, .inr (ci, fs)) :: as) H → va_D A ((h0, .inr (ci, fs)) :: as) → va_S A s.heap H locs →
    (∀ qs H1 locs1, qs.length = its.length → va_P (dC, dI) vwCl ((h0, .inr (ci, ct_fs fs its qs)) :: (as ++ ct_as cI cZ its qs)) H1 → va_D A ((h0, .inr (ci, ct_fs fs its qs)) :: (as ++ ct_as cI cZ its qs)) → va_S A s.heap H1 locs1 → W p l e R s m args below meth c H1 locs1 (cells + its.length) (slots + ct_n its) Q (F0 m (ct_e pc its) ls [])) → W p l e R s m args below meth c H locs cells slots Q (F0 m pc ls []) := by
  intro its
  induction its with
  | nil =>
    intro pc fs as H locs cells slots _ _ _ _ hP hD hS kk
    exact kk [] H locs rfl (by simpa [ct_fs, ct_as] using hP) (by simpa [ct_fs, ct_as] using hD) hS
  | cons it its ih =>
    intro pc fs as H locs cells slots ho hl hc1 hc2 hP hD hS kk
    simp only [ct_ok, Bool.and_eq_true] at ho
    simp only [List.length_cons] at hc1
    simp only [ct_n] at hc2
    refine ct_step hx hb hts hown hin hK hA hls hP hD hS hl ho.1 (by omega) (by omega) (fun q H1 locs1 hP1 hD1 hS1 => ?_)
    refine ih _ _ _ _ _ _ _ ho.2 (by rw [List.length_set]; exact hl) (by omega) (by omega) hP1 hD1 hS1 (fun qs H2 locs2 hq hP2 hD2 hS2 => ?_)
    have := kk (q :: qs) H2 locs2 (by simp [hq]) (by rw [List.append_assoc] at hP2; exact hP2) (by rw [List.append_assoc] at hD2; exact hD2) hS2
    rw [show cells + (it :: its).length = cells + 1 + its.length by simp only [List.length_cons]; omega, show slots + ct_n (it :: its) = slots + it.2.1 + ct_n its by simp only [ct_n]; omega] at this
    exact this
end CT
