/-! constructors: their contracts -/
def ct_NT : List (String × Nat × MethodName) := mm_NT.map (fun q => (mm_R q.1, q.2.1, (mm_m q.2.2).2.1)) ++ [(RX7, 9, yX5_init), (RX7, 18, yX4_init), (RX7, 25, yX3_init), (RX7, 39, yX0_init), (RX7, 46, yX1_init), (RX7, 53, yX6_init)]
abbrev ct_nl (q : String × Nat × MethodName) : Cond := .methodLinkNest q.1 q.2.1 q.2.2 "FishTins"
def ct_P (dC : Nat → ClassId) (dI : Nat → Nat → Nat) (cI cZ : ClassId) (ci h0 : Nat) (fs0 : List Value) (sz : Nat) (U : State) : Prop := U.heap.size = sz ∧ va_P (dC, dI) vwCl [(h0, .inr (ci, fs0))] U.heap ∧ va_K (dC, dI) vwCl [(cI, .int), (cZ, .boolean)] U ∧ va_D (fun _ => True) [(h0, .inr (ci, fs0))] ∧ ∀ q ∈ ct_NT, va_Nw (ct_nl q) U
theorem ct_blind {dC : Nat → ClassId} {dI : Nat → Nat → Nat} {cI cZ : ClassId} {ci h0 : Nat} {fs0 : List Value} {sz : Nat} {av : List Value} : FrameBlind (va_Pc av (ct_P dC dI cI cZ ci h0 fs0 sz)) := fun a U g mk q => by
  obtain ⟨q0, q1, qP, qK, qD, qN⟩ := q
  exact ⟨q0, q1, qP, va_K.moved (u := U) (U := U.calling g mk a) (Vm.Alike.refl U.vm) qK, qD, fun w hw => va_Nw.same rfl rfl (qN w hw)⟩
/-- a constructor's contract: the world behind it, of a value with a property; how many cells and places it makes -/
def ct_M (l : Launch) (dC : Nat → ClassId) (dI : Nat → Nat → Nat) (cI cZ : ClassId) (y : MethodName) (cc : ByteArray) (maxL : Nat) (rm : Room) (ci : Nat) (fs0 : List Value) {S : Type} (post : Nat → S → Prop) (wB : Nat → S → va_W) (mc ms : Nat) : Prop := ∀ h0 sz : Nat, Met l y (.code y cc maxL none :: mm_GW) rm (va_Pc [.ref h0] (ct_P dC dI cI cZ ci h0 fs0 sz)) (va_Qv (post h0) (fun u t => va_P (dC, dI) vwCl (wB h0 u) t.heap ∧ va_D (va_A [(h0, .inr (ci, fs0))] sz) (wB h0 u)) (va_A [(h0, .inr (ci, fs0))] sz)) mc ms (va_A [(h0, .inr (ci, fs0))] sz)
theorem ct_simple {l : Launch} {dC : Nat → ClassId} {dI : Nat → Nat → Nat} {cI cZ : ClassId} {ci xo : Nat} {y : MethodName} {cc : ByteArray} {its : List ct_I} {fs0 : List Value} (hy : y.cls = mm_R ci) (hyn : y.name = "<init>") (hpn : plainName y.cls = true) (d0 : decode cc 0 = .ok (.aload_n 0, 1)) (d1 : decode cc 1 = .ok (.invokespecial xo, 3)) (hw : Cond.methodLink (mm_R ci) xo objectInit ∈ mm_GW) (ok : ct_ok cc ci 4 its = true) (de : decode cc (ct_e 4 its) = .ok (.return_, 1)) (hlen : mm_N ci ≤ fs0.length) : ct_M l dC dI cI cZ y cc 1 { frames := 1, cells := its.length, slots := ct_n its, locals := 12 } ci fs0 (fun _ (qs : List Nat) => qs.length = its.length) (fun h0 qs => (h0, .inr (ci, ct_fs fs0 its qs)) :: ct_as cI cZ its qs) its.length (ct_n its) := by
  intro h0 sz
  refine Met.ofW (cc := cc) (maxL := 1) (ret := none) hpn rfl ?_
  intro p e s m args below meth c s₁ B hml hv
  obtain ⟨rfl, hsz, hP, hK, hD0, hN⟩ := hv
  have hx := B.exec
  have hb := B.bytes
  have hr := B.returns
  have hts0 := atoms_spec (ws := .code y cc 1 none :: mm_GW) B.pre
  have hts : ∀ w ∈ mm_GW, w.before ([.ref h0] : List Value).toArray s = true := fun w hw => hts0 w (List.mem_cons_of_mem _ hw)
  have hown : s.vm.findClass y.cls = some m.cls := findClass_of_methodNamed B.named
  rw [hy] at hown
  have hlocks := B.notSynchronized
  have hin : meth.name = "<init>" := by rw [← hyn]; exact (name_of_methodNamed B.named B.method).1
  subst hsz
  have hD := hD0.self (sz := s.heap.size)
  generalize hAe : va_A [(h0, .inr (ci, fs0))] s.heap.size = A at hD ⊢
  have hA : ∀ q : Nat, s.heap.size ≤ q → A q := fun q h => by rw [← hAe]; exact Or.inr h
  have hS : va_S A s.heap s.heap [] := va_S.rf
  have hl := lv_entry ([.ref h0]) (n := 1) (Nat.le_of_ble_eq_true rfl)
  rw [lg_entry_eq]
  generalize (lg_sl ([.ref h0]) ++ List.replicate (1 - (lg_sl ([.ref h0])).length) Slot.unset).toArray = ls at hl ⊢
  have hl : lv_has ls 1 [(0, .ref h0)] := hl
  have hls := lv_at hl 0 rfl
  refine lv_aload_n hx hb d0 rfl hls ?_
  refine W.objInit hx hb hown (hts _ hw) (hts _ (mm_gw 43 rfl rfl)) (hts _ (mm_gw 44 rfl rfl)) rfl (by rw [hml]; exact hl.1) rfl d1 (Nat.le_of_ble_eq_true rfl) (Nat.le_of_ble_eq_true rfl) ?_
  refine W.eq (g2 := F0 m 4 ls []) rfl ?_
  refine ct_all hx hb hts hown hin hK hA hls its 4 fs0 [] s.heap [] 0 0 ok hlen (by rw [Nat.zero_add]; exact Nat.le_refl _) (by rw [Nat.zero_add]; exact Nat.le_refl _) hP hD hS (fun qs H1 locs1 hq hP1 hD1 hS1 => ?_)
  rw [Nat.zero_add, Nat.zero_add]
  exact W.vret hx hb hr (fun t ht hW => ⟨⟨qs, rfl, hq, by rw [ht]; exact hP1, hD1⟩, hS1.F ht⟩) hS1.2.2 de
