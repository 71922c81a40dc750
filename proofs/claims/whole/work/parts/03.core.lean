/-! THE SMALL MACHINE: a memory is a number for each place of each cell; references stand in fixed places of a fixed shape; an instruction is a predicate transformer; one theorem says that it is sound for the machine. -/
abbrev mm_M : Type := Nat → Nat → Int32
abbrev mm_C : Type := (Bool × Nat) ⊕ (Nat × List (Option Nat))
abbrev mm_G : Type := (Nat → ClassId) × (Nat → Nat → Nat) × (Nat → Nat) × ClassId × ClassId
abbrev mm_L : Type := List (Option Value)
abbrev mm_E : Type := Option Instr × Nat × Nat × List Nat × Int32
def mm_wr (μ : mm_M) (c i : Nat) (x : Int32) : mm_M := fun k => if k = c then upd (μ c) i x else μ k
def mm_cp (μ : mm_M) (a b sp dp n : Nat) : mm_M := fun k => if k = b then va_cpy (μ a) (μ b) sp dp n else μ k
def mm_v (ad : Nat → Nat) (v : Value) : Value := match v with
  | .ref a => .ref (ad a)
  | v => v
def mm_fv (ad : Nat → Nat) (row : Nat → Int32) (j : Nat) (f : Option Nat) : Value := match f with
  | none => .int (row j)
  | some r => .ref (ad r)
def mm_cell (G : mm_G) (μ : mm_M) (k : Nat) (q : mm_C) : Nat × va_E := match q with
  | .inl q => (G.2.2.1 k, .inl (if q.1 then G.2.2.2.2 else G.2.2.2.1, q.2, .inl (μ k)))
  | .inr q => (G.2.2.1 k, .inr (q.1, q.2.mapIdx (mm_fv G.2.2.1 (μ k))))
def mm_cells (G : mm_G) (Sh : List mm_C) (μ : mm_M) : va_W := Sh.mapIdx (mm_cell G μ)
def mm_tys (G : mm_G) : List (ClassId × FieldType) := [(G.2.2.2.1, .int), (G.2.2.2.2, .boolean)]
def mm_c1 (v : Value) : Bool := match v with
  | .int _ => true
  | .ref _ => true
  | _ => false
/-- what a call wants of the stack: so many values, all of one word, not too many -/
def mm_cb (n : Nat) (st : List Value) : Bool := decide (n ≤ st.length) && st.all mm_c1 && decide (st.length ≤ 8)
def mm_rc (Sh : List mm_C) (ci : Nat) (av : List Value) : Prop := match av with
  | .ref c :: _ => (match Sh[c]? with
    | some (.inr q) => q.1 = ci
    | _ => False)
  | _ => False
def mm_s1 (st : List Value) (F : Int32 → List Value → Prop) : Prop := match st with
  | .int x :: s => F x s
  | _ => False
def mm_s2 (st : List Value) (F : Int32 → Int32 → List Value → Prop) : Prop := match st with
  | .int y :: .int x :: s => F x y s
  | _ => False
def mm_li (loc : mm_L) (i : Nat) (F : Int32 → Prop) : Prop := match loc[i]? with
  | some (some (.int x)) => F x
  | _ => False
def mm_lr (loc : mm_L) (i : Nat) (F : Nat → Prop) : Prop := match loc[i]? with
  | some (some (.ref a)) => F a
  | _ => False
def mm_gf (Sh : List mm_C) (μ : mm_M) (c ci k : Nat) (F : Value → Prop) : Prop := match Sh[c]? with
  | some (.inr q) => q.1 = ci ∧ (match q.2[k]? with
    | some none => F (.int (μ c k))
    | some (some r) => F (.ref r)
    | none => False)
  | _ => False
def mm_gv (μ : mm_M) (c k : Nat) (f : Option Nat) : Value := match f with
  | none => .int (μ c k)
  | some r => .ref r
def mm_pf (Sh : List mm_C) (c ci k : Nat) (F : Prop) : Prop := match Sh[c]? with
  | some (.inr q) => q.1 = ci ∧ q.2[k]? = some none ∧ F
  | _ => False
/-- a cell is an array of that kind: the index is in range, and on -/
def mm_ar (Sh : List mm_C) (c : Nat) (b : Bool) (i : Int32) (F : Prop) : Prop := match Sh[c]? with
  | some (.inl q) => q.1 = b ∧ vp_in i q.2 ∧ F
  | _ => False
def mm_al2 (Sh : List mm_C) (c : Nat) (F : Nat → Prop) : Prop := match Sh[c]? with
  | some (.inl q) => q.1 = false ∧ F q.2
  | _ => False
def mm_sw (x : Int32) (F : Nat → Prop) : Nat → List Nat → Prop
  | _, [] => True
  | j, t :: ts => (x = Int32.ofNat j → F t) ∧ mm_sw x F (j + 1) ts
def mm_cond (c : ClassFile.Cond) (x y : Int32) (A B : Prop) : Prop := match c with
  | .eq => (x = y → A) ∧ (¬ x = y → B)
  | .ne => (¬ x = y → A) ∧ (x = y → B)
  | .lt => (x < y → A) ∧ (¬ x < y → B)
  | .ge => (y ≤ x → A) ∧ (¬ y ≤ x → B)
  | .gt => (y < x → A) ∧ (¬ y < x → B)
  | .le => (x ≤ y → A) ∧ (¬ x ≤ y → B)
/-- a call, by what the callee answers -/
def mm_ca (Cs : Nat → List Value → mm_M → (Int32 → mm_M → Prop) → (mm_M → Prop) → Prop) (k : Nat) (av : List Value) (μ : mm_M) (NI : Int32 → mm_M → Prop) (NV : mm_M → Prop) : Prop := match (mm_m k).2.2.2.2.1 with
  | none => Cs k av μ (fun _ _ => False) NV
  | some _ => Cs k av μ NI (fun _ => False)
def mm_i (Sh : List mm_C) (scr : Option (Nat × (Nat → Int32))) (rb : Bool) (Cs : Nat → List Value → mm_M → (Int32 → mm_M → Prop) → (mm_M → Prop) → Prop) (K : Nat → mm_L → List Value → mm_M → Prop) (RI : Int32 → mm_M → Prop) (RV : mm_M → Prop) (i : Instr) (r1 r2 : Nat) (tg : List Nat) (im : Int32) (N : mm_L → List Value → mm_M → Prop) (loc : mm_L) (st : List Value) (μ : mm_M) : Prop := match i with
  | .iconst _ => N loc (.int im :: st) μ
  | .bipush _ => N loc (.int im :: st) μ
  | .sipush _ => N loc (.int im :: st) μ
  | .ldc _ => N loc (.int im :: st) μ
  | .iload_n n => mm_li loc n.val (fun x => N loc (.int x :: st) μ)
  | .iload n => mm_li loc n (fun x => N loc (.int x :: st) μ)
  | .aload_n n => mm_lr loc n.val (fun a => N loc (.ref a :: st) μ)
  | .istore_n n => mm_s1 st (fun x s => N (loc.set n.val (some (.int x))) s μ)
  | .istore n => mm_s1 st (fun x s => N (loc.set n (some (.int x))) s μ)
  | .iinc n _ => mm_li loc n (fun x => N (loc.set n (some (.int (x + im)))) st μ)
  | .iadd => mm_s2 st (fun x y s => N loc (.int (x + y) :: s) μ)
  | .isub => mm_s2 st (fun x y s => N loc (.int (x - y) :: s) μ)
  | .imul => mm_s2 st (fun x y s => N loc (.int (x * y) :: s) μ)
  | .iand => mm_s2 st (fun x y s => N loc (.int (x &&& y) :: s) μ)
  | .ior => mm_s2 st (fun x y s => N loc (.int (x ||| y) :: s) μ)
  | .ixor => mm_s2 st (fun x y s => N loc (.int (x ^^^ y) :: s) μ)
  | .ishl => mm_s2 st (fun x y s => N loc (.int (x <<< (y &&& 31)) :: s) μ)
  | .ishr => mm_s2 st (fun x y s => N loc (.int (x >>> (y &&& 31)) :: s) μ)
  | .idiv => mm_s2 st (fun x y s => ¬ y = 0 ∧ N loc (.int (x / y) :: s) μ)
  | .irem => mm_s2 st (fun x y s => ¬ y = 0 ∧ N loc (.int (x - x / y * y) :: s) μ)
  | .ineg => mm_s1 st (fun x s => N loc (.int (-x) :: s) μ)
  | .dup => (match st with
    | v :: s => mm_c1 v = true ∧ N loc (v :: v :: s) μ
    | _ => False)
  | .dup2 => (match st with
    | v :: w :: s => mm_c1 v = true ∧ mm_c1 w = true ∧ N loc (v :: w :: v :: w :: s) μ
    | _ => False)
  | .goto _ => K r1 loc st μ
  | .ifCond c _ => mm_s1 st (fun x s => mm_cond c x 0 (K r1 loc s μ) (N loc s μ))
  | .if_icmp c _ => mm_s2 st (fun x y s => mm_cond c x y (K r1 loc s μ) (N loc s μ))
  | .tableswitch _ _ _ _ => mm_s1 st (fun x s => (x.toInt < 0 ∨ (tg.length : Int) ≤ x.toInt → K r1 loc s μ) ∧ mm_sw x (fun t => K t loc s μ) 0 tg)
  | .getfield _ => (match st with
    | .ref c :: s => mm_gf Sh μ c r1 r2 (fun v => N loc (v :: s) μ)
    | _ => False)
  | .putfield _ => (match st with
    | .int x :: .ref c :: s => mm_pf Sh c r1 r2 (N loc s (mm_wr μ c r2 x))
    | _ => False)
  | .iaload => (match st with
    | .int i :: .ref c :: s => (match scr, decide (c = 999) with
      | some q, true => Sh.length ≤ 999 ∧ vp_in i q.1 ∧ N loc (.int (q.2 i.toNatClampNeg) :: s) μ
      | _, _ => mm_ar Sh c false i (N loc (.int (μ c i.toNatClampNeg) :: s) μ))
    | _ => False)
  | .arraylength => (match st with
    | .ref c :: s => (match scr with
      | some q => c = 999 ∧ Sh.length ≤ 999 ∧ N loc (.int (Int32.ofNat q.1) :: s) μ
      | none => False)
    | _ => False)
  | .baload => (match st with
    | .int i :: .ref c :: s => mm_ar Sh c true i (N loc (.int (μ c i.toNatClampNeg) :: s) μ)
    | _ => False)
  | .iastore => (match st with
    | .int x :: .int i :: .ref c :: s => mm_ar Sh c false i (N loc s (mm_wr μ c i.toNatClampNeg x))
    | _ => False)
  | .bastore => (match st with
    | .int x :: .int i :: .ref c :: s => mm_ar Sh c true i (x &&& 1 = x ∧ N loc s (mm_wr μ c i.toNatClampNeg x))
    | _ => False)
  | .ireturn => (match st with
    | [.int x] => (rb = true → x &&& 1 = x) ∧ RI x μ
    | _ => False)
  | .return_ => (match st with
    | [] => RV μ
    | _ => False)
  | .invokestatic _ => (match r1 with
    | 1000 => mm_s2 st (fun x y s => mm_cb 0 s = true ∧ N loc (.int (if y < x then y else x) :: s) μ)
    | 1001 => mm_s2 st (fun x y s => mm_cb 0 s = true ∧ N loc (.int (if x < y then y else x) :: s) μ)
    | 1002 => (match st with
      | .int n :: .int dp :: .ref d :: .int sp :: .ref a :: s => mm_cb 0 s = true ∧ mm_al2 Sh a (fun na => mm_al2 Sh d (fun nd => ¬ sp < 0 ∧ ¬ dp < 0 ∧ ¬ n < 0 ∧ sp.toNatClampNeg + n.toNatClampNeg ≤ na ∧ dp.toNatClampNeg + n.toNatClampNeg ≤ nd ∧ N loc s (mm_cp μ a d sp.toNatClampNeg dp.toNatClampNeg n.toNatClampNeg)))
      | _ => False)
    | k => mm_cb r2 st = true ∧ mm_ca Cs k (st.take r2).reverse μ (fun r μ' => N loc (.int r :: st.drop r2) μ') (fun μ' => N loc (st.drop r2) μ'))
  | .invokevirtual _ => mm_cb r2 st = true ∧ mm_rc Sh (mm_m r1).1 (st.take r2).reverse ∧ mm_ca Cs r1 (st.take r2).reverse μ (fun r μ' => N loc (.int r :: st.drop r2) μ') (fun μ' => N loc (st.drop r2) μ')
  | _ => False
def mm_e (Sh : List mm_C) (scr : Option (Nat × (Nat → Int32))) (rb : Bool) (Cs : Nat → List Value → mm_M → (Int32 → mm_M → Prop) → (mm_M → Prop) → Prop) (K : Nat → mm_L → List Value → mm_M → Prop) (RI : Int32 → mm_M → Prop) (RV : mm_M → Prop) (q : mm_E) (N : mm_L → List Value → mm_M → Prop) : mm_L → List Value → mm_M → Prop := match q with
  | (none, t, _) => fun loc st μ => K t loc st μ
  | (some i, r1, r2, tg, im) => fun loc st μ => mm_i Sh scr rb Cs K RI RV i r1 r2 tg im N loc st μ
/-- a stretch of code, up to the next labels -/
def mm_wpB (Sh : List mm_C) (scr : Option (Nat × (Nat → Int32))) (rb : Bool) (Cs : Nat → List Value → mm_M → (Int32 → mm_M → Prop) → (mm_M → Prop) → Prop) (K : Nat → mm_L → List Value → mm_M → Prop) (RI : Int32 → mm_M → Prop) (RV : mm_M → Prop) (cd : List mm_E) : mm_L → List Value → mm_M → Prop := cd.foldr (mm_e Sh scr rb Cs K RI RV) (fun _ _ _ => False)
/-- code from a label, over at most n labels, not beyond the cuts -/
def mm_wp (Sh : List mm_C) (scr : Option (Nat × (Nat → Int32))) (rb : Bool) (Cs : Nat → List Value → mm_M → (Int32 → mm_M → Prop) → (mm_M → Prop) → Prop) (K : Nat → mm_L → List Value → mm_M → Prop) (RI : Int32 → mm_M → Prop) (RV : mm_M → Prop) (lab : Nat → List mm_E) (cut : Nat → Bool) : Nat → Nat → mm_L → List Value → mm_M → Prop
  | 0, t => K t
  | n + 1, t => if cut t = true then K t else mm_wpB Sh scr rb Cs (mm_wp Sh scr rb Cs K RI RV lab cut n) RI RV (lab t)
/-! the code is what the machine decodes -/
def mm_len (i : Instr) (r2 : Nat) : Nat := match i with
  | .bipush _ => 2
  | .sipush _ => 3
  | .ldc _ => 2
  | .iload _ => 2
  | .istore _ => 2
  | .iinc _ _ => 3
  | .goto _ => 3
  | .ifCond _ _ => 3
  | .if_icmp _ _ => 3
  | .tableswitch _ _ _ _ => r2
  | .getfield _ => 3
  | .putfield _ => 3
  | .invokestatic _ => 3
  | .invokevirtual _ => 3
  | _ => 1
def mm_okI (ρ : mm_Row) (pc : Nat) (i : Instr) (r1 r2 : Nat) (tg : List Nat) (im : Int32) : Bool := match i with
  | .iconst n => decide (Int32.ofInt n = im)
  | .bipush n => decide ((Int8.ofInt n).toInt32 = im)
  | .sipush n => decide ((Int16.ofInt n).toInt32 = im)
  | .ldc x => decide ((ρ.1, x, im) ∈ mm_CK)
  | .istore_n n => decide (n.val < ρ.2.2.2.1)
  | .istore n => decide (n < ρ.2.2.2.1)
  | .iinc j n => decide (Int32.ofInt n = im) && decide (j < ρ.2.2.2.1)
  | .goto off => decide ((pc : Int) + off = (r1 : Int))
  | .ifCond _ off => decide ((pc : Int) + off = (r1 : Int))
  | .if_icmp _ off => decide ((pc : Int) + off = (r1 : Int))
  | .tableswitch d lo hi offs => decide ((pc : Int) + d = (r1 : Int)) && decide (lo = 0) && decide (hi + 1 = (tg.length : Int)) && decide (offs.toList.map (fun o => (pc : Int) + o) = tg.map Int.ofNat) && decide (tg.length ≤ 100)
  | .ireturn => decide (¬ ρ.2.2.2.2.1 = none)
  | .return_ => decide (ρ.2.2.2.2.1 = none)
  | .getfield x => decide ((ρ.1, x, r1, r2) ∈ mm_FT)
  | .putfield x => decide ((ρ.1, x, r1, r2) ∈ mm_FT) && decide ((mm_T r1 r2).2.2.2 = false) && decide (parseFieldDescriptor (mm_T r1 r2).2.2.1 = some .int)
  | .invokestatic x => (match r1 with
    | 1000 => decide ((ρ.1, x, 1000) ∈ mm_SP) && decide (1 ≤ ρ.2.2.2.2.2.1)
    | 1001 => decide ((ρ.1, x, 1001) ∈ mm_SP) && decide (1 ≤ ρ.2.2.2.2.2.1)
    | 1002 => decide ((ρ.1, x, 1002) ∈ mm_SP) && decide (1 ≤ ρ.2.2.2.2.2.1)
    | k => (decide ((ρ.1, x, k) ∈ mm_CT) || decide ((ρ.1, x, k) ∈ mm_NT)) && decide ((mm_m k).2.2.2.2.2.1 < ρ.2.2.2.2.2.1) && decide ((mm_m k).2.2.2.2.2.2.1 = r2) && (mm_m k).2.2.2.2.2.2.2)
  | .invokevirtual x => decide ((ρ.1, x, r1) ∈ mm_CT) && decide ((mm_m r1).2.2.2.2.2.1 < ρ.2.2.2.2.2.1) && decide ((mm_m r1).2.2.2.2.2.2.1 = r2) && !(mm_m r1).2.2.2.2.2.2.2
  | _ => true
def mm_okc (ρ : mm_Row) : Nat → List mm_E → Bool
  | _, [] => true
  | pc, (none, t, _) :: _ => decide (t = pc)
  | pc, (some i, r1, r2, tg, im) :: cd => decide (decode ρ.2.2.1 pc = .ok (i, mm_len i r2)) && mm_okI ρ pc i r1 r2 tg im && mm_okc ρ (pc + mm_len i r2) cd
/-! the machine's side -/
def mm_lh (ad : Nat → Nat) (ls : Array Slot) (nL : Nat) (loc : mm_L) : Prop := ls.size = nL ∧ lv_wf ls ∧ ∀ (i : Nat) (v : Value), loc[i]? = some (some v) → ls[i]? = some (.val (mm_v ad v)) ∧ mm_c1 v = true
def mm_rm (ρ : mm_Row) : Room := { frames := ρ.2.2.2.2.2.1, cells := 0, slots := 0, locals := 48 * ρ.2.2.2.2.2.1 }
def mm_ws (ρ : mm_Row) : List Cond := .code ρ.2.1 ρ.2.2.1 ρ.2.2.2.1 ρ.2.2.2.2.1 :: mm_GW
def mm_Pre (Sh : List mm_C) (G : mm_G) (sz : Nat) (μ : mm_M) (U : State) : Prop := U.heap.size = sz ∧ va_P (G.1, G.2.1) vwCl (mm_cells G Sh μ) U.heap ∧ va_K (G.1, G.2.1) vwCl (mm_tys G) U ∧ va_D (fun _ => True) (mm_cells G Sh μ) ∧ ∀ q ∈ mm_NT, va_Nw (mm_nl q) U
def mm_B (Sh : List mm_C) (G : mm_G) (u : mm_M) (t : State) : Prop := va_P (G.1, G.2.1) vwCl (mm_cells G Sh u) t.heap
def mm_Qc (Sh : List mm_C) (G : mm_G) (ret : Option FieldType) (RI : Int32 → mm_M → Prop) (RV : mm_M → Prop) (A : Nat → Prop) : Array Value → State → Outcome → State → Prop := if ret = none then va_Qv RV (mm_B Sh G) A else va_Qi RI (mm_B Sh G) A
/-- a method's contract: called with these arguments over this memory it returns, with an answer and a memory of that kind -/
def mm_Cs (Sh : List mm_C) (k : Nat) (av : List Value) (μ : mm_M) (RI : Int32 → mm_M → Prop) (RV : mm_M → Prop) : Prop := ∀ (l : Launch) (G : mm_G) (sz : Nat), Met l (mm_m k).2.1 (mm_ws (mm_m k)) (mm_rm (mm_m k)) (va_Pc (av.map (mm_v G.2.2.1)) (mm_Pre Sh G sz μ)) (mm_Qc Sh G (mm_m k).2.2.2.2.1 RI RV (va_A (mm_cells G Sh μ) sz)) 0 0 (va_A (mm_cells G Sh μ) sz)
def mm_WX (Sh : List mm_C) (G : mm_G) (A : Nat → Prop) (nL : Nat) (p : Program) (l : Launch) (e : Env) (R : Room) (s : State) (m : MethodId) (args : Array Value) (below : List Frame) (meth : Method) (c : Code) (cells slots : Nat) (Q : State → Prop) (pc : Nat) (loc : mm_L) (st : List Value) (μ : mm_M) : Prop :=
  ∀ (H : Heap) (locs : List Loc) (ls : Array Slot), va_P (G.1, G.2.1) vwCl (mm_cells G Sh μ) H → va_S A s.heap H locs → mm_lh G.2.2.1 ls nL loc → W p l e R s m args below meth c H locs cells slots Q (F0 m pc ls (st.map (mm_v G.2.2.1)))
def mm_Cx (ρ : mm_Row) (Sh : List mm_C) (G : mm_G) (scr : Option (Nat × (Nat → Int32))) (A : Nat → Prop) (p : Program) (R : Room) (s : State) (m : MethodId) (args : Array Value) (c : Code) (cells slots : Nat) : Prop :=
  p.tables.exec = Jvm.exec ∧ c.code = ρ.2.2.1 ∧ c.maxLocals = ρ.2.2.2.1 ∧ s.vm.findClass (mm_R ρ.1) = some m.cls ∧ (∀ w ∈ mm_GW, w.before args s = true) ∧ (∀ q ∈ mm_NT, va_Nw (mm_nl q) s) ∧ va_K (G.1, G.2.1) vwCl (mm_tys G) s ∧ (∀ μ, va_D A (mm_cells G Sh μ)) ∧ (∀ q, s.heap.size ≤ q → A q) ∧ (ρ.2.2.2.2.2.1 ≤ R.frames ∧ 48 * ρ.2.2.2.2.2.1 ≤ R.locals) ∧ (cells ≤ R.cells ∧ slots ≤ R.slots) ∧ (∀ L xs, scr = some (L, xs) → va_X (G.2.2.1 999) L xs s s.heap ∧ G.2.2.1 999 < s.heap.size ∧ ¬ A (G.2.2.1 999))
/-! pure rows of the small machine -/
theorem mm_cells_get {G : mm_G} {Sh : List mm_C} {μ : mm_M} {k : Nat} {q : mm_C} (h : Sh[k]? = some q) : (mm_cells G Sh μ)[k]? = some (mm_cell G μ k q) := by
  unfold mm_cells
  rw [List.getElem?_mapIdx, h]
  rfl
theorem mm_cells_inv {G : mm_G} {Sh : List mm_C} {μ : mm_M} {k : Nat} {z : Nat × va_E} (h : (mm_cells G Sh μ)[k]? = some z) : ∃ q, Sh[k]? = some q ∧ z = mm_cell G μ k q := by
  unfold mm_cells at h
  rw [List.getElem?_mapIdx] at h
  cases hq : Sh[k]? with
  | none => rw [hq] at h; cases h
  | some q => rw [hq] at h; exact ⟨q, rfl, (Option.some.inj h).symm⟩
theorem mm_cell_ad {G : mm_G} {μ : mm_M} {k : Nat} {q : mm_C} : (mm_cell G μ k q).1 = G.2.2.1 k := by
  cases q <;> rfl
theorem mm_cells_set {G : mm_G} {Sh : List mm_C} {μ μ' : mm_M} {k : Nat} {q : mm_C} {z : Nat × va_E} (h : Sh[k]? = some q) (hz : z = mm_cell G μ' k q) (ho : ∀ j, j ≠ k → μ' j = μ j) : (mm_cells G Sh μ).set k z = mm_cells G Sh μ' := by
  apply List.ext_getElem?
  intro j
  rw [List.getElem?_set]
  by_cases hj : k = j
  · subst hj
    have hl : k < (mm_cells G Sh μ).length := (List.getElem?_eq_some_iff.mp (mm_cells_get (G := G) (μ := μ) h)).1
    rw [if_pos rfl, if_pos hl, mm_cells_get h, hz]
  · rw [if_neg hj]
    unfold mm_cells
    rw [List.getElem?_mapIdx, List.getElem?_mapIdx]
    cases hq : Sh[j]? with
    | none => rfl
    | some q =>
      show some _ = some _
      have e := ho j (fun h => hj h.symm)
      cases q with
      | inl q => simp only [mm_cell, e]
      | inr q => simp only [mm_cell, e]
theorem mm_wr_o {μ : mm_M} {c i : Nat} {x : Int32} : ∀ j, j ≠ c → mm_wr μ c i x j = μ j := fun j h => if_neg h
theorem mm_wr_s {μ : mm_M} {c i : Nat} {x : Int32} : mm_wr μ c i x c = upd (μ c) i x := if_pos rfl
theorem mm_cp_o {μ : mm_M} {a b sp dp n : Nat} : ∀ j, j ≠ b → mm_cp μ a b sp dp n j = μ j := fun j h => if_neg h
theorem mm_cp_s {μ : mm_M} {a b sp dp n : Nat} : mm_cp μ a b sp dp n b = va_cpy (μ a) (μ b) sp dp n := if_pos rfl
theorem mm_fs_set {ad : Nat → Nat} {row : Nat → Int32} {fs : List (Option Nat)} {k : Nat} {x : Int32} (h : fs[k]? = some none) : (fs.mapIdx (mm_fv ad row)).set k (.int x) = fs.mapIdx (mm_fv ad (upd row k x)) := by
  apply List.ext_getElem?
  intro j
  rw [List.getElem?_set]
  by_cases hj : k = j
  · subst hj
    have hl : k < (fs.mapIdx (mm_fv ad row)).length := by
      rw [List.length_mapIdx]; exact (List.getElem?_eq_some_iff.mp h).1
    rw [if_pos rfl, if_pos hl, List.getElem?_mapIdx, h]
    simp [mm_fv, upd]
  · rw [if_neg hj, List.getElem?_mapIdx, List.getElem?_mapIdx]
    cases hq : fs[j]? with
    | none => rfl
    | some f =>
      show some _ = some _
      cases f with
      | none =>
        have hj2 : ¬ j = k := fun h => hj h.symm
        simp [mm_fv, upd, hj2]
      | some r => rfl
theorem mm_v_cat {ad : Nat → Nat} {v : Value} (h : mm_c1 v = true) : (mm_v ad v).category = 1 := by
  cases v <;> first | rfl | cases h
theorem mm_s1_inv {st : List Value} {F : Int32 → List Value → Prop} (h : mm_s1 st F) : ∃ x s, st = .int x :: s ∧ F x s := by
  unfold mm_s1 at h
  split at h
  · exact ⟨_, _, rfl, h⟩
  · exact h.elim
theorem mm_s2_inv {st : List Value} {F : Int32 → Int32 → List Value → Prop} (h : mm_s2 st F) : ∃ x y s, st = .int y :: .int x :: s ∧ F x y s := by
  unfold mm_s2 at h
  split at h
  · exact ⟨_, _, _, rfl, h⟩
  · exact h.elim
theorem mm_li_inv {loc : mm_L} {i : Nat} {F : Int32 → Prop} (h : mm_li loc i F) : ∃ x, loc[i]? = some (some (.int x)) ∧ F x := by
  unfold mm_li at h
  split at h
  · next x hx => exact ⟨_, hx, h⟩
  · exact h.elim
theorem mm_lr_inv {loc : mm_L} {i : Nat} {F : Nat → Prop} (h : mm_lr loc i F) : ∃ x, loc[i]? = some (some (.ref x)) ∧ F x := by
  unfold mm_lr at h
  split at h
  · next x hx => exact ⟨_, hx, h⟩
  · exact h.elim
theorem mm_ar_inv {Sh : List mm_C} {c : Nat} {b : Bool} {i : Int32} {F : Prop} (h : mm_ar Sh c b i F) : ∃ n, Sh[c]? = some (.inl (b, n)) ∧ vp_in i n ∧ F := by
  unfold mm_ar at h
  split at h
  · next q hq => obtain ⟨rfl, h1, h2⟩ := h; exact ⟨q.2, hq, h1, h2⟩
  · exact h.elim
theorem mm_al2_inv {Sh : List mm_C} {c : Nat} {F : Nat → Prop} (h : mm_al2 Sh c F) : ∃ n, Sh[c]? = some (.inl (false, n)) ∧ F n := by
  unfold mm_al2 at h
  split at h
  · next q hq =>
    obtain ⟨h1, h2⟩ := h
    refine ⟨q.2, ?_, h2⟩
    rw [hq, ← h1]
  · exact h.elim
theorem mm_pf_inv {Sh : List mm_C} {c ci k : Nat} {F : Prop} (h : mm_pf Sh c ci k F) : ∃ fs, Sh[c]? = some (.inr (ci, fs)) ∧ fs[k]? = some none ∧ F := by
  unfold mm_pf at h
  split at h
  · next q hq => obtain ⟨rfl, h1, h2⟩ := h; exact ⟨q.2, hq, h1, h2⟩
  · exact h.elim
theorem mm_gf_inv {Sh : List mm_C} {μ : mm_M} {c ci k : Nat} {F : Value → Prop} (h : mm_gf Sh μ c ci k F) : ∃ fs, Sh[c]? = some (.inr (ci, fs)) ∧ ((fs[k]? = some none ∧ F (.int (μ c k))) ∨ ∃ r, fs[k]? = some (some r) ∧ F (.ref r)) := by
  unfold mm_gf at h
  split at h
  · next q hq =>
    obtain ⟨rfl, h⟩ := h
    refine ⟨q.2, hq, ?_⟩
    split at h
    · next hk => exact Or.inl ⟨hk, h⟩
    · next r hk => exact Or.inr ⟨r, hk, h⟩
    · exact h.elim
  · exact h.elim
theorem mm_rc_inv {Sh : List mm_C} {ci : Nat} {av : List Value} (h : mm_rc Sh ci av) : ∃ c as fs, av = .ref c :: as ∧ Sh[c]? = some (.inr (ci, fs)) := by
  unfold mm_rc at h
  split at h
  · next c as =>
    split at h
    · next q hq => subst h; exact ⟨c, as, q.2, rfl, hq⟩
    · exact h.elim
  · exact h.elim
