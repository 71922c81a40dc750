section RULES
variable {Sh : List mm_C} {scr : Option (Nat × (Nat → Int32))} {rb : Bool} {Cs : Nat → List Value → mm_M → (Int32 → mm_M → Prop) → (mm_M → Prop) → Prop} {K : Nat → mm_L → List Value → mm_M → Prop} {RI : Int32 → mm_M → Prop} {RV : mm_M → Prop} {r1 r2 : Nat} {tg : List Nat} {im : Int32} {cd : List mm_E} {loc : mm_L} {st : List Value} {μ : mm_M}
theorem w_iconst {n : Int} : mm_wpB Sh scr rb Cs K RI RV ((some (.iconst n), r1, r2, tg, im) :: cd) loc st μ = (mm_wpB Sh scr rb Cs K RI RV cd loc (.int im :: st) μ) := propext Iff.rfl
theorem w_bipush {n : Int} : mm_wpB Sh scr rb Cs K RI RV ((some (.bipush n), r1, r2, tg, im) :: cd) loc st μ = (mm_wpB Sh scr rb Cs K RI RV cd loc (.int im :: st) μ) := propext Iff.rfl
theorem w_sipush {n : Int} : mm_wpB Sh scr rb Cs K RI RV ((some (.sipush n), r1, r2, tg, im) :: cd) loc st μ = (mm_wpB Sh scr rb Cs K RI RV cd loc (.int im :: st) μ) := propext Iff.rfl
theorem w_ldc {n : Nat} : mm_wpB Sh scr rb Cs K RI RV ((some (.ldc n), r1, r2, tg, im) :: cd) loc st μ = (mm_wpB Sh scr rb Cs K RI RV cd loc (.int im :: st) μ) := propext Iff.rfl
theorem w_iload_0 : mm_wpB Sh scr rb Cs K RI RV ((some (.iload_n 0), r1, r2, tg, im) :: cd) loc st μ = (mm_li loc 0 (fun x => mm_wpB Sh scr rb Cs K RI RV cd loc (.int x :: st) μ)) := propext Iff.rfl
theorem w_aload_0 : mm_wpB Sh scr rb Cs K RI RV ((some (.aload_n 0), r1, r2, tg, im) :: cd) loc st μ = (mm_lr loc 0 (fun a => mm_wpB Sh scr rb Cs K RI RV cd loc (.ref a :: st) μ)) := propext Iff.rfl
theorem w_istore_0 {x : Int32} : mm_wpB Sh scr rb Cs K RI RV ((some (.istore_n 0), r1, r2, tg, im) :: cd) loc (.int x :: st) μ = (mm_wpB Sh scr rb Cs K RI RV cd (loc.set 0 (some (.int x))) st μ) := propext Iff.rfl
theorem w_iload_1 : mm_wpB Sh scr rb Cs K RI RV ((some (.iload_n 1), r1, r2, tg, im) :: cd) loc st μ = (mm_li loc 1 (fun x => mm_wpB Sh scr rb Cs K RI RV cd loc (.int x :: st) μ)) := propext Iff.rfl
theorem w_aload_1 : mm_wpB Sh scr rb Cs K RI RV ((some (.aload_n 1), r1, r2, tg, im) :: cd) loc st μ = (mm_lr loc 1 (fun a => mm_wpB Sh scr rb Cs K RI RV cd loc (.ref a :: st) μ)) := propext Iff.rfl
theorem w_istore_1 {x : Int32} : mm_wpB Sh scr rb Cs K RI RV ((some (.istore_n 1), r1, r2, tg, im) :: cd) loc (.int x :: st) μ = (mm_wpB Sh scr rb Cs K RI RV cd (loc.set 1 (some (.int x))) st μ) := propext Iff.rfl
theorem w_iload_2 : mm_wpB Sh scr rb Cs K RI RV ((some (.iload_n 2), r1, r2, tg, im) :: cd) loc st μ = (mm_li loc 2 (fun x => mm_wpB Sh scr rb Cs K RI RV cd loc (.int x :: st) μ)) := propext Iff.rfl
theorem w_aload_2 : mm_wpB Sh scr rb Cs K RI RV ((some (.aload_n 2), r1, r2, tg, im) :: cd) loc st μ = (mm_lr loc 2 (fun a => mm_wpB Sh scr rb Cs K RI RV cd loc (.ref a :: st) μ)) := propext Iff.rfl
theorem w_istore_2 {x : Int32} : mm_wpB Sh scr rb Cs K RI RV ((some (.istore_n 2), r1, r2, tg, im) :: cd) loc (.int x :: st) μ = (mm_wpB Sh scr rb Cs K RI RV cd (loc.set 2 (some (.int x))) st μ) := propext Iff.rfl
theorem w_iload_3 : mm_wpB Sh scr rb Cs K RI RV ((some (.iload_n 3), r1, r2, tg, im) :: cd) loc st μ = (mm_li loc 3 (fun x => mm_wpB Sh scr rb Cs K RI RV cd loc (.int x :: st) μ)) := propext Iff.rfl
theorem w_aload_3 : mm_wpB Sh scr rb Cs K RI RV ((some (.aload_n 3), r1, r2, tg, im) :: cd) loc st μ = (mm_lr loc 3 (fun a => mm_wpB Sh scr rb Cs K RI RV cd loc (.ref a :: st) μ)) := propext Iff.rfl
theorem w_istore_3 {x : Int32} : mm_wpB Sh scr rb Cs K RI RV ((some (.istore_n 3), r1, r2, tg, im) :: cd) loc (.int x :: st) μ = (mm_wpB Sh scr rb Cs K RI RV cd (loc.set 3 (some (.int x))) st μ) := propext Iff.rfl
theorem w_iload {n : Nat} : mm_wpB Sh scr rb Cs K RI RV ((some (.iload n), r1, r2, tg, im) :: cd) loc st μ = (mm_li loc n (fun x => mm_wpB Sh scr rb Cs K RI RV cd loc (.int x :: st) μ)) := propext Iff.rfl
theorem w_istore {n : Nat} {x : Int32} : mm_wpB Sh scr rb Cs K RI RV ((some (.istore n), r1, r2, tg, im) :: cd) loc (.int x :: st) μ = (mm_wpB Sh scr rb Cs K RI RV cd (loc.set n (some (.int x))) st μ) := propext Iff.rfl
theorem w_iinc {n : Nat} {z : Int} : mm_wpB Sh scr rb Cs K RI RV ((some (.iinc n z), r1, r2, tg, im) :: cd) loc st μ = (mm_li loc n (fun x => mm_wpB Sh scr rb Cs K RI RV cd (loc.set n (some (.int (x + im)))) st μ)) := propext Iff.rfl
theorem w_iadd {x y : Int32} : mm_wpB Sh scr rb Cs K RI RV ((some (.iadd), r1, r2, tg, im) :: cd) loc (.int y :: .int x :: st) μ = (mm_wpB Sh scr rb Cs K RI RV cd loc (.int (x + y) :: st) μ) := propext Iff.rfl
theorem w_isub {x y : Int32} : mm_wpB Sh scr rb Cs K RI RV ((some (.isub), r1, r2, tg, im) :: cd) loc (.int y :: .int x :: st) μ = (mm_wpB Sh scr rb Cs K RI RV cd loc (.int (x - y) :: st) μ) := propext Iff.rfl
theorem w_imul {x y : Int32} : mm_wpB Sh scr rb Cs K RI RV ((some (.imul), r1, r2, tg, im) :: cd) loc (.int y :: .int x :: st) μ = (mm_wpB Sh scr rb Cs K RI RV cd loc (.int (x * y) :: st) μ) := propext Iff.rfl
theorem w_iand {x y : Int32} : mm_wpB Sh scr rb Cs K RI RV ((some (.iand), r1, r2, tg, im) :: cd) loc (.int y :: .int x :: st) μ = (mm_wpB Sh scr rb Cs K RI RV cd loc (.int (x &&& y) :: st) μ) := propext Iff.rfl
theorem w_ior {x y : Int32} : mm_wpB Sh scr rb Cs K RI RV ((some (.ior), r1, r2, tg, im) :: cd) loc (.int y :: .int x :: st) μ = (mm_wpB Sh scr rb Cs K RI RV cd loc (.int (x ||| y) :: st) μ) := propext Iff.rfl
theorem w_ixor {x y : Int32} : mm_wpB Sh scr rb Cs K RI RV ((some (.ixor), r1, r2, tg, im) :: cd) loc (.int y :: .int x :: st) μ = (mm_wpB Sh scr rb Cs K RI RV cd loc (.int (x ^^^ y) :: st) μ) := propext Iff.rfl
theorem w_ishl {x y : Int32} : mm_wpB Sh scr rb Cs K RI RV ((some (.ishl), r1, r2, tg, im) :: cd) loc (.int y :: .int x :: st) μ = (mm_wpB Sh scr rb Cs K RI RV cd loc (.int (x <<< (y &&& 31)) :: st) μ) := propext Iff.rfl
theorem w_ishr {x y : Int32} : mm_wpB Sh scr rb Cs K RI RV ((some (.ishr), r1, r2, tg, im) :: cd) loc (.int y :: .int x :: st) μ = (mm_wpB Sh scr rb Cs K RI RV cd loc (.int (x >>> (y &&& 31)) :: st) μ) := propext Iff.rfl
theorem w_idiv {x y : Int32} : mm_wpB Sh scr rb Cs K RI RV ((some (.idiv), r1, r2, tg, im) :: cd) loc (.int y :: .int x :: st) μ = (¬ y = 0 ∧ mm_wpB Sh scr rb Cs K RI RV cd loc (.int (x / y) :: st) μ) := propext Iff.rfl
theorem w_irem {x y : Int32} : mm_wpB Sh scr rb Cs K RI RV ((some (.irem), r1, r2, tg, im) :: cd) loc (.int y :: .int x :: st) μ = (¬ y = 0 ∧ mm_wpB Sh scr rb Cs K RI RV cd loc (.int (x - x / y * y) :: st) μ) := propext Iff.rfl
theorem w_ineg {x : Int32} : mm_wpB Sh scr rb Cs K RI RV ((some (.ineg), r1, r2, tg, im) :: cd) loc (.int x :: st) μ = (mm_wpB Sh scr rb Cs K RI RV cd loc (.int (-x) :: st) μ) := propext Iff.rfl
theorem w_dup {v : Value} : mm_wpB Sh scr rb Cs K RI RV ((some (.dup), r1, r2, tg, im) :: cd) loc (v :: st) μ = (mm_c1 v = true ∧ mm_wpB Sh scr rb Cs K RI RV cd loc (v :: v :: st) μ) := propext Iff.rfl
theorem w_dup2 {v w : Value} : mm_wpB Sh scr rb Cs K RI RV ((some (.dup2), r1, r2, tg, im) :: cd) loc (v :: w :: st) μ = (mm_c1 v = true ∧ mm_c1 w = true ∧ mm_wpB Sh scr rb Cs K RI RV cd loc (v :: w :: v :: w :: st) μ) := propext Iff.rfl
theorem w_goto {z : Int} : mm_wpB Sh scr rb Cs K RI RV ((some (.goto z), r1, r2, tg, im) :: cd) loc st μ = (K r1 loc st μ) := propext Iff.rfl
theorem w_if_eq {z : Int} {x : Int32} : mm_wpB Sh scr rb Cs K RI RV ((some (.ifCond .eq z), r1, r2, tg, im) :: cd) loc (.int x :: st) μ = ((x = 0 → K r1 loc st μ) ∧ (¬ x = 0 → mm_wpB Sh scr rb Cs K RI RV cd loc st μ)) := propext Iff.rfl
theorem w_ic_eq {z : Int} {x y : Int32} : mm_wpB Sh scr rb Cs K RI RV ((some (.if_icmp .eq z), r1, r2, tg, im) :: cd) loc (.int y :: .int x :: st) μ = ((x = y → K r1 loc st μ) ∧ (¬ x = y → mm_wpB Sh scr rb Cs K RI RV cd loc st μ)) := propext Iff.rfl
theorem w_if_ne {z : Int} {x : Int32} : mm_wpB Sh scr rb Cs K RI RV ((some (.ifCond .ne z), r1, r2, tg, im) :: cd) loc (.int x :: st) μ = ((¬ x = 0 → K r1 loc st μ) ∧ (x = 0 → mm_wpB Sh scr rb Cs K RI RV cd loc st μ)) := propext Iff.rfl
theorem w_ic_ne {z : Int} {x y : Int32} : mm_wpB Sh scr rb Cs K RI RV ((some (.if_icmp .ne z), r1, r2, tg, im) :: cd) loc (.int y :: .int x :: st) μ = ((¬ x = y → K r1 loc st μ) ∧ (x = y → mm_wpB Sh scr rb Cs K RI RV cd loc st μ)) := propext Iff.rfl
theorem w_if_lt {z : Int} {x : Int32} : mm_wpB Sh scr rb Cs K RI RV ((some (.ifCond .lt z), r1, r2, tg, im) :: cd) loc (.int x :: st) μ = ((x < 0 → K r1 loc st μ) ∧ (¬ x < 0 → mm_wpB Sh scr rb Cs K RI RV cd loc st μ)) := propext Iff.rfl
theorem w_ic_lt {z : Int} {x y : Int32} : mm_wpB Sh scr rb Cs K RI RV ((some (.if_icmp .lt z), r1, r2, tg, im) :: cd) loc (.int y :: .int x :: st) μ = ((x < y → K r1 loc st μ) ∧ (¬ x < y → mm_wpB Sh scr rb Cs K RI RV cd loc st μ)) := propext Iff.rfl
theorem w_if_ge {z : Int} {x : Int32} : mm_wpB Sh scr rb Cs K RI RV ((some (.ifCond .ge z), r1, r2, tg, im) :: cd) loc (.int x :: st) μ = ((0 ≤ x → K r1 loc st μ) ∧ (¬ 0 ≤ x → mm_wpB Sh scr rb Cs K RI RV cd loc st μ)) := propext Iff.rfl
theorem w_ic_ge {z : Int} {x y : Int32} : mm_wpB Sh scr rb Cs K RI RV ((some (.if_icmp .ge z), r1, r2, tg, im) :: cd) loc (.int y :: .int x :: st) μ = ((y ≤ x → K r1 loc st μ) ∧ (¬ y ≤ x → mm_wpB Sh scr rb Cs K RI RV cd loc st μ)) := propext Iff.rfl
theorem w_if_gt {z : Int} {x : Int32} : mm_wpB Sh scr rb Cs K RI RV ((some (.ifCond .gt z), r1, r2, tg, im) :: cd) loc (.int x :: st) μ = ((0 < x → K r1 loc st μ) ∧ (¬ 0 < x → mm_wpB Sh scr rb Cs K RI RV cd loc st μ)) := propext Iff.rfl
theorem w_ic_gt {z : Int} {x y : Int32} : mm_wpB Sh scr rb Cs K RI RV ((some (.if_icmp .gt z), r1, r2, tg, im) :: cd) loc (.int y :: .int x :: st) μ = ((y < x → K r1 loc st μ) ∧ (¬ y < x → mm_wpB Sh scr rb Cs K RI RV cd loc st μ)) := propext Iff.rfl
theorem w_if_le {z : Int} {x : Int32} : mm_wpB Sh scr rb Cs K RI RV ((some (.ifCond .le z), r1, r2, tg, im) :: cd) loc (.int x :: st) μ = ((x ≤ 0 → K r1 loc st μ) ∧ (¬ x ≤ 0 → mm_wpB Sh scr rb Cs K RI RV cd loc st μ)) := propext Iff.rfl
theorem w_ic_le {z : Int} {x y : Int32} : mm_wpB Sh scr rb Cs K RI RV ((some (.if_icmp .le z), r1, r2, tg, im) :: cd) loc (.int y :: .int x :: st) μ = ((x ≤ y → K r1 loc st μ) ∧ (¬ x ≤ y → mm_wpB Sh scr rb Cs K RI RV cd loc st μ)) := propext Iff.rfl
theorem w_table {d lo hi : Int} {offs : Array Int} {x : Int32} : mm_wpB Sh scr rb Cs K RI RV ((some (.tableswitch d lo hi offs), r1, r2, tg, im) :: cd) loc (.int x :: st) μ = ((x.toInt < 0 ∨ (tg.length : Int) ≤ x.toInt → K r1 loc st μ) ∧ mm_sw x (fun t => K t loc st μ) 0 tg) := propext Iff.rfl
theorem w_getf {n c : Nat} : mm_wpB Sh scr rb Cs K RI RV ((some (.getfield n), r1, r2, tg, im) :: cd) loc (.ref c :: st) μ = (mm_gf Sh μ c r1 r2 (fun v => mm_wpB Sh scr rb Cs K RI RV cd loc (v :: st) μ)) := propext Iff.rfl
theorem w_putf {n c : Nat} {x : Int32} : mm_wpB Sh scr rb Cs K RI RV ((some (.putfield n), r1, r2, tg, im) :: cd) loc (.int x :: .ref c :: st) μ = (mm_pf Sh c r1 r2 (mm_wpB Sh scr rb Cs K RI RV cd loc st (mm_wr μ c r2 x))) := propext Iff.rfl
theorem w_iald {i : Int32} {c : Nat} : mm_wpB Sh none rb Cs K RI RV ((some (.iaload), r1, r2, tg, im) :: cd) loc (.int i :: .ref c :: st) μ = (mm_ar Sh c false i (mm_wpB Sh none rb Cs K RI RV cd loc (.int (μ c i.toNatClampNeg) :: st) μ)) := propext Iff.rfl
theorem w_bald {i : Int32} {c : Nat} : mm_wpB Sh scr rb Cs K RI RV ((some (.baload), r1, r2, tg, im) :: cd) loc (.int i :: .ref c :: st) μ = (mm_ar Sh c true i (mm_wpB Sh scr rb Cs K RI RV cd loc (.int (μ c i.toNatClampNeg) :: st) μ)) := propext Iff.rfl
theorem w_iast {i x : Int32} {c : Nat} : mm_wpB Sh scr rb Cs K RI RV ((some (.iastore), r1, r2, tg, im) :: cd) loc (.int x :: .int i :: .ref c :: st) μ = (mm_ar Sh c false i (mm_wpB Sh scr rb Cs K RI RV cd loc st (mm_wr μ c i.toNatClampNeg x))) := propext Iff.rfl
theorem w_bast {i x : Int32} {c : Nat} : mm_wpB Sh scr rb Cs K RI RV ((some (.bastore), r1, r2, tg, im) :: cd) loc (.int x :: .int i :: .ref c :: st) μ = (mm_ar Sh c true i (x &&& 1 = x ∧ mm_wpB Sh scr rb Cs K RI RV cd loc st (mm_wr μ c i.toNatClampNeg x))) := propext Iff.rfl
theorem w_iret {x : Int32} : mm_wpB Sh scr rb Cs K RI RV ((some (.ireturn), r1, r2, tg, im) :: cd) loc [.int x] μ = ((rb = true → x &&& 1 = x) ∧ RI x μ) := propext Iff.rfl
theorem w_vret : mm_wpB Sh scr rb Cs K RI RV ((some (.return_), r1, r2, tg, im) :: cd) loc [] μ = (RV μ) := propext Iff.rfl
theorem w_min {n : Nat} {x y : Int32} : mm_wpB Sh scr rb Cs K RI RV ((some (.invokestatic n), 1000, r2, tg, im) :: cd) loc (.int y :: .int x :: st) μ = (mm_cb 0 st = true ∧ mm_wpB Sh scr rb Cs K RI RV cd loc (.int (if y < x then y else x) :: st) μ) := propext Iff.rfl
theorem w_max {n : Nat} {x y : Int32} : mm_wpB Sh scr rb Cs K RI RV ((some (.invokestatic n), 1001, r2, tg, im) :: cd) loc (.int y :: .int x :: st) μ = (mm_cb 0 st = true ∧ mm_wpB Sh scr rb Cs K RI RV cd loc (.int (if x < y then y else x) :: st) μ) := propext Iff.rfl
theorem w_cpy {q a d : Nat} {n dp sp : Int32} : mm_wpB Sh scr rb Cs K RI RV ((some (.invokestatic q), 1002, r2, tg, im) :: cd) loc (.int n :: .int dp :: .ref d :: .int sp :: .ref a :: st) μ = (mm_cb 0 st = true ∧ mm_al2 Sh a (fun na => mm_al2 Sh d (fun nd => ¬ sp < 0 ∧ ¬ dp < 0 ∧ ¬ n < 0 ∧ sp.toNatClampNeg + n.toNatClampNeg ≤ na ∧ dp.toNatClampNeg + n.toNatClampNeg ≤ nd ∧ mm_wpB Sh scr rb Cs K RI RV cd loc st (mm_cp μ a d sp.toNatClampNeg dp.toNatClampNeg n.toNatClampNeg)))) := propext Iff.rfl
theorem w_fall {t : Nat} : mm_wpB Sh scr rb Cs K RI RV ((none, t, r2, tg, im) :: cd) loc st μ = K t loc st μ := propext Iff.rfl
theorem w_c0 {q : Nat} {a1 a2 : Value} : mm_wpB Sh scr rb Cs K RI RV ((some (.invokevirtual q), 0, 2, tg, im) :: cd) loc (a2 :: a1 :: st) μ = (mm_cb 2 (a2 :: a1 :: st) = true ∧ mm_rc Sh 0 [a1, a2] ∧ Cs 0 [a1, a2] μ (fun r μ2 => mm_wpB Sh scr rb Cs K RI RV cd loc (.int r :: st) μ2) (fun _ => False)) := propext Iff.rfl
theorem w_c1 {q : Nat} {a1 a2 a3 : Value} : mm_wpB Sh scr rb Cs K RI RV ((some (.invokevirtual q), 1, 3, tg, im) :: cd) loc (a3 :: a2 :: a1 :: st) μ = (mm_cb 3 (a3 :: a2 :: a1 :: st) = true ∧ mm_rc Sh 0 [a1, a2, a3] ∧ Cs 1 [a1, a2, a3] μ (fun r μ2 => mm_wpB Sh scr rb Cs K RI RV cd loc (.int r :: st) μ2) (fun _ => False)) := propext Iff.rfl
theorem w_c2 {q : Nat} {a1 a2 a3 : Value} : mm_wpB Sh scr rb Cs K RI RV ((some (.invokevirtual q), 2, 3, tg, im) :: cd) loc (a3 :: a2 :: a1 :: st) μ = (mm_cb 3 (a3 :: a2 :: a1 :: st) = true ∧ mm_rc Sh 0 [a1, a2, a3] ∧ Cs 2 [a1, a2, a3] μ (fun r μ2 => mm_wpB Sh scr rb Cs K RI RV cd loc (.int r :: st) μ2) (fun _ => False)) := propext Iff.rfl
theorem w_c3 {q : Nat} {a1 a2 : Value} : mm_wpB Sh scr rb Cs K RI RV ((some (.invokevirtual q), 3, 2, tg, im) :: cd) loc (a2 :: a1 :: st) μ = (mm_cb 2 (a2 :: a1 :: st) = true ∧ mm_rc Sh 0 [a1, a2] ∧ Cs 3 [a1, a2] μ (fun r μ2 => mm_wpB Sh scr rb Cs K RI RV cd loc (.int r :: st) μ2) (fun _ => False)) := propext Iff.rfl
theorem w_c4 {q : Nat} {a1 a2 a3 a4 : Value} : mm_wpB Sh scr rb Cs K RI RV ((some (.invokevirtual q), 4, 4, tg, im) :: cd) loc (a4 :: a3 :: a2 :: a1 :: st) μ = (mm_cb 4 (a4 :: a3 :: a2 :: a1 :: st) = true ∧ mm_rc Sh 0 [a1, a2, a3, a4] ∧ Cs 4 [a1, a2, a3, a4] μ (fun r μ2 => mm_wpB Sh scr rb Cs K RI RV cd loc (.int r :: st) μ2) (fun _ => False)) := propext Iff.rfl
theorem w_c5 {q : Nat} {a1 a2 a3 a4 a5 a6 : Value} : mm_wpB Sh scr rb Cs K RI RV ((some (.invokevirtual q), 5, 6, tg, im) :: cd) loc (a6 :: a5 :: a4 :: a3 :: a2 :: a1 :: st) μ = (mm_cb 6 (a6 :: a5 :: a4 :: a3 :: a2 :: a1 :: st) = true ∧ mm_rc Sh 0 [a1, a2, a3, a4, a5, a6] ∧ Cs 5 [a1, a2, a3, a4, a5, a6] μ (fun r μ2 => mm_wpB Sh scr rb Cs K RI RV cd loc (.int r :: st) μ2) (fun _ => False)) := propext Iff.rfl
theorem w_c6 {q : Nat} {a1 a2 : Value} : mm_wpB Sh scr rb Cs K RI RV ((some (.invokevirtual q), 6, 2, tg, im) :: cd) loc (a2 :: a1 :: st) μ = (mm_cb 2 (a2 :: a1 :: st) = true ∧ mm_rc Sh 0 [a1, a2] ∧ Cs 6 [a1, a2] μ (fun r μ2 => mm_wpB Sh scr rb Cs K RI RV cd loc (.int r :: st) μ2) (fun _ => False)) := propext Iff.rfl
theorem w_c7 {q : Nat} {a1 a2 : Value} : mm_wpB Sh scr rb Cs K RI RV ((some (.invokevirtual q), 7, 2, tg, im) :: cd) loc (a2 :: a1 :: st) μ = (mm_cb 2 (a2 :: a1 :: st) = true ∧ mm_rc Sh 1 [a1, a2] ∧ Cs 7 [a1, a2] μ (fun r μ2 => mm_wpB Sh scr rb Cs K RI RV cd loc (.int r :: st) μ2) (fun _ => False)) := propext Iff.rfl
theorem w_c8 {q : Nat} {a1 a2 a3 a4 a5 : Value} : mm_wpB Sh scr rb Cs K RI RV ((some (.invokevirtual q), 8, 5, tg, im) :: cd) loc (a5 :: a4 :: a3 :: a2 :: a1 :: st) μ = (mm_cb 5 (a5 :: a4 :: a3 :: a2 :: a1 :: st) = true ∧ mm_rc Sh 1 [a1, a2, a3, a4, a5] ∧ Cs 8 [a1, a2, a3, a4, a5] μ (fun r μ2 => mm_wpB Sh scr rb Cs K RI RV cd loc (.int r :: st) μ2) (fun _ => False)) := propext Iff.rfl
theorem w_c9 {q : Nat} {a1 a2 a3 a4 : Value} : mm_wpB Sh scr rb Cs K RI RV ((some (.invokevirtual q), 9, 4, tg, im) :: cd) loc (a4 :: a3 :: a2 :: a1 :: st) μ = (mm_cb 4 (a4 :: a3 :: a2 :: a1 :: st) = true ∧ mm_rc Sh 1 [a1, a2, a3, a4] ∧ Cs 9 [a1, a2, a3, a4] μ (fun _ _ => False) (fun μ2 => mm_wpB Sh scr rb Cs K RI RV cd loc st μ2)) := propext Iff.rfl
theorem w_c10 {q : Nat} {a1 a2 a3 : Value} : mm_wpB Sh scr rb Cs K RI RV ((some (.invokevirtual q), 10, 3, tg, im) :: cd) loc (a3 :: a2 :: a1 :: st) μ = (mm_cb 3 (a3 :: a2 :: a1 :: st) = true ∧ mm_rc Sh 1 [a1, a2, a3] ∧ Cs 10 [a1, a2, a3] μ (fun r μ2 => mm_wpB Sh scr rb Cs K RI RV cd loc (.int r :: st) μ2) (fun _ => False)) := propext Iff.rfl
theorem w_c11 {q : Nat} {a1 a2 a3 : Value} : mm_wpB Sh scr rb Cs K RI RV ((some (.invokevirtual q), 11, 3, tg, im) :: cd) loc (a3 :: a2 :: a1 :: st) μ = (mm_cb 3 (a3 :: a2 :: a1 :: st) = true ∧ mm_rc Sh 1 [a1, a2, a3] ∧ Cs 11 [a1, a2, a3] μ (fun r μ2 => mm_wpB Sh scr rb Cs K RI RV cd loc (.int r :: st) μ2) (fun _ => False)) := propext Iff.rfl
theorem w_c12 {q : Nat} {a1 a2 : Value} : mm_wpB Sh scr rb Cs K RI RV ((some (.invokevirtual q), 12, 2, tg, im) :: cd) loc (a2 :: a1 :: st) μ = (mm_cb 2 (a2 :: a1 :: st) = true ∧ mm_rc Sh 2 [a1, a2] ∧ Cs 12 [a1, a2] μ (fun r μ2 => mm_wpB Sh scr rb Cs K RI RV cd loc (.int r :: st) μ2) (fun _ => False)) := propext Iff.rfl
theorem w_c13 {q : Nat} {a1 : Value} : mm_wpB Sh scr rb Cs K RI RV ((some (.invokevirtual q), 13, 1, tg, im) :: cd) loc (a1 :: st) μ = (mm_cb 1 (a1 :: st) = true ∧ mm_rc Sh 2 [a1] ∧ Cs 13 [a1] μ (fun r μ2 => mm_wpB Sh scr rb Cs K RI RV cd loc (.int r :: st) μ2) (fun _ => False)) := propext Iff.rfl
theorem w_c14 {q : Nat} {a1 : Value} : mm_wpB Sh scr rb Cs K RI RV ((some (.invokevirtual q), 14, 1, tg, im) :: cd) loc (a1 :: st) μ = (mm_cb 1 (a1 :: st) = true ∧ mm_rc Sh 2 [a1] ∧ Cs 14 [a1] μ (fun r μ2 => mm_wpB Sh scr rb Cs K RI RV cd loc (.int r :: st) μ2) (fun _ => False)) := propext Iff.rfl
theorem w_c15 {q : Nat} {a1 a2 a3 a4 a5 a6 : Value} : mm_wpB Sh scr rb Cs K RI RV ((some (.invokevirtual q), 15, 6, tg, im) :: cd) loc (a6 :: a5 :: a4 :: a3 :: a2 :: a1 :: st) μ = (mm_cb 6 (a6 :: a5 :: a4 :: a3 :: a2 :: a1 :: st) = true ∧ mm_rc Sh 2 [a1, a2, a3, a4, a5, a6] ∧ Cs 15 [a1, a2, a3, a4, a5, a6] μ (fun _ _ => False) (fun μ2 => mm_wpB Sh scr rb Cs K RI RV cd loc st μ2)) := propext Iff.rfl
theorem w_c16 {q : Nat} {a1 a2 : Value} : mm_wpB Sh scr rb Cs K RI RV ((some (.invokevirtual q), 16, 2, tg, im) :: cd) loc (a2 :: a1 :: st) μ = (mm_cb 2 (a2 :: a1 :: st) = true ∧ mm_rc Sh 2 [a1, a2] ∧ Cs 16 [a1, a2] μ (fun _ _ => False) (fun μ2 => mm_wpB Sh scr rb Cs K RI RV cd loc st μ2)) := propext Iff.rfl
theorem w_c17 {q : Nat} {a1 a2 a3 : Value} : mm_wpB Sh scr rb Cs K RI RV ((some (.invokevirtual q), 17, 3, tg, im) :: cd) loc (a3 :: a2 :: a1 :: st) μ = (mm_cb 3 (a3 :: a2 :: a1 :: st) = true ∧ mm_rc Sh 3 [a1, a2, a3] ∧ Cs 17 [a1, a2, a3] μ (fun r μ2 => mm_wpB Sh scr rb Cs K RI RV cd loc (.int r :: st) μ2) (fun _ => False)) := propext Iff.rfl
theorem w_c18 {q : Nat} {a1 a2 : Value} : mm_wpB Sh scr rb Cs K RI RV ((some (.invokevirtual q), 18, 2, tg, im) :: cd) loc (a2 :: a1 :: st) μ = (mm_cb 2 (a2 :: a1 :: st) = true ∧ mm_rc Sh 3 [a1, a2] ∧ Cs 18 [a1, a2] μ (fun r μ2 => mm_wpB Sh scr rb Cs K RI RV cd loc (.int r :: st) μ2) (fun _ => False)) := propext Iff.rfl
theorem w_c19 {q : Nat} {a1 : Value} : mm_wpB Sh scr rb Cs K RI RV ((some (.invokestatic q), 19, 1, tg, im) :: cd) loc (a1 :: st) μ = (mm_cb 1 (a1 :: st) = true ∧ Cs 19 [a1] μ (fun r μ2 => mm_wpB Sh scr rb Cs K RI RV cd loc (.int r :: st) μ2) (fun _ => False)) := propext Iff.rfl
theorem w_c20 {q : Nat} {a1 : Value} : mm_wpB Sh scr rb Cs K RI RV ((some (.invokestatic q), 20, 1, tg, im) :: cd) loc (a1 :: st) μ = (mm_cb 1 (a1 :: st) = true ∧ Cs 20 [a1] μ (fun r μ2 => mm_wpB Sh scr rb Cs K RI RV cd loc (.int r :: st) μ2) (fun _ => False)) := propext Iff.rfl
theorem w_c21 {q : Nat} {a1 : Value} : mm_wpB Sh scr rb Cs K RI RV ((some (.invokestatic q), 21, 1, tg, im) :: cd) loc (a1 :: st) μ = (mm_cb 1 (a1 :: st) = true ∧ Cs 21 [a1] μ (fun r μ2 => mm_wpB Sh scr rb Cs K RI RV cd loc (.int r :: st) μ2) (fun _ => False)) := propext Iff.rfl
theorem w_c22 {q : Nat} {a1 : Value} : mm_wpB Sh scr rb Cs K RI RV ((some (.invokestatic q), 22, 1, tg, im) :: cd) loc (a1 :: st) μ = (mm_cb 1 (a1 :: st) = true ∧ Cs 22 [a1] μ (fun r μ2 => mm_wpB Sh scr rb Cs K RI RV cd loc (.int r :: st) μ2) (fun _ => False)) := propext Iff.rfl
theorem w_c23 {q : Nat} {a1 : Value} : mm_wpB Sh scr rb Cs K RI RV ((some (.invokestatic q), 23, 1, tg, im) :: cd) loc (a1 :: st) μ = (mm_cb 1 (a1 :: st) = true ∧ Cs 23 [a1] μ (fun r μ2 => mm_wpB Sh scr rb Cs K RI RV cd loc (.int r :: st) μ2) (fun _ => False)) := propext Iff.rfl
theorem w_c24 {q : Nat} {a1 a2 : Value} : mm_wpB Sh scr rb Cs K RI RV ((some (.invokevirtual q), 24, 2, tg, im) :: cd) loc (a2 :: a1 :: st) μ = (mm_cb 2 (a2 :: a1 :: st) = true ∧ mm_rc Sh 4 [a1, a2] ∧ Cs 24 [a1, a2] μ (fun r μ2 => mm_wpB Sh scr rb Cs K RI RV cd loc (.int r :: st) μ2) (fun _ => False)) := propext Iff.rfl
theorem w_c25 {q : Nat} {a1 a2 a3 a4 : Value} : mm_wpB Sh scr rb Cs K RI RV ((some (.invokevirtual q), 25, 4, tg, im) :: cd) loc (a4 :: a3 :: a2 :: a1 :: st) μ = (mm_cb 4 (a4 :: a3 :: a2 :: a1 :: st) = true ∧ mm_rc Sh 4 [a1, a2, a3, a4] ∧ Cs 25 [a1, a2, a3, a4] μ (fun _ _ => False) (fun μ2 => mm_wpB Sh scr rb Cs K RI RV cd loc st μ2)) := propext Iff.rfl
theorem w_c26 {q : Nat} {a1 a2 : Value} : mm_wpB Sh scr rb Cs K RI RV ((some (.invokevirtual q), 26, 2, tg, im) :: cd) loc (a2 :: a1 :: st) μ = (mm_cb 2 (a2 :: a1 :: st) = true ∧ mm_rc Sh 5 [a1, a2] ∧ Cs 26 [a1, a2] μ (fun r μ2 => mm_wpB Sh scr rb Cs K RI RV cd loc (.int r :: st) μ2) (fun _ => False)) := propext Iff.rfl
theorem w_c27 {q : Nat} {a1 a2 a3 a4 : Value} : mm_wpB Sh scr rb Cs K RI RV ((some (.invokevirtual q), 27, 4, tg, im) :: cd) loc (a4 :: a3 :: a2 :: a1 :: st) μ = (mm_cb 4 (a4 :: a3 :: a2 :: a1 :: st) = true ∧ mm_rc Sh 5 [a1, a2, a3, a4] ∧ Cs 27 [a1, a2, a3, a4] μ (fun r μ2 => mm_wpB Sh scr rb Cs K RI RV cd loc (.int r :: st) μ2) (fun _ => False)) := propext Iff.rfl
theorem w_c28 {q : Nat} {a1 a2 : Value} : mm_wpB Sh scr rb Cs K RI RV ((some (.invokevirtual q), 28, 2, tg, im) :: cd) loc (a2 :: a1 :: st) μ = (mm_cb 2 (a2 :: a1 :: st) = true ∧ mm_rc Sh 5 [a1, a2] ∧ Cs 28 [a1, a2] μ (fun r μ2 => mm_wpB Sh scr rb Cs K RI RV cd loc (.int r :: st) μ2) (fun _ => False)) := propext Iff.rfl
theorem w_c29 {q : Nat} {a1 a2 a3 : Value} : mm_wpB Sh scr rb Cs K RI RV ((some (.invokevirtual q), 29, 3, tg, im) :: cd) loc (a3 :: a2 :: a1 :: st) μ = (mm_cb 3 (a3 :: a2 :: a1 :: st) = true ∧ mm_rc Sh 5 [a1, a2, a3] ∧ Cs 29 [a1, a2, a3] μ (fun r μ2 => mm_wpB Sh scr rb Cs K RI RV cd loc (.int r :: st) μ2) (fun _ => False)) := propext Iff.rfl
theorem w_c30 {q : Nat} {a1 : Value} : mm_wpB Sh scr rb Cs K RI RV ((some (.invokevirtual q), 30, 1, tg, im) :: cd) loc (a1 :: st) μ = (mm_cb 1 (a1 :: st) = true ∧ mm_rc Sh 5 [a1] ∧ Cs 30 [a1] μ (fun r μ2 => mm_wpB Sh scr rb Cs K RI RV cd loc (.int r :: st) μ2) (fun _ => False)) := propext Iff.rfl
theorem w_c31 {q : Nat} {a1 a2 a3 : Value} : mm_wpB Sh scr rb Cs K RI RV ((some (.invokevirtual q), 31, 3, tg, im) :: cd) loc (a3 :: a2 :: a1 :: st) μ = (mm_cb 3 (a3 :: a2 :: a1 :: st) = true ∧ mm_rc Sh 5 [a1, a2, a3] ∧ Cs 31 [a1, a2, a3] μ (fun r μ2 => mm_wpB Sh scr rb Cs K RI RV cd loc (.int r :: st) μ2) (fun _ => False)) := propext Iff.rfl
theorem w_c32 {q : Nat} {a1 a2 : Value} : mm_wpB Sh scr rb Cs K RI RV ((some (.invokevirtual q), 32, 2, tg, im) :: cd) loc (a2 :: a1 :: st) μ = (mm_cb 2 (a2 :: a1 :: st) = true ∧ mm_rc Sh 5 [a1, a2] ∧ Cs 32 [a1, a2] μ (fun r μ2 => mm_wpB Sh scr rb Cs K RI RV cd loc (.int r :: st) μ2) (fun _ => False)) := propext Iff.rfl
theorem w_c33 {q : Nat} {a1 a2 a3 a4 a5 : Value} : mm_wpB Sh scr rb Cs K RI RV ((some (.invokevirtual q), 33, 5, tg, im) :: cd) loc (a5 :: a4 :: a3 :: a2 :: a1 :: st) μ = (mm_cb 5 (a5 :: a4 :: a3 :: a2 :: a1 :: st) = true ∧ mm_rc Sh 5 [a1, a2, a3, a4, a5] ∧ Cs 33 [a1, a2, a3, a4, a5] μ (fun _ _ => False) (fun μ2 => mm_wpB Sh scr rb Cs K RI RV cd loc st μ2)) := propext Iff.rfl
theorem w_c34 {q : Nat} {a1 a2 a3 : Value} : mm_wpB Sh scr rb Cs K RI RV ((some (.invokevirtual q), 34, 3, tg, im) :: cd) loc (a3 :: a2 :: a1 :: st) μ = (mm_cb 3 (a3 :: a2 :: a1 :: st) = true ∧ mm_rc Sh 5 [a1, a2, a3] ∧ Cs 34 [a1, a2, a3] μ (fun r μ2 => mm_wpB Sh scr rb Cs K RI RV cd loc (.int r :: st) μ2) (fun _ => False)) := propext Iff.rfl
theorem w_c35 {q : Nat} {a1 a2 : Value} : mm_wpB Sh scr rb Cs K RI RV ((some (.invokevirtual q), 35, 2, tg, im) :: cd) loc (a2 :: a1 :: st) μ = (mm_cb 2 (a2 :: a1 :: st) = true ∧ mm_rc Sh 5 [a1, a2] ∧ Cs 35 [a1, a2] μ (fun r μ2 => mm_wpB Sh scr rb Cs K RI RV cd loc (.int r :: st) μ2) (fun _ => False)) := propext Iff.rfl
theorem w_c36 {q : Nat} {a1 a2 a3 a4 : Value} : mm_wpB Sh scr rb Cs K RI RV ((some (.invokevirtual q), 36, 4, tg, im) :: cd) loc (a4 :: a3 :: a2 :: a1 :: st) μ = (mm_cb 4 (a4 :: a3 :: a2 :: a1 :: st) = true ∧ mm_rc Sh 6 [a1, a2, a3, a4] ∧ Cs 36 [a1, a2, a3, a4] μ (fun _ _ => False) (fun μ2 => mm_wpB Sh scr rb Cs K RI RV cd loc st μ2)) := propext Iff.rfl
theorem w_c37 {q : Nat} {a1 a2 : Value} : mm_wpB Sh scr rb Cs K RI RV ((some (.invokevirtual q), 37, 2, tg, im) :: cd) loc (a2 :: a1 :: st) μ = (mm_cb 2 (a2 :: a1 :: st) = true ∧ mm_rc Sh 6 [a1, a2] ∧ Cs 37 [a1, a2] μ (fun _ _ => False) (fun μ2 => mm_wpB Sh scr rb Cs K RI RV cd loc st μ2)) := propext Iff.rfl
theorem w_c38 {q : Nat} {a1 a2 : Value} : mm_wpB Sh scr rb Cs K RI RV ((some (.invokevirtual q), 38, 2, tg, im) :: cd) loc (a2 :: a1 :: st) μ = (mm_cb 2 (a2 :: a1 :: st) = true ∧ mm_rc Sh 6 [a1, a2] ∧ Cs 38 [a1, a2] μ (fun _ _ => False) (fun μ2 => mm_wpB Sh scr rb Cs K RI RV cd loc st μ2)) := propext Iff.rfl
theorem w_c39 {q : Nat} {a1 a2 a3 : Value} : mm_wpB Sh scr rb Cs K RI RV ((some (.invokevirtual q), 39, 3, tg, im) :: cd) loc (a3 :: a2 :: a1 :: st) μ = (mm_cb 3 (a3 :: a2 :: a1 :: st) = true ∧ mm_rc Sh 6 [a1, a2, a3] ∧ Cs 39 [a1, a2, a3] μ (fun r μ2 => mm_wpB Sh scr rb Cs K RI RV cd loc (.int r :: st) μ2) (fun _ => False)) := propext Iff.rfl
theorem w_c40 {q : Nat} {a1 a2 a3 a4 : Value} : mm_wpB Sh scr rb Cs K RI RV ((some (.invokevirtual q), 40, 4, tg, im) :: cd) loc (a4 :: a3 :: a2 :: a1 :: st) μ = (mm_cb 4 (a4 :: a3 :: a2 :: a1 :: st) = true ∧ mm_rc Sh 6 [a1, a2, a3, a4] ∧ Cs 40 [a1, a2, a3, a4] μ (fun _ _ => False) (fun μ2 => mm_wpB Sh scr rb Cs K RI RV cd loc st μ2)) := propext Iff.rfl
theorem w_c41 {q : Nat} {a1 a2 a3 a4 : Value} : mm_wpB Sh scr rb Cs K RI RV ((some (.invokevirtual q), 41, 4, tg, im) :: cd) loc (a4 :: a3 :: a2 :: a1 :: st) μ = (mm_cb 4 (a4 :: a3 :: a2 :: a1 :: st) = true ∧ mm_rc Sh 7 [a1, a2, a3, a4] ∧ Cs 41 [a1, a2, a3, a4] μ (fun r μ2 => mm_wpB Sh scr rb Cs K RI RV cd loc (.int r :: st) μ2) (fun _ => False)) := propext Iff.rfl
theorem w_c42 {q : Nat} {a1 a2 : Value} : mm_wpB Sh scr rb Cs K RI RV ((some (.invokevirtual q), 42, 2, tg, im) :: cd) loc (a2 :: a1 :: st) μ = (mm_cb 2 (a2 :: a1 :: st) = true ∧ mm_rc Sh 7 [a1, a2] ∧ Cs 42 [a1, a2] μ (fun r μ2 => mm_wpB Sh scr rb Cs K RI RV cd loc (.int r :: st) μ2) (fun _ => False)) := propext Iff.rfl
theorem w_c43 {q : Nat} {a1 a2 : Value} : mm_wpB Sh scr rb Cs K RI RV ((some (.invokevirtual q), 43, 2, tg, im) :: cd) loc (a2 :: a1 :: st) μ = (mm_cb 2 (a2 :: a1 :: st) = true ∧ mm_rc Sh 7 [a1, a2] ∧ Cs 43 [a1, a2] μ (fun r μ2 => mm_wpB Sh scr rb Cs K RI RV cd loc (.int r :: st) μ2) (fun _ => False)) := propext Iff.rfl
theorem w_c44 {q : Nat} {a1 a2 a3 a4 : Value} : mm_wpB Sh scr rb Cs K RI RV ((some (.invokevirtual q), 44, 4, tg, im) :: cd) loc (a4 :: a3 :: a2 :: a1 :: st) μ = (mm_cb 4 (a4 :: a3 :: a2 :: a1 :: st) = true ∧ mm_rc Sh 7 [a1, a2, a3, a4] ∧ Cs 44 [a1, a2, a3, a4] μ (fun r μ2 => mm_wpB Sh scr rb Cs K RI RV cd loc (.int r :: st) μ2) (fun _ => False)) := propext Iff.rfl
theorem w_c45 {q : Nat} {a1 a2 a3 : Value} : mm_wpB Sh scr rb Cs K RI RV ((some (.invokevirtual q), 45, 3, tg, im) :: cd) loc (a3 :: a2 :: a1 :: st) μ = (mm_cb 3 (a3 :: a2 :: a1 :: st) = true ∧ mm_rc Sh 7 [a1, a2, a3] ∧ Cs 45 [a1, a2, a3] μ (fun r μ2 => mm_wpB Sh scr rb Cs K RI RV cd loc (.int r :: st) μ2) (fun _ => False)) := propext Iff.rfl
theorem w_c46 {q : Nat} {a1 a2 : Value} : mm_wpB Sh scr rb Cs K RI RV ((some (.invokevirtual q), 46, 2, tg, im) :: cd) loc (a2 :: a1 :: st) μ = (mm_cb 2 (a2 :: a1 :: st) = true ∧ mm_rc Sh 7 [a1, a2] ∧ Cs 46 [a1, a2] μ (fun r μ2 => mm_wpB Sh scr rb Cs K RI RV cd loc (.int r :: st) μ2) (fun _ => False)) := propext Iff.rfl
theorem w_c47 {q : Nat} {a1 a2 a3 a4 : Value} : mm_wpB Sh scr rb Cs K RI RV ((some (.invokevirtual q), 47, 4, tg, im) :: cd) loc (a4 :: a3 :: a2 :: a1 :: st) μ = (mm_cb 4 (a4 :: a3 :: a2 :: a1 :: st) = true ∧ mm_rc Sh 7 [a1, a2, a3, a4] ∧ Cs 47 [a1, a2, a3, a4] μ (fun r μ2 => mm_wpB Sh scr rb Cs K RI RV cd loc (.int r :: st) μ2) (fun _ => False)) := propext Iff.rfl
theorem w_c48 {q : Nat} {a1 a2 : Value} : mm_wpB Sh scr rb Cs K RI RV ((some (.invokevirtual q), 48, 2, tg, im) :: cd) loc (a2 :: a1 :: st) μ = (mm_cb 2 (a2 :: a1 :: st) = true ∧ mm_rc Sh 7 [a1, a2] ∧ Cs 48 [a1, a2] μ (fun r μ2 => mm_wpB Sh scr rb Cs K RI RV cd loc (.int r :: st) μ2) (fun _ => False)) := propext Iff.rfl
theorem w_c49 {q : Nat} {a1 a2 : Value} : mm_wpB Sh scr rb Cs K RI RV ((some (.invokevirtual q), 49, 2, tg, im) :: cd) loc (a2 :: a1 :: st) μ = (mm_cb 2 (a2 :: a1 :: st) = true ∧ mm_rc Sh 7 [a1, a2] ∧ Cs 49 [a1, a2] μ (fun r μ2 => mm_wpB Sh scr rb Cs K RI RV cd loc (.int r :: st) μ2) (fun _ => False)) := propext Iff.rfl
theorem w_c50 {q : Nat} {a1 a2 : Value} : mm_wpB Sh scr rb Cs K RI RV ((some (.invokevirtual q), 50, 2, tg, im) :: cd) loc (a2 :: a1 :: st) μ = (mm_cb 2 (a2 :: a1 :: st) = true ∧ mm_rc Sh 7 [a1, a2] ∧ Cs 50 [a1, a2] μ (fun r μ2 => mm_wpB Sh scr rb Cs K RI RV cd loc (.int r :: st) μ2) (fun _ => False)) := propext Iff.rfl
theorem w_c51 {q : Nat} {a1 : Value} : mm_wpB Sh scr rb Cs K RI RV ((some (.invokevirtual q), 51, 1, tg, im) :: cd) loc (a1 :: st) μ = (mm_cb 1 (a1 :: st) = true ∧ mm_rc Sh 7 [a1] ∧ Cs 51 [a1] μ (fun r μ2 => mm_wpB Sh scr rb Cs K RI RV cd loc (.int r :: st) μ2) (fun _ => False)) := propext Iff.rfl
theorem w_c52 {q : Nat} {a1 a2 a3 a4 : Value} : mm_wpB Sh scr rb Cs K RI RV ((some (.invokevirtual q), 52, 4, tg, im) :: cd) loc (a4 :: a3 :: a2 :: a1 :: st) μ = (mm_cb 4 (a4 :: a3 :: a2 :: a1 :: st) = true ∧ mm_rc Sh 7 [a1, a2, a3, a4] ∧ Cs 52 [a1, a2, a3, a4] μ (fun r μ2 => mm_wpB Sh scr rb Cs K RI RV cd loc (.int r :: st) μ2) (fun _ => False)) := propext Iff.rfl
theorem w_c53 {q : Nat} {a1 a2 a3 a4 a5 : Value} : mm_wpB Sh scr rb Cs K RI RV ((some (.invokevirtual q), 53, 5, tg, im) :: cd) loc (a5 :: a4 :: a3 :: a2 :: a1 :: st) μ = (mm_cb 5 (a5 :: a4 :: a3 :: a2 :: a1 :: st) = true ∧ mm_rc Sh 7 [a1, a2, a3, a4, a5] ∧ Cs 53 [a1, a2, a3, a4, a5] μ (fun r μ2 => mm_wpB Sh scr rb Cs K RI RV cd loc (.int r :: st) μ2) (fun _ => False)) := propext Iff.rfl
theorem w_c54 {q : Nat} {a1 a2 : Value} : mm_wpB Sh scr rb Cs K RI RV ((some (.invokevirtual q), 54, 2, tg, im) :: cd) loc (a2 :: a1 :: st) μ = (mm_cb 2 (a2 :: a1 :: st) = true ∧ mm_rc Sh 7 [a1, a2] ∧ Cs 54 [a1, a2] μ (fun r μ2 => mm_wpB Sh scr rb Cs K RI RV cd loc (.int r :: st) μ2) (fun _ => False)) := propext Iff.rfl
theorem w_c55 {q : Nat} {a1 a2 : Value} : mm_wpB Sh scr rb Cs K RI RV ((some (.invokevirtual q), 55, 2, tg, im) :: cd) loc (a2 :: a1 :: st) μ = (mm_cb 2 (a2 :: a1 :: st) = true ∧ mm_rc Sh 7 [a1, a2] ∧ Cs 55 [a1, a2] μ (fun r μ2 => mm_wpB Sh scr rb Cs K RI RV cd loc (.int r :: st) μ2) (fun _ => False)) := propext Iff.rfl
theorem w_c56 {q : Nat} {a1 a2 a3 : Value} : mm_wpB Sh scr rb Cs K RI RV ((some (.invokevirtual q), 56, 3, tg, im) :: cd) loc (a3 :: a2 :: a1 :: st) μ = (mm_cb 3 (a3 :: a2 :: a1 :: st) = true ∧ mm_rc Sh 7 [a1, a2, a3] ∧ Cs 56 [a1, a2, a3] μ (fun r μ2 => mm_wpB Sh scr rb Cs K RI RV cd loc (.int r :: st) μ2) (fun _ => False)) := propext Iff.rfl
theorem w_c57 {q : Nat} {a1 a2 a3 : Value} : mm_wpB Sh scr rb Cs K RI RV ((some (.invokevirtual q), 57, 3, tg, im) :: cd) loc (a3 :: a2 :: a1 :: st) μ = (mm_cb 3 (a3 :: a2 :: a1 :: st) = true ∧ mm_rc Sh 7 [a1, a2, a3] ∧ Cs 57 [a1, a2, a3] μ (fun r μ2 => mm_wpB Sh scr rb Cs K RI RV cd loc (.int r :: st) μ2) (fun _ => False)) := propext Iff.rfl
theorem w_c58 {q : Nat} {a1 a2 a3 : Value} : mm_wpB Sh scr rb Cs K RI RV ((some (.invokevirtual q), 58, 3, tg, im) :: cd) loc (a3 :: a2 :: a1 :: st) μ = (mm_cb 3 (a3 :: a2 :: a1 :: st) = true ∧ mm_rc Sh 7 [a1, a2, a3] ∧ Cs 58 [a1, a2, a3] μ (fun r μ2 => mm_wpB Sh scr rb Cs K RI RV cd loc (.int r :: st) μ2) (fun _ => False)) := propext Iff.rfl
theorem w_c59 {q : Nat} {a1 a2 a3 : Value} : mm_wpB Sh scr rb Cs K RI RV ((some (.invokevirtual q), 59, 3, tg, im) :: cd) loc (a3 :: a2 :: a1 :: st) μ = (mm_cb 3 (a3 :: a2 :: a1 :: st) = true ∧ mm_rc Sh 7 [a1, a2, a3] ∧ Cs 59 [a1, a2, a3] μ (fun r μ2 => mm_wpB Sh scr rb Cs K RI RV cd loc (.int r :: st) μ2) (fun _ => False)) := propext Iff.rfl
theorem w_c60 {q : Nat} {a1 a2 a3 : Value} : mm_wpB Sh scr rb Cs K RI RV ((some (.invokevirtual q), 60, 3, tg, im) :: cd) loc (a3 :: a2 :: a1 :: st) μ = (mm_cb 3 (a3 :: a2 :: a1 :: st) = true ∧ mm_rc Sh 7 [a1, a2, a3] ∧ Cs 60 [a1, a2, a3] μ (fun r μ2 => mm_wpB Sh scr rb Cs K RI RV cd loc (.int r :: st) μ2) (fun _ => False)) := propext Iff.rfl
theorem w_c61 {q : Nat} {a1 a2 : Value} : mm_wpB Sh scr rb Cs K RI RV ((some (.invokevirtual q), 61, 2, tg, im) :: cd) loc (a2 :: a1 :: st) μ = (mm_cb 2 (a2 :: a1 :: st) = true ∧ mm_rc Sh 7 [a1, a2] ∧ Cs 61 [a1, a2] μ (fun r μ2 => mm_wpB Sh scr rb Cs K RI RV cd loc (.int r :: st) μ2) (fun _ => False)) := propext Iff.rfl
theorem w_c62 {q : Nat} {a1 a2 a3 a4 : Value} : mm_wpB Sh scr rb Cs K RI RV ((some (.invokevirtual q), 62, 4, tg, im) :: cd) loc (a4 :: a3 :: a2 :: a1 :: st) μ = (mm_cb 4 (a4 :: a3 :: a2 :: a1 :: st) = true ∧ mm_rc Sh 7 [a1, a2, a3, a4] ∧ Cs 62 [a1, a2, a3, a4] μ (fun r μ2 => mm_wpB Sh scr rb Cs K RI RV cd loc (.int r :: st) μ2) (fun _ => False)) := propext Iff.rfl
theorem w_c63 {q : Nat} {a1 : Value} : mm_wpB Sh scr rb Cs K RI RV ((some (.invokevirtual q), 63, 1, tg, im) :: cd) loc (a1 :: st) μ = (mm_cb 1 (a1 :: st) = true ∧ mm_rc Sh 7 [a1] ∧ Cs 63 [a1] μ (fun _ _ => False) (fun μ2 => mm_wpB Sh scr rb Cs K RI RV cd loc st μ2)) := propext Iff.rfl
theorem w_c64 {q : Nat} {a1 : Value} : mm_wpB Sh scr rb Cs K RI RV ((some (.invokevirtual q), 64, 1, tg, im) :: cd) loc (a1 :: st) μ = (mm_cb 1 (a1 :: st) = true ∧ mm_rc Sh 7 [a1] ∧ Cs 64 [a1] μ (fun _ _ => False) (fun μ2 => mm_wpB Sh scr rb Cs K RI RV cd loc st μ2)) := propext Iff.rfl
theorem w_c65 {q : Nat} {a1 a2 a3 : Value} : mm_wpB Sh scr rb Cs K RI RV ((some (.invokestatic q), 65, 3, tg, im) :: cd) loc (a3 :: a2 :: a1 :: st) μ = (mm_cb 3 (a3 :: a2 :: a1 :: st) = true ∧ Cs 65 [a1, a2, a3] μ (fun r μ2 => mm_wpB Sh scr rb Cs K RI RV cd loc (.int r :: st) μ2) (fun _ => False)) := propext Iff.rfl
theorem w_c66 {q : Nat} {a1 : Value} : mm_wpB Sh scr rb Cs K RI RV ((some (.invokestatic q), 66, 1, tg, im) :: cd) loc (a1 :: st) μ = (mm_cb 1 (a1 :: st) = true ∧ Cs 66 [a1] μ (fun r μ2 => mm_wpB Sh scr rb Cs K RI RV cd loc (.int r :: st) μ2) (fun _ => False)) := propext Iff.rfl
theorem w_c67 {q : Nat} {a1 a2 a3 : Value} : mm_wpB Sh scr rb Cs K RI RV ((some (.invokestatic q), 67, 3, tg, im) :: cd) loc (a3 :: a2 :: a1 :: st) μ = (mm_cb 3 (a3 :: a2 :: a1 :: st) = true ∧ Cs 67 [a1, a2, a3] μ (fun _ _ => False) (fun μ2 => mm_wpB Sh scr rb Cs K RI RV cd loc st μ2)) := propext Iff.rfl
theorem w_c68 {q : Nat} {a1 a2 a3 : Value} : mm_wpB Sh scr rb Cs K RI RV ((some (.invokestatic q), 68, 3, tg, im) :: cd) loc (a3 :: a2 :: a1 :: st) μ = (mm_cb 3 (a3 :: a2 :: a1 :: st) = true ∧ Cs 68 [a1, a2, a3] μ (fun r μ2 => mm_wpB Sh scr rb Cs K RI RV cd loc (.int r :: st) μ2) (fun _ => False)) := propext Iff.rfl
theorem w_c69 {q : Nat} {a1 a2 : Value} : mm_wpB Sh scr rb Cs K RI RV ((some (.invokevirtual q), 69, 2, tg, im) :: cd) loc (a2 :: a1 :: st) μ = (mm_cb 2 (a2 :: a1 :: st) = true ∧ mm_rc Sh 8 [a1, a2] ∧ Cs 69 [a1, a2] μ (fun r μ2 => mm_wpB Sh scr rb Cs K RI RV cd loc (.int r :: st) μ2) (fun _ => False)) := propext Iff.rfl
theorem w_c70 {q : Nat} {a1 a2 : Value} : mm_wpB Sh scr rb Cs K RI RV ((some (.invokevirtual q), 70, 2, tg, im) :: cd) loc (a2 :: a1 :: st) μ = (mm_cb 2 (a2 :: a1 :: st) = true ∧ mm_rc Sh 8 [a1, a2] ∧ Cs 70 [a1, a2] μ (fun r μ2 => mm_wpB Sh scr rb Cs K RI RV cd loc (.int r :: st) μ2) (fun _ => False)) := propext Iff.rfl
theorem w_c71 {q : Nat} {a1 a2 : Value} : mm_wpB Sh scr rb Cs K RI RV ((some (.invokevirtual q), 71, 2, tg, im) :: cd) loc (a2 :: a1 :: st) μ = (mm_cb 2 (a2 :: a1 :: st) = true ∧ mm_rc Sh 8 [a1, a2] ∧ Cs 71 [a1, a2] μ (fun r μ2 => mm_wpB Sh scr rb Cs K RI RV cd loc (.int r :: st) μ2) (fun _ => False)) := propext Iff.rfl
theorem w_c72 {q : Nat} {a1 a2 a3 a4 : Value} : mm_wpB Sh scr rb Cs K RI RV ((some (.invokevirtual q), 72, 4, tg, im) :: cd) loc (a4 :: a3 :: a2 :: a1 :: st) μ = (mm_cb 4 (a4 :: a3 :: a2 :: a1 :: st) = true ∧ mm_rc Sh 8 [a1, a2, a3, a4] ∧ Cs 72 [a1, a2, a3, a4] μ (fun r μ2 => mm_wpB Sh scr rb Cs K RI RV cd loc (.int r :: st) μ2) (fun _ => False)) := propext Iff.rfl
theorem w_c73 {q : Nat} {a1 a2 : Value} : mm_wpB Sh scr rb Cs K RI RV ((some (.invokevirtual q), 73, 2, tg, im) :: cd) loc (a2 :: a1 :: st) μ = (mm_cb 2 (a2 :: a1 :: st) = true ∧ mm_rc Sh 8 [a1, a2] ∧ Cs 73 [a1, a2] μ (fun r μ2 => mm_wpB Sh scr rb Cs K RI RV cd loc (.int r :: st) μ2) (fun _ => False)) := propext Iff.rfl
theorem w_c74 {q : Nat} {a1 a2 : Value} : mm_wpB Sh scr rb Cs K RI RV ((some (.invokevirtual q), 74, 2, tg, im) :: cd) loc (a2 :: a1 :: st) μ = (mm_cb 2 (a2 :: a1 :: st) = true ∧ mm_rc Sh 8 [a1, a2] ∧ Cs 74 [a1, a2] μ (fun r μ2 => mm_wpB Sh scr rb Cs K RI RV cd loc (.int r :: st) μ2) (fun _ => False)) := propext Iff.rfl
theorem w_c75 {q : Nat} {a1 : Value} : mm_wpB Sh scr rb Cs K RI RV ((some (.invokestatic q), 75, 1, tg, im) :: cd) loc (a1 :: st) μ = (mm_cb 1 (a1 :: st) = true ∧ Cs 75 [a1] μ (fun r μ2 => mm_wpB Sh scr rb Cs K RI RV cd loc (.int r :: st) μ2) (fun _ => False)) := propext Iff.rfl
theorem w_c76 {q : Nat} {a1 a2 a3 a4 : Value} : mm_wpB Sh scr rb Cs K RI RV ((some (.invokevirtual q), 76, 4, tg, im) :: cd) loc (a4 :: a3 :: a2 :: a1 :: st) μ = (mm_cb 4 (a4 :: a3 :: a2 :: a1 :: st) = true ∧ mm_rc Sh 8 [a1, a2, a3, a4] ∧ Cs 76 [a1, a2, a3, a4] μ (fun r μ2 => mm_wpB Sh scr rb Cs K RI RV cd loc (.int r :: st) μ2) (fun _ => False)) := propext Iff.rfl
theorem w_c77 {q : Nat} {a1 a2 : Value} : mm_wpB Sh scr rb Cs K RI RV ((some (.invokevirtual q), 77, 2, tg, im) :: cd) loc (a2 :: a1 :: st) μ = (mm_cb 2 (a2 :: a1 :: st) = true ∧ mm_rc Sh 8 [a1, a2] ∧ Cs 77 [a1, a2] μ (fun r μ2 => mm_wpB Sh scr rb Cs K RI RV cd loc (.int r :: st) μ2) (fun _ => False)) := propext Iff.rfl
theorem w_c78 {q : Nat} {a1 a2 a3 : Value} : mm_wpB Sh scr rb Cs K RI RV ((some (.invokevirtual q), 78, 3, tg, im) :: cd) loc (a3 :: a2 :: a1 :: st) μ = (mm_cb 3 (a3 :: a2 :: a1 :: st) = true ∧ mm_rc Sh 8 [a1, a2, a3] ∧ Cs 78 [a1, a2, a3] μ (fun r μ2 => mm_wpB Sh scr rb Cs K RI RV cd loc (.int r :: st) μ2) (fun _ => False)) := propext Iff.rfl
theorem w_c79 {q : Nat} {a1 a2 : Value} : mm_wpB Sh scr rb Cs K RI RV ((some (.invokevirtual q), 79, 2, tg, im) :: cd) loc (a2 :: a1 :: st) μ = (mm_cb 2 (a2 :: a1 :: st) = true ∧ mm_rc Sh 8 [a1, a2] ∧ Cs 79 [a1, a2] μ (fun r μ2 => mm_wpB Sh scr rb Cs K RI RV cd loc (.int r :: st) μ2) (fun _ => False)) := propext Iff.rfl
theorem w_c80 {q : Nat} {a1 a2 : Value} : mm_wpB Sh scr rb Cs K RI RV ((some (.invokevirtual q), 80, 2, tg, im) :: cd) loc (a2 :: a1 :: st) μ = (mm_cb 2 (a2 :: a1 :: st) = true ∧ mm_rc Sh 8 [a1, a2] ∧ Cs 80 [a1, a2] μ (fun r μ2 => mm_wpB Sh scr rb Cs K RI RV cd loc (.int r :: st) μ2) (fun _ => False)) := propext Iff.rfl
theorem w_c81 {q : Nat} {a1 a2 a3 : Value} : mm_wpB Sh scr rb Cs K RI RV ((some (.invokevirtual q), 81, 3, tg, im) :: cd) loc (a3 :: a2 :: a1 :: st) μ = (mm_cb 3 (a3 :: a2 :: a1 :: st) = true ∧ mm_rc Sh 8 [a1, a2, a3] ∧ Cs 81 [a1, a2, a3] μ (fun r μ2 => mm_wpB Sh scr rb Cs K RI RV cd loc (.int r :: st) μ2) (fun _ => False)) := propext Iff.rfl
theorem w_c82 {q : Nat} {a1 a2 : Value} : mm_wpB Sh scr rb Cs K RI RV ((some (.invokevirtual q), 82, 2, tg, im) :: cd) loc (a2 :: a1 :: st) μ = (mm_cb 2 (a2 :: a1 :: st) = true ∧ mm_rc Sh 8 [a1, a2] ∧ Cs 82 [a1, a2] μ (fun r μ2 => mm_wpB Sh scr rb Cs K RI RV cd loc (.int r :: st) μ2) (fun _ => False)) := propext Iff.rfl
theorem w_c83 {q : Nat} {a1 : Value} : mm_wpB Sh scr rb Cs K RI RV ((some (.invokevirtual q), 83, 1, tg, im) :: cd) loc (a1 :: st) μ = (mm_cb 1 (a1 :: st) = true ∧ mm_rc Sh 8 [a1] ∧ Cs 83 [a1] μ (fun r μ2 => mm_wpB Sh scr rb Cs K RI RV cd loc (.int r :: st) μ2) (fun _ => False)) := propext Iff.rfl
theorem w_c84 {q : Nat} {a1 : Value} : mm_wpB Sh scr rb Cs K RI RV ((some (.invokevirtual q), 84, 1, tg, im) :: cd) loc (a1 :: st) μ = (mm_cb 1 (a1 :: st) = true ∧ mm_rc Sh 8 [a1] ∧ Cs 84 [a1] μ (fun r μ2 => mm_wpB Sh scr rb Cs K RI RV cd loc (.int r :: st) μ2) (fun _ => False)) := propext Iff.rfl
theorem w_c85 {q : Nat} {a1 a2 : Value} : mm_wpB Sh scr rb Cs K RI RV ((some (.invokevirtual q), 85, 2, tg, im) :: cd) loc (a2 :: a1 :: st) μ = (mm_cb 2 (a2 :: a1 :: st) = true ∧ mm_rc Sh 8 [a1, a2] ∧ Cs 85 [a1, a2] μ (fun r μ2 => mm_wpB Sh scr rb Cs K RI RV cd loc (.int r :: st) μ2) (fun _ => False)) := propext Iff.rfl
theorem w_c86 {q : Nat} {a1 a2 : Value} : mm_wpB Sh scr rb Cs K RI RV ((some (.invokevirtual q), 86, 2, tg, im) :: cd) loc (a2 :: a1 :: st) μ = (mm_cb 2 (a2 :: a1 :: st) = true ∧ mm_rc Sh 8 [a1, a2] ∧ Cs 86 [a1, a2] μ (fun r μ2 => mm_wpB Sh scr rb Cs K RI RV cd loc (.int r :: st) μ2) (fun _ => False)) := propext Iff.rfl
theorem w_c87 {q : Nat} {a1 a2 a3 a4 : Value} : mm_wpB Sh scr rb Cs K RI RV ((some (.invokevirtual q), 87, 4, tg, im) :: cd) loc (a4 :: a3 :: a2 :: a1 :: st) μ = (mm_cb 4 (a4 :: a3 :: a2 :: a1 :: st) = true ∧ mm_rc Sh 8 [a1, a2, a3, a4] ∧ Cs 87 [a1, a2, a3, a4] μ (fun r μ2 => mm_wpB Sh scr rb Cs K RI RV cd loc (.int r :: st) μ2) (fun _ => False)) := propext Iff.rfl
theorem w_c88 {q : Nat} {a1 a2 : Value} : mm_wpB Sh scr rb Cs K RI RV ((some (.invokevirtual q), 88, 2, tg, im) :: cd) loc (a2 :: a1 :: st) μ = (mm_cb 2 (a2 :: a1 :: st) = true ∧ mm_rc Sh 8 [a1, a2] ∧ Cs 88 [a1, a2] μ (fun r μ2 => mm_wpB Sh scr rb Cs K RI RV cd loc (.int r :: st) μ2) (fun _ => False)) := propext Iff.rfl
theorem w_c89 {q : Nat} {a1 a2 : Value} : mm_wpB Sh scr rb Cs K RI RV ((some (.invokevirtual q), 89, 2, tg, im) :: cd) loc (a2 :: a1 :: st) μ = (mm_cb 2 (a2 :: a1 :: st) = true ∧ mm_rc Sh 8 [a1, a2] ∧ Cs 89 [a1, a2] μ (fun r μ2 => mm_wpB Sh scr rb Cs K RI RV cd loc (.int r :: st) μ2) (fun _ => False)) := propext Iff.rfl
theorem w_c90 {q : Nat} {a1 a2 : Value} : mm_wpB Sh scr rb Cs K RI RV ((some (.invokevirtual q), 90, 2, tg, im) :: cd) loc (a2 :: a1 :: st) μ = (mm_cb 2 (a2 :: a1 :: st) = true ∧ mm_rc Sh 8 [a1, a2] ∧ Cs 90 [a1, a2] μ (fun _ _ => False) (fun μ2 => mm_wpB Sh scr rb Cs K RI RV cd loc st μ2)) := propext Iff.rfl
theorem w_c91 {q : Nat} {a1 a2 : Value} : mm_wpB Sh scr rb Cs K RI RV ((some (.invokevirtual q), 91, 2, tg, im) :: cd) loc (a2 :: a1 :: st) μ = (mm_cb 2 (a2 :: a1 :: st) = true ∧ mm_rc Sh 8 [a1, a2] ∧ Cs 91 [a1, a2] μ (fun r μ2 => mm_wpB Sh scr rb Cs K RI RV cd loc (.int r :: st) μ2) (fun _ => False)) := propext Iff.rfl
theorem w_c92 {q : Nat} {a1 : Value} : mm_wpB Sh scr rb Cs K RI RV ((some (.invokevirtual q), 92, 1, tg, im) :: cd) loc (a1 :: st) μ = (mm_cb 1 (a1 :: st) = true ∧ mm_rc Sh 8 [a1] ∧ Cs 92 [a1] μ (fun _ _ => False) (fun μ2 => mm_wpB Sh scr rb Cs K RI RV cd loc st μ2)) := propext Iff.rfl
theorem w_c93 {q : Nat} {a1 : Value} : mm_wpB Sh scr rb Cs K RI RV ((some (.invokevirtual q), 93, 1, tg, im) :: cd) loc (a1 :: st) μ = (mm_cb 1 (a1 :: st) = true ∧ mm_rc Sh 8 [a1] ∧ Cs 93 [a1] μ (fun r μ2 => mm_wpB Sh scr rb Cs K RI RV cd loc (.int r :: st) μ2) (fun _ => False)) := propext Iff.rfl
theorem w_c94 {q : Nat} {a1 : Value} : mm_wpB Sh scr rb Cs K RI RV ((some (.invokevirtual q), 94, 1, tg, im) :: cd) loc (a1 :: st) μ = (mm_cb 1 (a1 :: st) = true ∧ mm_rc Sh 8 [a1] ∧ Cs 94 [a1] μ (fun _ _ => False) (fun μ2 => mm_wpB Sh scr rb Cs K RI RV cd loc st μ2)) := propext Iff.rfl
theorem w_c95 {q : Nat} {a1 a2 : Value} : mm_wpB Sh scr rb Cs K RI RV ((some (.invokevirtual q), 95, 2, tg, im) :: cd) loc (a2 :: a1 :: st) μ = (mm_cb 2 (a2 :: a1 :: st) = true ∧ mm_rc Sh 8 [a1, a2] ∧ Cs 95 [a1, a2] μ (fun r μ2 => mm_wpB Sh scr rb Cs K RI RV cd loc (.int r :: st) μ2) (fun _ => False)) := propext Iff.rfl
theorem w_c96 {q : Nat} {a1 : Value} : mm_wpB Sh scr rb Cs K RI RV ((some (.invokevirtual q), 96, 1, tg, im) :: cd) loc (a1 :: st) μ = (mm_cb 1 (a1 :: st) = true ∧ mm_rc Sh 8 [a1] ∧ Cs 96 [a1] μ (fun r μ2 => mm_wpB Sh scr rb Cs K RI RV cd loc (.int r :: st) μ2) (fun _ => False)) := propext Iff.rfl
theorem w_c97 {q : Nat} {a1 a2 : Value} : mm_wpB Sh scr rb Cs K RI RV ((some (.invokevirtual q), 97, 2, tg, im) :: cd) loc (a2 :: a1 :: st) μ = (mm_cb 2 (a2 :: a1 :: st) = true ∧ mm_rc Sh 8 [a1, a2] ∧ Cs 97 [a1, a2] μ (fun r μ2 => mm_wpB Sh scr rb Cs K RI RV cd loc (.int r :: st) μ2) (fun _ => False)) := propext Iff.rfl
theorem w_c98 {q : Nat} {a1 a2 : Value} : mm_wpB Sh scr rb Cs K RI RV ((some (.invokevirtual q), 98, 2, tg, im) :: cd) loc (a2 :: a1 :: st) μ = (mm_cb 2 (a2 :: a1 :: st) = true ∧ mm_rc Sh 8 [a1, a2] ∧ Cs 98 [a1, a2] μ (fun r μ2 => mm_wpB Sh scr rb Cs K RI RV cd loc (.int r :: st) μ2) (fun _ => False)) := propext Iff.rfl
theorem w_c99 {q : Nat} {a1 a2 a3 a4 : Value} : mm_wpB Sh scr rb Cs K RI RV ((some (.invokevirtual q), 99, 4, tg, im) :: cd) loc (a4 :: a3 :: a2 :: a1 :: st) μ = (mm_cb 4 (a4 :: a3 :: a2 :: a1 :: st) = true ∧ mm_rc Sh 8 [a1, a2, a3, a4] ∧ Cs 99 [a1, a2, a3, a4] μ (fun r μ2 => mm_wpB Sh scr rb Cs K RI RV cd loc (.int r :: st) μ2) (fun _ => False)) := propext Iff.rfl
theorem w_c100 {q : Nat} {a1 a2 a3 a4 a5 : Value} : mm_wpB Sh scr rb Cs K RI RV ((some (.invokevirtual q), 100, 5, tg, im) :: cd) loc (a5 :: a4 :: a3 :: a2 :: a1 :: st) μ = (mm_cb 5 (a5 :: a4 :: a3 :: a2 :: a1 :: st) = true ∧ mm_rc Sh 8 [a1, a2, a3, a4, a5] ∧ Cs 100 [a1, a2, a3, a4, a5] μ (fun r μ2 => mm_wpB Sh scr rb Cs K RI RV cd loc (.int r :: st) μ2) (fun _ => False)) := propext Iff.rfl
theorem w_c101 {q : Nat} {a1 a2 : Value} : mm_wpB Sh scr rb Cs K RI RV ((some (.invokevirtual q), 101, 2, tg, im) :: cd) loc (a2 :: a1 :: st) μ = (mm_cb 2 (a2 :: a1 :: st) = true ∧ mm_rc Sh 8 [a1, a2] ∧ Cs 101 [a1, a2] μ (fun r μ2 => mm_wpB Sh scr rb Cs K RI RV cd loc (.int r :: st) μ2) (fun _ => False)) := propext Iff.rfl
theorem w_c102 {q : Nat} {a1 a2 : Value} : mm_wpB Sh scr rb Cs K RI RV ((some (.invokevirtual q), 102, 2, tg, im) :: cd) loc (a2 :: a1 :: st) μ = (mm_cb 2 (a2 :: a1 :: st) = true ∧ mm_rc Sh 8 [a1, a2] ∧ Cs 102 [a1, a2] μ (fun r μ2 => mm_wpB Sh scr rb Cs K RI RV cd loc (.int r :: st) μ2) (fun _ => False)) := propext Iff.rfl
theorem w_c103 {q : Nat} {a1 a2 a3 : Value} : mm_wpB Sh scr rb Cs K RI RV ((some (.invokevirtual q), 103, 3, tg, im) :: cd) loc (a3 :: a2 :: a1 :: st) μ = (mm_cb 3 (a3 :: a2 :: a1 :: st) = true ∧ mm_rc Sh 8 [a1, a2, a3] ∧ Cs 103 [a1, a2, a3] μ (fun r μ2 => mm_wpB Sh scr rb Cs K RI RV cd loc (.int r :: st) μ2) (fun _ => False)) := propext Iff.rfl
theorem w_c104 {q : Nat} {a1 a2 a3 : Value} : mm_wpB Sh scr rb Cs K RI RV ((some (.invokevirtual q), 104, 3, tg, im) :: cd) loc (a3 :: a2 :: a1 :: st) μ = (mm_cb 3 (a3 :: a2 :: a1 :: st) = true ∧ mm_rc Sh 8 [a1, a2, a3] ∧ Cs 104 [a1, a2, a3] μ (fun r μ2 => mm_wpB Sh scr rb Cs K RI RV cd loc (.int r :: st) μ2) (fun _ => False)) := propext Iff.rfl
theorem w_c105 {q : Nat} {a1 a2 a3 : Value} : mm_wpB Sh scr rb Cs K RI RV ((some (.invokevirtual q), 105, 3, tg, im) :: cd) loc (a3 :: a2 :: a1 :: st) μ = (mm_cb 3 (a3 :: a2 :: a1 :: st) = true ∧ mm_rc Sh 8 [a1, a2, a3] ∧ Cs 105 [a1, a2, a3] μ (fun r μ2 => mm_wpB Sh scr rb Cs K RI RV cd loc (.int r :: st) μ2) (fun _ => False)) := propext Iff.rfl
theorem w_c106 {q : Nat} {a1 a2 a3 : Value} : mm_wpB Sh scr rb Cs K RI RV ((some (.invokevirtual q), 106, 3, tg, im) :: cd) loc (a3 :: a2 :: a1 :: st) μ = (mm_cb 3 (a3 :: a2 :: a1 :: st) = true ∧ mm_rc Sh 8 [a1, a2, a3] ∧ Cs 106 [a1, a2, a3] μ (fun r μ2 => mm_wpB Sh scr rb Cs K RI RV cd loc (.int r :: st) μ2) (fun _ => False)) := propext Iff.rfl
theorem w_c107 {q : Nat} {a1 a2 a3 : Value} : mm_wpB Sh scr rb Cs K RI RV ((some (.invokevirtual q), 107, 3, tg, im) :: cd) loc (a3 :: a2 :: a1 :: st) μ = (mm_cb 3 (a3 :: a2 :: a1 :: st) = true ∧ mm_rc Sh 8 [a1, a2, a3] ∧ Cs 107 [a1, a2, a3] μ (fun r μ2 => mm_wpB Sh scr rb Cs K RI RV cd loc (.int r :: st) μ2) (fun _ => False)) := propext Iff.rfl
theorem w_c108 {q : Nat} {a1 a2 : Value} : mm_wpB Sh scr rb Cs K RI RV ((some (.invokevirtual q), 108, 2, tg, im) :: cd) loc (a2 :: a1 :: st) μ = (mm_cb 2 (a2 :: a1 :: st) = true ∧ mm_rc Sh 8 [a1, a2] ∧ Cs 108 [a1, a2] μ (fun r μ2 => mm_wpB Sh scr rb Cs K RI RV cd loc (.int r :: st) μ2) (fun _ => False)) := propext Iff.rfl
theorem w_c109 {q : Nat} {a1 a2 a3 a4 : Value} : mm_wpB Sh scr rb Cs K RI RV ((some (.invokestatic q), 109, 4, tg, im) :: cd) loc (a4 :: a3 :: a2 :: a1 :: st) μ = (mm_cb 4 (a4 :: a3 :: a2 :: a1 :: st) = true ∧ Cs 109 [a1, a2, a3, a4] μ (fun _ _ => False) (fun μ2 => mm_wpB Sh scr rb Cs K RI RV cd loc st μ2)) := propext Iff.rfl
theorem w_c110 {q : Nat} {a1 a2 a3 a4 : Value} : mm_wpB Sh scr rb Cs K RI RV ((some (.invokestatic q), 110, 4, tg, im) :: cd) loc (a4 :: a3 :: a2 :: a1 :: st) μ = (mm_cb 4 (a4 :: a3 :: a2 :: a1 :: st) = true ∧ Cs 110 [a1, a2, a3, a4] μ (fun _ _ => False) (fun μ2 => mm_wpB Sh scr rb Cs K RI RV cd loc st μ2)) := propext Iff.rfl
theorem w_c111 {q : Nat} {a1 a2 a3 a4 : Value} : mm_wpB Sh scr rb Cs K RI RV ((some (.invokestatic q), 111, 4, tg, im) :: cd) loc (a4 :: a3 :: a2 :: a1 :: st) μ = (mm_cb 4 (a4 :: a3 :: a2 :: a1 :: st) = true ∧ Cs 111 [a1, a2, a3, a4] μ (fun _ _ => False) (fun μ2 => mm_wpB Sh scr rb Cs K RI RV cd loc st μ2)) := propext Iff.rfl
theorem w_c112 {q : Nat} {a1 a2 a3 a4 : Value} : mm_wpB Sh scr rb Cs K RI RV ((some (.invokestatic q), 112, 4, tg, im) :: cd) loc (a4 :: a3 :: a2 :: a1 :: st) μ = (mm_cb 4 (a4 :: a3 :: a2 :: a1 :: st) = true ∧ Cs 112 [a1, a2, a3, a4] μ (fun _ _ => False) (fun μ2 => mm_wpB Sh scr rb Cs K RI RV cd loc st μ2)) := propext Iff.rfl
theorem w_c113 {q : Nat} {a1 a2 a3 a4 : Value} : mm_wpB Sh scr rb Cs K RI RV ((some (.invokestatic q), 113, 4, tg, im) :: cd) loc (a4 :: a3 :: a2 :: a1 :: st) μ = (mm_cb 4 (a4 :: a3 :: a2 :: a1 :: st) = true ∧ Cs 113 [a1, a2, a3, a4] μ (fun _ _ => False) (fun μ2 => mm_wpB Sh scr rb Cs K RI RV cd loc st μ2)) := propext Iff.rfl
end RULES
theorem li_0 {x : Int32} {l : mm_L} {F : Int32 → Prop} : mm_li (some (.int x) :: l) 0 F = F x := propext Iff.rfl
theorem li_s {a : Option Value} {l : mm_L} {n : Nat} {F : Int32 → Prop} : mm_li (a :: l) (n + 1) F = mm_li l n F := propext Iff.rfl
theorem lr_0 {x : Nat} {l : mm_L} {F : Nat → Prop} : mm_lr (some (.ref x) :: l) 0 F = F x := propext Iff.rfl
theorem lr_s {a : Option Value} {l : mm_L} {n : Nat} {F : Nat → Prop} : mm_lr (a :: l) (n + 1) F = mm_lr l n F := propext Iff.rfl
theorem c1_i {x : Int32} : (mm_c1 (.int x) = true) = True := eq_true rfl
theorem c1_r {x : Nat} : (mm_c1 (.ref x) = true) = True := eq_true rfl
theorem rc_0 {l : List Value} : mm_rc hh_S 7 (.ref 0 :: l) = True := eq_true rfl
theorem gf_0_0 {μ : mm_M} {F : Value → Prop} : mm_gf hh_S μ 0 7 0 F = F (.ref 1) := propext ⟨fun h => h.2, fun h => ⟨rfl, h⟩⟩
theorem gf_0_1 {μ : mm_M} {F : Value → Prop} : mm_gf hh_S μ 0 7 1 F = F (.ref 2) := propext ⟨fun h => h.2, fun h => ⟨rfl, h⟩⟩
theorem gf_0_2 {μ : mm_M} {F : Value → Prop} : mm_gf hh_S μ 0 7 2 F = F (.ref 3) := propext ⟨fun h => h.2, fun h => ⟨rfl, h⟩⟩
theorem gf_0_3 {μ : mm_M} {F : Value → Prop} : mm_gf hh_S μ 0 7 3 F = F (.ref 4) := propext ⟨fun h => h.2, fun h => ⟨rfl, h⟩⟩
theorem gf_0_4 {μ : mm_M} {F : Value → Prop} : mm_gf hh_S μ 0 7 4 F = F (.ref 5) := propext ⟨fun h => h.2, fun h => ⟨rfl, h⟩⟩
theorem gf_0_5 {μ : mm_M} {F : Value → Prop} : mm_gf hh_S μ 0 7 5 F = F (.ref 6) := propext ⟨fun h => h.2, fun h => ⟨rfl, h⟩⟩
theorem gf_0_6 {μ : mm_M} {F : Value → Prop} : mm_gf hh_S μ 0 7 6 F = F (.ref 7) := propext ⟨fun h => h.2, fun h => ⟨rfl, h⟩⟩
theorem gf_0_7 {μ : mm_M} {F : Value → Prop} : mm_gf hh_S μ 0 7 7 F = F (.ref 8) := propext ⟨fun h => h.2, fun h => ⟨rfl, h⟩⟩
theorem gf_0_8 {μ : mm_M} {F : Value → Prop} : mm_gf hh_S μ 0 7 8 F = F (.int (μ 0 8)) := propext ⟨fun h => h.2, fun h => ⟨rfl, h⟩⟩
theorem pf_0_8 {F : Prop} : mm_pf hh_S 0 7 8 F = F := propext ⟨fun h => h.2.2, fun h => ⟨rfl, rfl, h⟩⟩
theorem gf_0_9 {μ : mm_M} {F : Value → Prop} : mm_gf hh_S μ 0 7 9 F = F (.int (μ 0 9)) := propext ⟨fun h => h.2, fun h => ⟨rfl, h⟩⟩
theorem pf_0_9 {F : Prop} : mm_pf hh_S 0 7 9 F = F := propext ⟨fun h => h.2.2, fun h => ⟨rfl, rfl, h⟩⟩
theorem gf_0_10 {μ : mm_M} {F : Value → Prop} : mm_gf hh_S μ 0 7 10 F = F (.int (μ 0 10)) := propext ⟨fun h => h.2, fun h => ⟨rfl, h⟩⟩
theorem pf_0_10 {F : Prop} : mm_pf hh_S 0 7 10 F = F := propext ⟨fun h => h.2.2, fun h => ⟨rfl, rfl, h⟩⟩
theorem gf_0_11 {μ : mm_M} {F : Value → Prop} : mm_gf hh_S μ 0 7 11 F = F (.int (μ 0 11)) := propext ⟨fun h => h.2, fun h => ⟨rfl, h⟩⟩
theorem pf_0_11 {F : Prop} : mm_pf hh_S 0 7 11 F = F := propext ⟨fun h => h.2.2, fun h => ⟨rfl, rfl, h⟩⟩
theorem gf_0_12 {μ : mm_M} {F : Value → Prop} : mm_gf hh_S μ 0 7 12 F = F (.int (μ 0 12)) := propext ⟨fun h => h.2, fun h => ⟨rfl, h⟩⟩
theorem pf_0_12 {F : Prop} : mm_pf hh_S 0 7 12 F = F := propext ⟨fun h => h.2.2, fun h => ⟨rfl, rfl, h⟩⟩
theorem gf_0_13 {μ : mm_M} {F : Value → Prop} : mm_gf hh_S μ 0 7 13 F = F (.int (μ 0 13)) := propext ⟨fun h => h.2, fun h => ⟨rfl, h⟩⟩
theorem pf_0_13 {F : Prop} : mm_pf hh_S 0 7 13 F = F := propext ⟨fun h => h.2.2, fun h => ⟨rfl, rfl, h⟩⟩
theorem rc_1 {l : List Value} : mm_rc hh_S 5 (.ref 1 :: l) = True := eq_true rfl
theorem gf_1_0 {μ : mm_M} {F : Value → Prop} : mm_gf hh_S μ 1 5 0 F = F (.ref 9) := propext ⟨fun h => h.2, fun h => ⟨rfl, h⟩⟩
theorem gf_1_1 {μ : mm_M} {F : Value → Prop} : mm_gf hh_S μ 1 5 1 F = F (.ref 10) := propext ⟨fun h => h.2, fun h => ⟨rfl, h⟩⟩
theorem gf_1_2 {μ : mm_M} {F : Value → Prop} : mm_gf hh_S μ 1 5 2 F = F (.ref 11) := propext ⟨fun h => h.2, fun h => ⟨rfl, h⟩⟩
theorem gf_1_3 {μ : mm_M} {F : Value → Prop} : mm_gf hh_S μ 1 5 3 F = F (.ref 12) := propext ⟨fun h => h.2, fun h => ⟨rfl, h⟩⟩
theorem gf_1_4 {μ : mm_M} {F : Value → Prop} : mm_gf hh_S μ 1 5 4 F = F (.ref 13) := propext ⟨fun h => h.2, fun h => ⟨rfl, h⟩⟩
theorem gf_1_5 {μ : mm_M} {F : Value → Prop} : mm_gf hh_S μ 1 5 5 F = F (.ref 14) := propext ⟨fun h => h.2, fun h => ⟨rfl, h⟩⟩
theorem gf_1_6 {μ : mm_M} {F : Value → Prop} : mm_gf hh_S μ 1 5 6 F = F (.int (μ 1 6)) := propext ⟨fun h => h.2, fun h => ⟨rfl, h⟩⟩
theorem pf_1_6 {F : Prop} : mm_pf hh_S 1 5 6 F = F := propext ⟨fun h => h.2.2, fun h => ⟨rfl, rfl, h⟩⟩
theorem rc_2 {l : List Value} : mm_rc hh_S 4 (.ref 2 :: l) = True := eq_true rfl
theorem gf_2_0 {μ : mm_M} {F : Value → Prop} : mm_gf hh_S μ 2 4 0 F = F (.ref 15) := propext ⟨fun h => h.2, fun h => ⟨rfl, h⟩⟩
theorem gf_2_1 {μ : mm_M} {F : Value → Prop} : mm_gf hh_S μ 2 4 1 F = F (.ref 16) := propext ⟨fun h => h.2, fun h => ⟨rfl, h⟩⟩
theorem gf_2_2 {μ : mm_M} {F : Value → Prop} : mm_gf hh_S μ 2 4 2 F = F (.ref 17) := propext ⟨fun h => h.2, fun h => ⟨rfl, h⟩⟩
theorem gf_2_3 {μ : mm_M} {F : Value → Prop} : mm_gf hh_S μ 2 4 3 F = F (.ref 18) := propext ⟨fun h => h.2, fun h => ⟨rfl, h⟩⟩
theorem gf_2_4 {μ : mm_M} {F : Value → Prop} : mm_gf hh_S μ 2 4 4 F = F (.ref 19) := propext ⟨fun h => h.2, fun h => ⟨rfl, h⟩⟩
theorem gf_2_5 {μ : mm_M} {F : Value → Prop} : mm_gf hh_S μ 2 4 5 F = F (.ref 20) := propext ⟨fun h => h.2, fun h => ⟨rfl, h⟩⟩
theorem gf_2_6 {μ : mm_M} {F : Value → Prop} : mm_gf hh_S μ 2 4 6 F = F (.int (μ 2 6)) := propext ⟨fun h => h.2, fun h => ⟨rfl, h⟩⟩
theorem pf_2_6 {F : Prop} : mm_pf hh_S 2 4 6 F = F := propext ⟨fun h => h.2.2, fun h => ⟨rfl, rfl, h⟩⟩
theorem rc_3 {l : List Value} : mm_rc hh_S 3 (.ref 3 :: l) = True := eq_true rfl
theorem gf_3_0 {μ : mm_M} {F : Value → Prop} : mm_gf hh_S μ 3 3 0 F = F (.ref 21) := propext ⟨fun h => h.2, fun h => ⟨rfl, h⟩⟩
theorem gf_3_1 {μ : mm_M} {F : Value → Prop} : mm_gf hh_S μ 3 3 1 F = F (.ref 22) := propext ⟨fun h => h.2, fun h => ⟨rfl, h⟩⟩
theorem rc_4 {l : List Value} : mm_rc hh_S 2 (.ref 4 :: l) = True := eq_true rfl
theorem gf_4_0 {μ : mm_M} {F : Value → Prop} : mm_gf hh_S μ 4 2 0 F = F (.ref 23) := propext ⟨fun h => h.2, fun h => ⟨rfl, h⟩⟩
theorem gf_4_1 {μ : mm_M} {F : Value → Prop} : mm_gf hh_S μ 4 2 1 F = F (.ref 24) := propext ⟨fun h => h.2, fun h => ⟨rfl, h⟩⟩
theorem gf_4_2 {μ : mm_M} {F : Value → Prop} : mm_gf hh_S μ 4 2 2 F = F (.ref 25) := propext ⟨fun h => h.2, fun h => ⟨rfl, h⟩⟩
theorem gf_4_3 {μ : mm_M} {F : Value → Prop} : mm_gf hh_S μ 4 2 3 F = F (.ref 26) := propext ⟨fun h => h.2, fun h => ⟨rfl, h⟩⟩
theorem gf_4_4 {μ : mm_M} {F : Value → Prop} : mm_gf hh_S μ 4 2 4 F = F (.ref 27) := propext ⟨fun h => h.2, fun h => ⟨rfl, h⟩⟩
theorem rc_5 {l : List Value} : mm_rc hh_S 0 (.ref 5 :: l) = True := eq_true rfl
theorem gf_5_0 {μ : mm_M} {F : Value → Prop} : mm_gf hh_S μ 5 0 0 F = F (.ref 28) := propext ⟨fun h => h.2, fun h => ⟨rfl, h⟩⟩
theorem gf_5_1 {μ : mm_M} {F : Value → Prop} : mm_gf hh_S μ 5 0 1 F = F (.ref 29) := propext ⟨fun h => h.2, fun h => ⟨rfl, h⟩⟩
theorem gf_5_2 {μ : mm_M} {F : Value → Prop} : mm_gf hh_S μ 5 0 2 F = F (.ref 30) := propext ⟨fun h => h.2, fun h => ⟨rfl, h⟩⟩
theorem gf_5_3 {μ : mm_M} {F : Value → Prop} : mm_gf hh_S μ 5 0 3 F = F (.ref 31) := propext ⟨fun h => h.2, fun h => ⟨rfl, h⟩⟩
theorem gf_5_4 {μ : mm_M} {F : Value → Prop} : mm_gf hh_S μ 5 0 4 F = F (.ref 32) := propext ⟨fun h => h.2, fun h => ⟨rfl, h⟩⟩
theorem gf_5_5 {μ : mm_M} {F : Value → Prop} : mm_gf hh_S μ 5 0 5 F = F (.ref 33) := propext ⟨fun h => h.2, fun h => ⟨rfl, h⟩⟩
theorem gf_5_6 {μ : mm_M} {F : Value → Prop} : mm_gf hh_S μ 5 0 6 F = F (.ref 34) := propext ⟨fun h => h.2, fun h => ⟨rfl, h⟩⟩
theorem gf_5_7 {μ : mm_M} {F : Value → Prop} : mm_gf hh_S μ 5 0 7 F = F (.int (μ 5 7)) := propext ⟨fun h => h.2, fun h => ⟨rfl, h⟩⟩
theorem pf_5_7 {F : Prop} : mm_pf hh_S 5 0 7 F = F := propext ⟨fun h => h.2.2, fun h => ⟨rfl, rfl, h⟩⟩
theorem gf_5_8 {μ : mm_M} {F : Value → Prop} : mm_gf hh_S μ 5 0 8 F = F (.int (μ 5 8)) := propext ⟨fun h => h.2, fun h => ⟨rfl, h⟩⟩
theorem pf_5_8 {F : Prop} : mm_pf hh_S 5 0 8 F = F := propext ⟨fun h => h.2.2, fun h => ⟨rfl, rfl, h⟩⟩
theorem rc_6 {l : List Value} : mm_rc hh_S 1 (.ref 6 :: l) = True := eq_true rfl
theorem gf_6_0 {μ : mm_M} {F : Value → Prop} : mm_gf hh_S μ 6 1 0 F = F (.ref 35) := propext ⟨fun h => h.2, fun h => ⟨rfl, h⟩⟩
theorem gf_6_1 {μ : mm_M} {F : Value → Prop} : mm_gf hh_S μ 6 1 1 F = F (.ref 36) := propext ⟨fun h => h.2, fun h => ⟨rfl, h⟩⟩
theorem gf_6_2 {μ : mm_M} {F : Value → Prop} : mm_gf hh_S μ 6 1 2 F = F (.ref 37) := propext ⟨fun h => h.2, fun h => ⟨rfl, h⟩⟩
theorem gf_6_3 {μ : mm_M} {F : Value → Prop} : mm_gf hh_S μ 6 1 3 F = F (.ref 38) := propext ⟨fun h => h.2, fun h => ⟨rfl, h⟩⟩
theorem gf_6_4 {μ : mm_M} {F : Value → Prop} : mm_gf hh_S μ 6 1 4 F = F (.ref 39) := propext ⟨fun h => h.2, fun h => ⟨rfl, h⟩⟩
theorem gf_6_5 {μ : mm_M} {F : Value → Prop} : mm_gf hh_S μ 6 1 5 F = F (.ref 40) := propext ⟨fun h => h.2, fun h => ⟨rfl, h⟩⟩
theorem gf_6_6 {μ : mm_M} {F : Value → Prop} : mm_gf hh_S μ 6 1 6 F = F (.ref 41) := propext ⟨fun h => h.2, fun h => ⟨rfl, h⟩⟩
theorem gf_6_7 {μ : mm_M} {F : Value → Prop} : mm_gf hh_S μ 6 1 7 F = F (.int (μ 6 7)) := propext ⟨fun h => h.2, fun h => ⟨rfl, h⟩⟩
theorem pf_6_7 {F : Prop} : mm_pf hh_S 6 1 7 F = F := propext ⟨fun h => h.2.2, fun h => ⟨rfl, rfl, h⟩⟩
theorem rc_7 {l : List Value} : mm_rc hh_S 6 (.ref 7 :: l) = True := eq_true rfl
theorem gf_7_0 {μ : mm_M} {F : Value → Prop} : mm_gf hh_S μ 7 6 0 F = F (.ref 42) := propext ⟨fun h => h.2, fun h => ⟨rfl, h⟩⟩
theorem gf_7_1 {μ : mm_M} {F : Value → Prop} : mm_gf hh_S μ 7 6 1 F = F (.ref 43) := propext ⟨fun h => h.2, fun h => ⟨rfl, h⟩⟩
theorem gf_7_2 {μ : mm_M} {F : Value → Prop} : mm_gf hh_S μ 7 6 2 F = F (.ref 44) := propext ⟨fun h => h.2, fun h => ⟨rfl, h⟩⟩
theorem gf_7_3 {μ : mm_M} {F : Value → Prop} : mm_gf hh_S μ 7 6 3 F = F (.ref 45) := propext ⟨fun h => h.2, fun h => ⟨rfl, h⟩⟩
theorem gf_7_4 {μ : mm_M} {F : Value → Prop} : mm_gf hh_S μ 7 6 4 F = F (.ref 46) := propext ⟨fun h => h.2, fun h => ⟨rfl, h⟩⟩
theorem gf_7_5 {μ : mm_M} {F : Value → Prop} : mm_gf hh_S μ 7 6 5 F = F (.ref 47) := propext ⟨fun h => h.2, fun h => ⟨rfl, h⟩⟩
theorem gf_7_6 {μ : mm_M} {F : Value → Prop} : mm_gf hh_S μ 7 6 6 F = F (.int (μ 7 6)) := propext ⟨fun h => h.2, fun h => ⟨rfl, h⟩⟩
theorem pf_7_6 {F : Prop} : mm_pf hh_S 7 6 6 F = F := propext ⟨fun h => h.2.2, fun h => ⟨rfl, rfl, h⟩⟩
theorem gf_7_7 {μ : mm_M} {F : Value → Prop} : mm_gf hh_S μ 7 6 7 F = F (.int (μ 7 7)) := propext ⟨fun h => h.2, fun h => ⟨rfl, h⟩⟩
theorem pf_7_7 {F : Prop} : mm_pf hh_S 7 6 7 F = F := propext ⟨fun h => h.2.2, fun h => ⟨rfl, rfl, h⟩⟩
theorem rc_48 {l : List Value} : mm_rc hh_S 8 (.ref 48 :: l) = True := eq_true rfl
theorem gf_48_0 {μ : mm_M} {F : Value → Prop} : mm_gf hh_S μ 48 8 0 F = F (.int (μ 48 0)) := propext ⟨fun h => h.2, fun h => ⟨rfl, h⟩⟩
theorem pf_48_0 {F : Prop} : mm_pf hh_S 48 8 0 F = F := propext ⟨fun h => h.2.2, fun h => ⟨rfl, rfl, h⟩⟩
theorem gf_48_1 {μ : mm_M} {F : Value → Prop} : mm_gf hh_S μ 48 8 1 F = F (.int (μ 48 1)) := propext ⟨fun h => h.2, fun h => ⟨rfl, h⟩⟩
theorem pf_48_1 {F : Prop} : mm_pf hh_S 48 8 1 F = F := propext ⟨fun h => h.2.2, fun h => ⟨rfl, rfl, h⟩⟩
theorem gf_48_2 {μ : mm_M} {F : Value → Prop} : mm_gf hh_S μ 48 8 2 F = F (.ref 49) := propext ⟨fun h => h.2, fun h => ⟨rfl, h⟩⟩
theorem gf_48_3 {μ : mm_M} {F : Value → Prop} : mm_gf hh_S μ 48 8 3 F = F (.ref 50) := propext ⟨fun h => h.2, fun h => ⟨rfl, h⟩⟩
theorem gf_48_4 {μ : mm_M} {F : Value → Prop} : mm_gf hh_S μ 48 8 4 F = F (.ref 51) := propext ⟨fun h => h.2, fun h => ⟨rfl, h⟩⟩
theorem gf_48_5 {μ : mm_M} {F : Value → Prop} : mm_gf hh_S μ 48 8 5 F = F (.ref 52) := propext ⟨fun h => h.2, fun h => ⟨rfl, h⟩⟩
theorem gf_48_6 {μ : mm_M} {F : Value → Prop} : mm_gf hh_S μ 48 8 6 F = F (.ref 53) := propext ⟨fun h => h.2, fun h => ⟨rfl, h⟩⟩
theorem gf_48_7 {μ : mm_M} {F : Value → Prop} : mm_gf hh_S μ 48 8 7 F = F (.int (μ 48 7)) := propext ⟨fun h => h.2, fun h => ⟨rfl, h⟩⟩
theorem pf_48_7 {F : Prop} : mm_pf hh_S 48 8 7 F = F := propext ⟨fun h => h.2.2, fun h => ⟨rfl, rfl, h⟩⟩
theorem gf_48_8 {μ : mm_M} {F : Value → Prop} : mm_gf hh_S μ 48 8 8 F = F (.ref 54) := propext ⟨fun h => h.2, fun h => ⟨rfl, h⟩⟩
theorem gf_48_9 {μ : mm_M} {F : Value → Prop} : mm_gf hh_S μ 48 8 9 F = F (.ref 55) := propext ⟨fun h => h.2, fun h => ⟨rfl, h⟩⟩
theorem gf_48_10 {μ : mm_M} {F : Value → Prop} : mm_gf hh_S μ 48 8 10 F = F (.ref 56) := propext ⟨fun h => h.2, fun h => ⟨rfl, h⟩⟩
theorem gf_48_11 {μ : mm_M} {F : Value → Prop} : mm_gf hh_S μ 48 8 11 F = F (.ref 57) := propext ⟨fun h => h.2, fun h => ⟨rfl, h⟩⟩
theorem gf_48_12 {μ : mm_M} {F : Value → Prop} : mm_gf hh_S μ 48 8 12 F = F (.int (μ 48 12)) := propext ⟨fun h => h.2, fun h => ⟨rfl, h⟩⟩
theorem pf_48_12 {F : Prop} : mm_pf hh_S 48 8 12 F = F := propext ⟨fun h => h.2.2, fun h => ⟨rfl, rfl, h⟩⟩
theorem gf_48_13 {μ : mm_M} {F : Value → Prop} : mm_gf hh_S μ 48 8 13 F = F (.ref 58) := propext ⟨fun h => h.2, fun h => ⟨rfl, h⟩⟩
theorem gf_48_14 {μ : mm_M} {F : Value → Prop} : mm_gf hh_S μ 48 8 14 F = F (.ref 59) := propext ⟨fun h => h.2, fun h => ⟨rfl, h⟩⟩
theorem gf_48_15 {μ : mm_M} {F : Value → Prop} : mm_gf hh_S μ 48 8 15 F = F (.ref 60) := propext ⟨fun h => h.2, fun h => ⟨rfl, h⟩⟩
theorem gf_48_16 {μ : mm_M} {F : Value → Prop} : mm_gf hh_S μ 48 8 16 F = F (.ref 61) := propext ⟨fun h => h.2, fun h => ⟨rfl, h⟩⟩
theorem gf_48_17 {μ : mm_M} {F : Value → Prop} : mm_gf hh_S μ 48 8 17 F = F (.int (μ 48 17)) := propext ⟨fun h => h.2, fun h => ⟨rfl, h⟩⟩
theorem pf_48_17 {F : Prop} : mm_pf hh_S 48 8 17 F = F := propext ⟨fun h => h.2.2, fun h => ⟨rfl, rfl, h⟩⟩
theorem gf_48_18 {μ : mm_M} {F : Value → Prop} : mm_gf hh_S μ 48 8 18 F = F (.int (μ 48 18)) := propext ⟨fun h => h.2, fun h => ⟨rfl, h⟩⟩
theorem pf_48_18 {F : Prop} : mm_pf hh_S 48 8 18 F = F := propext ⟨fun h => h.2.2, fun h => ⟨rfl, rfl, h⟩⟩
theorem gf_48_19 {μ : mm_M} {F : Value → Prop} : mm_gf hh_S μ 48 8 19 F = F (.ref 62) := propext ⟨fun h => h.2, fun h => ⟨rfl, h⟩⟩
theorem gf_48_20 {μ : mm_M} {F : Value → Prop} : mm_gf hh_S μ 48 8 20 F = F (.ref 63) := propext ⟨fun h => h.2, fun h => ⟨rfl, h⟩⟩
theorem gf_48_21 {μ : mm_M} {F : Value → Prop} : mm_gf hh_S μ 48 8 21 F = F (.ref 64) := propext ⟨fun h => h.2, fun h => ⟨rfl, h⟩⟩
theorem gf_48_22 {μ : mm_M} {F : Value → Prop} : mm_gf hh_S μ 48 8 22 F = F (.ref 65) := propext ⟨fun h => h.2, fun h => ⟨rfl, h⟩⟩
theorem gf_48_23 {μ : mm_M} {F : Value → Prop} : mm_gf hh_S μ 48 8 23 F = F (.ref 66) := propext ⟨fun h => h.2, fun h => ⟨rfl, h⟩⟩
theorem gf_48_24 {μ : mm_M} {F : Value → Prop} : mm_gf hh_S μ 48 8 24 F = F (.ref 67) := propext ⟨fun h => h.2, fun h => ⟨rfl, h⟩⟩
theorem gf_48_25 {μ : mm_M} {F : Value → Prop} : mm_gf hh_S μ 48 8 25 F = F (.ref 68) := propext ⟨fun h => h.2, fun h => ⟨rfl, h⟩⟩
theorem gf_48_26 {μ : mm_M} {F : Value → Prop} : mm_gf hh_S μ 48 8 26 F = F (.int (μ 48 26)) := propext ⟨fun h => h.2, fun h => ⟨rfl, h⟩⟩
theorem pf_48_26 {F : Prop} : mm_pf hh_S 48 8 26 F = F := propext ⟨fun h => h.2.2, fun h => ⟨rfl, rfl, h⟩⟩
theorem gf_48_27 {μ : mm_M} {F : Value → Prop} : mm_gf hh_S μ 48 8 27 F = F (.int (μ 48 27)) := propext ⟨fun h => h.2, fun h => ⟨rfl, h⟩⟩
theorem pf_48_27 {F : Prop} : mm_pf hh_S 48 8 27 F = F := propext ⟨fun h => h.2.2, fun h => ⟨rfl, rfl, h⟩⟩
theorem gf_48_28 {μ : mm_M} {F : Value → Prop} : mm_gf hh_S μ 48 8 28 F = F (.ref 69) := propext ⟨fun h => h.2, fun h => ⟨rfl, h⟩⟩
theorem gf_48_29 {μ : mm_M} {F : Value → Prop} : mm_gf hh_S μ 48 8 29 F = F (.ref 70) := propext ⟨fun h => h.2, fun h => ⟨rfl, h⟩⟩
theorem gf_48_30 {μ : mm_M} {F : Value → Prop} : mm_gf hh_S μ 48 8 30 F = F (.ref 71) := propext ⟨fun h => h.2, fun h => ⟨rfl, h⟩⟩
theorem gf_48_31 {μ : mm_M} {F : Value → Prop} : mm_gf hh_S μ 48 8 31 F = F (.ref 72) := propext ⟨fun h => h.2, fun h => ⟨rfl, h⟩⟩
theorem gf_48_32 {μ : mm_M} {F : Value → Prop} : mm_gf hh_S μ 48 8 32 F = F (.ref 73) := propext ⟨fun h => h.2, fun h => ⟨rfl, h⟩⟩
theorem gf_48_33 {μ : mm_M} {F : Value → Prop} : mm_gf hh_S μ 48 8 33 F = F (.ref 74) := propext ⟨fun h => h.2, fun h => ⟨rfl, h⟩⟩
theorem gf_48_34 {μ : mm_M} {F : Value → Prop} : mm_gf hh_S μ 48 8 34 F = F (.int (μ 48 34)) := propext ⟨fun h => h.2, fun h => ⟨rfl, h⟩⟩
theorem pf_48_34 {F : Prop} : mm_pf hh_S 48 8 34 F = F := propext ⟨fun h => h.2.2, fun h => ⟨rfl, rfl, h⟩⟩
theorem gf_48_35 {μ : mm_M} {F : Value → Prop} : mm_gf hh_S μ 48 8 35 F = F (.ref 75) := propext ⟨fun h => h.2, fun h => ⟨rfl, h⟩⟩
theorem gf_48_36 {μ : mm_M} {F : Value → Prop} : mm_gf hh_S μ 48 8 36 F = F (.ref 76) := propext ⟨fun h => h.2, fun h => ⟨rfl, h⟩⟩
theorem gf_48_37 {μ : mm_M} {F : Value → Prop} : mm_gf hh_S μ 48 8 37 F = F (.ref 77) := propext ⟨fun h => h.2, fun h => ⟨rfl, h⟩⟩
theorem gf_48_38 {μ : mm_M} {F : Value → Prop} : mm_gf hh_S μ 48 8 38 F = F (.int (μ 48 38)) := propext ⟨fun h => h.2, fun h => ⟨rfl, h⟩⟩
theorem pf_48_38 {F : Prop} : mm_pf hh_S 48 8 38 F = F := propext ⟨fun h => h.2.2, fun h => ⟨rfl, rfl, h⟩⟩
theorem ar_8 {i : Int32} {F : Prop} : mm_ar hh_S 8 false i F = (vp_in i 2 ∧ F) := propext ⟨fun h => h.2, fun h => ⟨rfl, h⟩⟩
theorem al_8 {F : Nat → Prop} : mm_al2 hh_S 8 F = F 2 := propext ⟨fun h => h.2, fun h => ⟨rfl, h⟩⟩
theorem ar_9 {i : Int32} {F : Prop} : mm_ar hh_S 9 false i F = (vp_in i 60 ∧ F) := propext ⟨fun h => h.2, fun h => ⟨rfl, h⟩⟩
theorem al_9 {F : Nat → Prop} : mm_al2 hh_S 9 F = F 60 := propext ⟨fun h => h.2, fun h => ⟨rfl, h⟩⟩
theorem ar_10 {i : Int32} {F : Prop} : mm_ar hh_S 10 false i F = (vp_in i 60 ∧ F) := propext ⟨fun h => h.2, fun h => ⟨rfl, h⟩⟩
theorem al_10 {F : Nat → Prop} : mm_al2 hh_S 10 F = F 60 := propext ⟨fun h => h.2, fun h => ⟨rfl, h⟩⟩
theorem ar_11 {i : Int32} {F : Prop} : mm_ar hh_S 11 false i F = (vp_in i 60 ∧ F) := propext ⟨fun h => h.2, fun h => ⟨rfl, h⟩⟩
theorem al_11 {F : Nat → Prop} : mm_al2 hh_S 11 F = F 60 := propext ⟨fun h => h.2, fun h => ⟨rfl, h⟩⟩
theorem ar_12 {i : Int32} {F : Prop} : mm_ar hh_S 12 true i F = (vp_in i 60 ∧ F) := propext ⟨fun h => h.2, fun h => ⟨rfl, h⟩⟩
theorem ar_13 {i : Int32} {F : Prop} : mm_ar hh_S 13 true i F = (vp_in i 60 ∧ F) := propext ⟨fun h => h.2, fun h => ⟨rfl, h⟩⟩
theorem ar_14 {i : Int32} {F : Prop} : mm_ar hh_S 14 false i F = (vp_in i 60 ∧ F) := propext ⟨fun h => h.2, fun h => ⟨rfl, h⟩⟩
theorem al_14 {F : Nat → Prop} : mm_al2 hh_S 14 F = F 60 := propext ⟨fun h => h.2, fun h => ⟨rfl, h⟩⟩
theorem ar_15 {i : Int32} {F : Prop} : mm_ar hh_S 15 true i F = (vp_in i 4 ∧ F) := propext ⟨fun h => h.2, fun h => ⟨rfl, h⟩⟩
theorem ar_16 {i : Int32} {F : Prop} : mm_ar hh_S 16 false i F = (vp_in i 4 ∧ F) := propext ⟨fun h => h.2, fun h => ⟨rfl, h⟩⟩
theorem al_16 {F : Nat → Prop} : mm_al2 hh_S 16 F = F 4 := propext ⟨fun h => h.2, fun h => ⟨rfl, h⟩⟩
theorem ar_17 {i : Int32} {F : Prop} : mm_ar hh_S 17 false i F = (vp_in i 4 ∧ F) := propext ⟨fun h => h.2, fun h => ⟨rfl, h⟩⟩
theorem al_17 {F : Nat → Prop} : mm_al2 hh_S 17 F = F 4 := propext ⟨fun h => h.2, fun h => ⟨rfl, h⟩⟩
theorem ar_18 {i : Int32} {F : Prop} : mm_ar hh_S 18 false i F = (vp_in i 4 ∧ F) := propext ⟨fun h => h.2, fun h => ⟨rfl, h⟩⟩
theorem al_18 {F : Nat → Prop} : mm_al2 hh_S 18 F = F 4 := propext ⟨fun h => h.2, fun h => ⟨rfl, h⟩⟩
theorem ar_19 {i : Int32} {F : Prop} : mm_ar hh_S 19 false i F = (vp_in i 4 ∧ F) := propext ⟨fun h => h.2, fun h => ⟨rfl, h⟩⟩
theorem al_19 {F : Nat → Prop} : mm_al2 hh_S 19 F = F 4 := propext ⟨fun h => h.2, fun h => ⟨rfl, h⟩⟩
theorem ar_20 {i : Int32} {F : Prop} : mm_ar hh_S 20 false i F = (vp_in i 4 ∧ F) := propext ⟨fun h => h.2, fun h => ⟨rfl, h⟩⟩
theorem al_20 {F : Nat → Prop} : mm_al2 hh_S 20 F = F 4 := propext ⟨fun h => h.2, fun h => ⟨rfl, h⟩⟩
theorem ar_21 {i : Int32} {F : Prop} : mm_ar hh_S 21 true i F = (vp_in i 3 ∧ F) := propext ⟨fun h => h.2, fun h => ⟨rfl, h⟩⟩
theorem ar_22 {i : Int32} {F : Prop} : mm_ar hh_S 22 false i F = (vp_in i 3 ∧ F) := propext ⟨fun h => h.2, fun h => ⟨rfl, h⟩⟩
theorem al_22 {F : Nat → Prop} : mm_al2 hh_S 22 F = F 3 := propext ⟨fun h => h.2, fun h => ⟨rfl, h⟩⟩
theorem ar_23 {i : Int32} {F : Prop} : mm_ar hh_S 23 false i F = (vp_in i 3 ∧ F) := propext ⟨fun h => h.2, fun h => ⟨rfl, h⟩⟩
theorem al_23 {F : Nat → Prop} : mm_al2 hh_S 23 F = F 3 := propext ⟨fun h => h.2, fun h => ⟨rfl, h⟩⟩
theorem ar_24 {i : Int32} {F : Prop} : mm_ar hh_S 24 false i F = (vp_in i 3 ∧ F) := propext ⟨fun h => h.2, fun h => ⟨rfl, h⟩⟩
theorem al_24 {F : Nat → Prop} : mm_al2 hh_S 24 F = F 3 := propext ⟨fun h => h.2, fun h => ⟨rfl, h⟩⟩
theorem ar_25 {i : Int32} {F : Prop} : mm_ar hh_S 25 false i F = (vp_in i 3 ∧ F) := propext ⟨fun h => h.2, fun h => ⟨rfl, h⟩⟩
theorem al_25 {F : Nat → Prop} : mm_al2 hh_S 25 F = F 3 := propext ⟨fun h => h.2, fun h => ⟨rfl, h⟩⟩
theorem ar_26 {i : Int32} {F : Prop} : mm_ar hh_S 26 false i F = (vp_in i 3 ∧ F) := propext ⟨fun h => h.2, fun h => ⟨rfl, h⟩⟩
theorem al_26 {F : Nat → Prop} : mm_al2 hh_S 26 F = F 3 := propext ⟨fun h => h.2, fun h => ⟨rfl, h⟩⟩
theorem ar_27 {i : Int32} {F : Prop} : mm_ar hh_S 27 false i F = (vp_in i 180 ∧ F) := propext ⟨fun h => h.2, fun h => ⟨rfl, h⟩⟩
theorem al_27 {F : Nat → Prop} : mm_al2 hh_S 27 F = F 180 := propext ⟨fun h => h.2, fun h => ⟨rfl, h⟩⟩
theorem ar_28 {i : Int32} {F : Prop} : mm_ar hh_S 28 false i F = (vp_in i 100 ∧ F) := propext ⟨fun h => h.2, fun h => ⟨rfl, h⟩⟩
theorem al_28 {F : Nat → Prop} : mm_al2 hh_S 28 F = F 100 := propext ⟨fun h => h.2, fun h => ⟨rfl, h⟩⟩
theorem ar_29 {i : Int32} {F : Prop} : mm_ar hh_S 29 false i F = (vp_in i 100 ∧ F) := propext ⟨fun h => h.2, fun h => ⟨rfl, h⟩⟩
theorem al_29 {F : Nat → Prop} : mm_al2 hh_S 29 F = F 100 := propext ⟨fun h => h.2, fun h => ⟨rfl, h⟩⟩
theorem ar_30 {i : Int32} {F : Prop} : mm_ar hh_S 30 false i F = (vp_in i 100 ∧ F) := propext ⟨fun h => h.2, fun h => ⟨rfl, h⟩⟩
theorem al_30 {F : Nat → Prop} : mm_al2 hh_S 30 F = F 100 := propext ⟨fun h => h.2, fun h => ⟨rfl, h⟩⟩
theorem ar_31 {i : Int32} {F : Prop} : mm_ar hh_S 31 false i F = (vp_in i 100 ∧ F) := propext ⟨fun h => h.2, fun h => ⟨rfl, h⟩⟩
theorem al_31 {F : Nat → Prop} : mm_al2 hh_S 31 F = F 100 := propext ⟨fun h => h.2, fun h => ⟨rfl, h⟩⟩
theorem ar_32 {i : Int32} {F : Prop} : mm_ar hh_S 32 false i F = (vp_in i 100 ∧ F) := propext ⟨fun h => h.2, fun h => ⟨rfl, h⟩⟩
theorem al_32 {F : Nat → Prop} : mm_al2 hh_S 32 F = F 100 := propext ⟨fun h => h.2, fun h => ⟨rfl, h⟩⟩
theorem ar_33 {i : Int32} {F : Prop} : mm_ar hh_S 33 true i F = (vp_in i 100 ∧ F) := propext ⟨fun h => h.2, fun h => ⟨rfl, h⟩⟩
theorem ar_34 {i : Int32} {F : Prop} : mm_ar hh_S 34 false i F = (vp_in i 6000 ∧ F) := propext ⟨fun h => h.2, fun h => ⟨rfl, h⟩⟩
theorem al_34 {F : Nat → Prop} : mm_al2 hh_S 34 F = F 6000 := propext ⟨fun h => h.2, fun h => ⟨rfl, h⟩⟩
theorem ar_35 {i : Int32} {F : Prop} : mm_ar hh_S 35 false i F = (vp_in i 20 ∧ F) := propext ⟨fun h => h.2, fun h => ⟨rfl, h⟩⟩
theorem al_35 {F : Nat → Prop} : mm_al2 hh_S 35 F = F 20 := propext ⟨fun h => h.2, fun h => ⟨rfl, h⟩⟩
theorem ar_36 {i : Int32} {F : Prop} : mm_ar hh_S 36 false i F = (vp_in i 20 ∧ F) := propext ⟨fun h => h.2, fun h => ⟨rfl, h⟩⟩
theorem al_36 {F : Nat → Prop} : mm_al2 hh_S 36 F = F 20 := propext ⟨fun h => h.2, fun h => ⟨rfl, h⟩⟩
theorem ar_37 {i : Int32} {F : Prop} : mm_ar hh_S 37 false i F = (vp_in i 20 ∧ F) := propext ⟨fun h => h.2, fun h => ⟨rfl, h⟩⟩
theorem al_37 {F : Nat → Prop} : mm_al2 hh_S 37 F = F 20 := propext ⟨fun h => h.2, fun h => ⟨rfl, h⟩⟩
theorem ar_38 {i : Int32} {F : Prop} : mm_ar hh_S 38 false i F = (vp_in i 20 ∧ F) := propext ⟨fun h => h.2, fun h => ⟨rfl, h⟩⟩
theorem al_38 {F : Nat → Prop} : mm_al2 hh_S 38 F = F 20 := propext ⟨fun h => h.2, fun h => ⟨rfl, h⟩⟩
theorem ar_39 {i : Int32} {F : Prop} : mm_ar hh_S 39 false i F = (vp_in i 20 ∧ F) := propext ⟨fun h => h.2, fun h => ⟨rfl, h⟩⟩
theorem al_39 {F : Nat → Prop} : mm_al2 hh_S 39 F = F 20 := propext ⟨fun h => h.2, fun h => ⟨rfl, h⟩⟩
theorem ar_40 {i : Int32} {F : Prop} : mm_ar hh_S 40 true i F = (vp_in i 20 ∧ F) := propext ⟨fun h => h.2, fun h => ⟨rfl, h⟩⟩
theorem ar_41 {i : Int32} {F : Prop} : mm_ar hh_S 41 false i F = (vp_in i 20 ∧ F) := propext ⟨fun h => h.2, fun h => ⟨rfl, h⟩⟩
theorem al_41 {F : Nat → Prop} : mm_al2 hh_S 41 F = F 20 := propext ⟨fun h => h.2, fun h => ⟨rfl, h⟩⟩
theorem ar_42 {i : Int32} {F : Prop} : mm_ar hh_S 42 false i F = (vp_in i 3 ∧ F) := propext ⟨fun h => h.2, fun h => ⟨rfl, h⟩⟩
theorem al_42 {F : Nat → Prop} : mm_al2 hh_S 42 F = F 3 := propext ⟨fun h => h.2, fun h => ⟨rfl, h⟩⟩
theorem ar_43 {i : Int32} {F : Prop} : mm_ar hh_S 43 false i F = (vp_in i 2 ∧ F) := propext ⟨fun h => h.2, fun h => ⟨rfl, h⟩⟩
theorem al_43 {F : Nat → Prop} : mm_al2 hh_S 43 F = F 2 := propext ⟨fun h => h.2, fun h => ⟨rfl, h⟩⟩
theorem ar_44 {i : Int32} {F : Prop} : mm_ar hh_S 44 false i F = (vp_in i 8 ∧ F) := propext ⟨fun h => h.2, fun h => ⟨rfl, h⟩⟩
theorem al_44 {F : Nat → Prop} : mm_al2 hh_S 44 F = F 8 := propext ⟨fun h => h.2, fun h => ⟨rfl, h⟩⟩
theorem ar_45 {i : Int32} {F : Prop} : mm_ar hh_S 45 false i F = (vp_in i 5 ∧ F) := propext ⟨fun h => h.2, fun h => ⟨rfl, h⟩⟩
theorem al_45 {F : Nat → Prop} : mm_al2 hh_S 45 F = F 5 := propext ⟨fun h => h.2, fun h => ⟨rfl, h⟩⟩
theorem ar_46 {i : Int32} {F : Prop} : mm_ar hh_S 46 false i F = (vp_in i 4 ∧ F) := propext ⟨fun h => h.2, fun h => ⟨rfl, h⟩⟩
theorem al_46 {F : Nat → Prop} : mm_al2 hh_S 46 F = F 4 := propext ⟨fun h => h.2, fun h => ⟨rfl, h⟩⟩
theorem ar_47 {i : Int32} {F : Prop} : mm_ar hh_S 47 false i F = (vp_in i 4 ∧ F) := propext ⟨fun h => h.2, fun h => ⟨rfl, h⟩⟩
theorem al_47 {F : Nat → Prop} : mm_al2 hh_S 47 F = F 4 := propext ⟨fun h => h.2, fun h => ⟨rfl, h⟩⟩
theorem ar_49 {i : Int32} {F : Prop} : mm_ar hh_S 49 false i F = (vp_in i 60 ∧ F) := propext ⟨fun h => h.2, fun h => ⟨rfl, h⟩⟩
theorem al_49 {F : Nat → Prop} : mm_al2 hh_S 49 F = F 60 := propext ⟨fun h => h.2, fun h => ⟨rfl, h⟩⟩
theorem ar_50 {i : Int32} {F : Prop} : mm_ar hh_S 50 false i F = (vp_in i 60 ∧ F) := propext ⟨fun h => h.2, fun h => ⟨rfl, h⟩⟩
theorem al_50 {F : Nat → Prop} : mm_al2 hh_S 50 F = F 60 := propext ⟨fun h => h.2, fun h => ⟨rfl, h⟩⟩
theorem ar_51 {i : Int32} {F : Prop} : mm_ar hh_S 51 false i F = (vp_in i 60 ∧ F) := propext ⟨fun h => h.2, fun h => ⟨rfl, h⟩⟩
theorem al_51 {F : Nat → Prop} : mm_al2 hh_S 51 F = F 60 := propext ⟨fun h => h.2, fun h => ⟨rfl, h⟩⟩
theorem ar_52 {i : Int32} {F : Prop} : mm_ar hh_S 52 true i F = (vp_in i 60 ∧ F) := propext ⟨fun h => h.2, fun h => ⟨rfl, h⟩⟩
theorem ar_53 {i : Int32} {F : Prop} : mm_ar hh_S 53 true i F = (vp_in i 60 ∧ F) := propext ⟨fun h => h.2, fun h => ⟨rfl, h⟩⟩
theorem ar_54 {i : Int32} {F : Prop} : mm_ar hh_S 54 false i F = (vp_in i 4 ∧ F) := propext ⟨fun h => h.2, fun h => ⟨rfl, h⟩⟩
theorem al_54 {F : Nat → Prop} : mm_al2 hh_S 54 F = F 4 := propext ⟨fun h => h.2, fun h => ⟨rfl, h⟩⟩
theorem ar_55 {i : Int32} {F : Prop} : mm_ar hh_S 55 false i F = (vp_in i 4 ∧ F) := propext ⟨fun h => h.2, fun h => ⟨rfl, h⟩⟩
theorem al_55 {F : Nat → Prop} : mm_al2 hh_S 55 F = F 4 := propext ⟨fun h => h.2, fun h => ⟨rfl, h⟩⟩
theorem ar_56 {i : Int32} {F : Prop} : mm_ar hh_S 56 false i F = (vp_in i 2 ∧ F) := propext ⟨fun h => h.2, fun h => ⟨rfl, h⟩⟩
theorem al_56 {F : Nat → Prop} : mm_al2 hh_S 56 F = F 2 := propext ⟨fun h => h.2, fun h => ⟨rfl, h⟩⟩
theorem ar_57 {i : Int32} {F : Prop} : mm_ar hh_S 57 false i F = (vp_in i 3 ∧ F) := propext ⟨fun h => h.2, fun h => ⟨rfl, h⟩⟩
theorem al_57 {F : Nat → Prop} : mm_al2 hh_S 57 F = F 3 := propext ⟨fun h => h.2, fun h => ⟨rfl, h⟩⟩
theorem ar_58 {i : Int32} {F : Prop} : mm_ar hh_S 58 false i F = (vp_in i 3 ∧ F) := propext ⟨fun h => h.2, fun h => ⟨rfl, h⟩⟩
theorem al_58 {F : Nat → Prop} : mm_al2 hh_S 58 F = F 3 := propext ⟨fun h => h.2, fun h => ⟨rfl, h⟩⟩
theorem ar_59 {i : Int32} {F : Prop} : mm_ar hh_S 59 false i F = (vp_in i 3 ∧ F) := propext ⟨fun h => h.2, fun h => ⟨rfl, h⟩⟩
theorem al_59 {F : Nat → Prop} : mm_al2 hh_S 59 F = F 3 := propext ⟨fun h => h.2, fun h => ⟨rfl, h⟩⟩
theorem ar_60 {i : Int32} {F : Prop} : mm_ar hh_S 60 false i F = (vp_in i 3 ∧ F) := propext ⟨fun h => h.2, fun h => ⟨rfl, h⟩⟩
theorem al_60 {F : Nat → Prop} : mm_al2 hh_S 60 F = F 3 := propext ⟨fun h => h.2, fun h => ⟨rfl, h⟩⟩
theorem ar_61 {i : Int32} {F : Prop} : mm_ar hh_S 61 false i F = (vp_in i 180 ∧ F) := propext ⟨fun h => h.2, fun h => ⟨rfl, h⟩⟩
theorem al_61 {F : Nat → Prop} : mm_al2 hh_S 61 F = F 180 := propext ⟨fun h => h.2, fun h => ⟨rfl, h⟩⟩
theorem ar_62 {i : Int32} {F : Prop} : mm_ar hh_S 62 false i F = (vp_in i 100 ∧ F) := propext ⟨fun h => h.2, fun h => ⟨rfl, h⟩⟩
theorem al_62 {F : Nat → Prop} : mm_al2 hh_S 62 F = F 100 := propext ⟨fun h => h.2, fun h => ⟨rfl, h⟩⟩
theorem ar_63 {i : Int32} {F : Prop} : mm_ar hh_S 63 false i F = (vp_in i 100 ∧ F) := propext ⟨fun h => h.2, fun h => ⟨rfl, h⟩⟩
theorem al_63 {F : Nat → Prop} : mm_al2 hh_S 63 F = F 100 := propext ⟨fun h => h.2, fun h => ⟨rfl, h⟩⟩
theorem ar_64 {i : Int32} {F : Prop} : mm_ar hh_S 64 false i F = (vp_in i 100 ∧ F) := propext ⟨fun h => h.2, fun h => ⟨rfl, h⟩⟩
theorem al_64 {F : Nat → Prop} : mm_al2 hh_S 64 F = F 100 := propext ⟨fun h => h.2, fun h => ⟨rfl, h⟩⟩
theorem ar_65 {i : Int32} {F : Prop} : mm_ar hh_S 65 false i F = (vp_in i 100 ∧ F) := propext ⟨fun h => h.2, fun h => ⟨rfl, h⟩⟩
theorem al_65 {F : Nat → Prop} : mm_al2 hh_S 65 F = F 100 := propext ⟨fun h => h.2, fun h => ⟨rfl, h⟩⟩
theorem ar_66 {i : Int32} {F : Prop} : mm_ar hh_S 66 true i F = (vp_in i 100 ∧ F) := propext ⟨fun h => h.2, fun h => ⟨rfl, h⟩⟩
theorem ar_67 {i : Int32} {F : Prop} : mm_ar hh_S 67 false i F = (vp_in i 100 ∧ F) := propext ⟨fun h => h.2, fun h => ⟨rfl, h⟩⟩
theorem al_67 {F : Nat → Prop} : mm_al2 hh_S 67 F = F 100 := propext ⟨fun h => h.2, fun h => ⟨rfl, h⟩⟩
theorem ar_68 {i : Int32} {F : Prop} : mm_ar hh_S 68 false i F = (vp_in i 6000 ∧ F) := propext ⟨fun h => h.2, fun h => ⟨rfl, h⟩⟩
theorem al_68 {F : Nat → Prop} : mm_al2 hh_S 68 F = F 6000 := propext ⟨fun h => h.2, fun h => ⟨rfl, h⟩⟩
theorem ar_69 {i : Int32} {F : Prop} : mm_ar hh_S 69 false i F = (vp_in i 20 ∧ F) := propext ⟨fun h => h.2, fun h => ⟨rfl, h⟩⟩
theorem al_69 {F : Nat → Prop} : mm_al2 hh_S 69 F = F 20 := propext ⟨fun h => h.2, fun h => ⟨rfl, h⟩⟩
theorem ar_70 {i : Int32} {F : Prop} : mm_ar hh_S 70 false i F = (vp_in i 20 ∧ F) := propext ⟨fun h => h.2, fun h => ⟨rfl, h⟩⟩
theorem al_70 {F : Nat → Prop} : mm_al2 hh_S 70 F = F 20 := propext ⟨fun h => h.2, fun h => ⟨rfl, h⟩⟩
theorem ar_71 {i : Int32} {F : Prop} : mm_ar hh_S 71 false i F = (vp_in i 20 ∧ F) := propext ⟨fun h => h.2, fun h => ⟨rfl, h⟩⟩
theorem al_71 {F : Nat → Prop} : mm_al2 hh_S 71 F = F 20 := propext ⟨fun h => h.2, fun h => ⟨rfl, h⟩⟩
theorem ar_72 {i : Int32} {F : Prop} : mm_ar hh_S 72 false i F = (vp_in i 20 ∧ F) := propext ⟨fun h => h.2, fun h => ⟨rfl, h⟩⟩
theorem al_72 {F : Nat → Prop} : mm_al2 hh_S 72 F = F 20 := propext ⟨fun h => h.2, fun h => ⟨rfl, h⟩⟩
theorem ar_73 {i : Int32} {F : Prop} : mm_ar hh_S 73 false i F = (vp_in i 20 ∧ F) := propext ⟨fun h => h.2, fun h => ⟨rfl, h⟩⟩
theorem al_73 {F : Nat → Prop} : mm_al2 hh_S 73 F = F 20 := propext ⟨fun h => h.2, fun h => ⟨rfl, h⟩⟩
theorem ar_74 {i : Int32} {F : Prop} : mm_ar hh_S 74 true i F = (vp_in i 20 ∧ F) := propext ⟨fun h => h.2, fun h => ⟨rfl, h⟩⟩
theorem ar_75 {i : Int32} {F : Prop} : mm_ar hh_S 75 false i F = (vp_in i 3 ∧ F) := propext ⟨fun h => h.2, fun h => ⟨rfl, h⟩⟩
theorem al_75 {F : Nat → Prop} : mm_al2 hh_S 75 F = F 3 := propext ⟨fun h => h.2, fun h => ⟨rfl, h⟩⟩
theorem ar_76 {i : Int32} {F : Prop} : mm_ar hh_S 76 false i F = (vp_in i 4 ∧ F) := propext ⟨fun h => h.2, fun h => ⟨rfl, h⟩⟩
theorem al_76 {F : Nat → Prop} : mm_al2 hh_S 76 F = F 4 := propext ⟨fun h => h.2, fun h => ⟨rfl, h⟩⟩
theorem ar_77 {i : Int32} {F : Prop} : mm_ar hh_S 77 false i F = (vp_in i 4 ∧ F) := propext ⟨fun h => h.2, fun h => ⟨rfl, h⟩⟩
theorem al_77 {F : Nat → Prop} : mm_al2 hh_S 77 F = F 4 := propext ⟨fun h => h.2, fun h => ⟨rfl, h⟩⟩
theorem wl_0_0 {Sh : List mm_C} {scr : Option (Nat × (Nat → Int32))} {rb : Bool} {Cs : Nat → List Value → mm_M → (Int32 → mm_M → Prop) → (mm_M → Prop) → Prop} {K : Nat → mm_L → List Value → mm_M → Prop} {RI : Int32 → mm_M → Prop} {RV : mm_M → Prop} {cut : Nat → Bool} {n : Nat} {loc : mm_L} {st : List Value} {μ : mm_M} : mm_wp Sh scr rb Cs K RI RV lab_0 cut (n + 1) 0 loc st μ = (if cut 0 = true then K 0 loc st μ else mm_wpB Sh scr rb Cs (mm_wp Sh scr rb Cs K RI RV lab_0 cut n) RI RV [(some (.iload_n 1), 0, 0, [], 0), (some (.iconst 0), 0, 0, [], 0), (some (.aload_n 0), 0, 0, [], 0), (some (.getfield 34), 0, 7, [], 0), (some (.iconst 1), 0, 0, [], 1), (some (.isub), 0, 0, [], 0), (some (.invokestatic 38), 65, 3, [], 0), (some (.ireturn), 0, 0, [], 0)] loc st μ) := by
  unfold mm_wp
  by_cases h : cut 0 = true
  · rw [if_pos h, if_pos h]
  · rw [if_neg h, if_neg h]; rfl
theorem wl_1_0 {Sh : List mm_C} {scr : Option (Nat × (Nat → Int32))} {rb : Bool} {Cs : Nat → List Value → mm_M → (Int32 → mm_M → Prop) → (mm_M → Prop) → Prop} {K : Nat → mm_L → List Value → mm_M → Prop} {RI : Int32 → mm_M → Prop} {RV : mm_M → Prop} {cut : Nat → Bool} {n : Nat} {loc : mm_L} {st : List Value} {μ : mm_M} : mm_wp Sh scr rb Cs K RI RV lab_1 cut (n + 1) 0 loc st μ = (if cut 0 = true then K 0 loc st μ else mm_wpB Sh scr rb Cs (mm_wp Sh scr rb Cs K RI RV lab_1 cut n) RI RV [(some (.aload_n 0), 0, 0, [], 0), (some (.getfield 34), 0, 7, [], 0), (some (.bipush 100), 0, 0, [], 100), (some (.if_icmp .lt 5), 11, 0, [], 0), (some (.iconst (-1)), 0, 0, [], (-1)), (some (.ireturn), 0, 0, [], 0)] loc st μ) := by
  unfold mm_wp
  by_cases h : cut 0 = true
  · rw [if_pos h, if_pos h]
  · rw [if_neg h, if_neg h]; rfl
theorem wl_1_11 {Sh : List mm_C} {scr : Option (Nat × (Nat → Int32))} {rb : Bool} {Cs : Nat → List Value → mm_M → (Int32 → mm_M → Prop) → (mm_M → Prop) → Prop} {K : Nat → mm_L → List Value → mm_M → Prop} {RI : Int32 → mm_M → Prop} {RV : mm_M → Prop} {cut : Nat → Bool} {n : Nat} {loc : mm_L} {st : List Value} {μ : mm_M} : mm_wp Sh scr rb Cs K RI RV lab_1 cut (n + 1) 11 loc st μ = (if cut 11 = true then K 11 loc st μ else mm_wpB Sh scr rb Cs (mm_wp Sh scr rb Cs K RI RV lab_1 cut n) RI RV [(some (.aload_n 0), 0, 0, [], 0), (some (.getfield 34), 0, 7, [], 0), (some (.istore_n 3), 0, 0, [], 0), (some (.aload_n 0), 0, 0, [], 0), (some (.getfield 9), 0, 0, [], 0), (some (.iload_n 3), 0, 0, [], 0), (some (.aload_n 1), 0, 0, [], 0), (some (.getfield 42), 2, 0, [], 0), (some (.iload_n 2), 0, 0, [], 0), (some (.iaload), 0, 0, [], 0), (some (.iastore), 0, 0, [], 0), (some (.aload_n 0), 0, 0, [], 0), (some (.getfield 15), 0, 1, [], 0), (some (.iload_n 3), 0, 0, [], 0), (some (.aload_n 1), 0, 0, [], 0), (some (.getfield 45), 2, 1, [], 0), (some (.iload_n 2), 0, 0, [], 0), (some (.iaload), 0, 0, [], 0), (some (.iastore), 0, 0, [], 0), (some (.aload_n 0), 0, 0, [], 0), (some (.getfield 18), 0, 2, [], 0), (some (.iload_n 3), 0, 0, [], 0), (some (.aload_n 1), 0, 0, [], 0), (some (.getfield 45), 2, 1, [], 0), (some (.iload_n 2), 0, 0, [], 0), (some (.iaload), 0, 0, [], 0), (some (.iastore), 0, 0, [], 0), (some (.aload_n 0), 0, 0, [], 0), (some (.getfield 21), 0, 3, [], 0), (some (.iload_n 3), 0, 0, [], 0), (some (.aload_n 1), 0, 0, [], 0), (some (.getfield 46), 2, 2, [], 0), (some (.iload_n 2), 0, 0, [], 0), (some (.iaload), 0, 0, [], 0), (some (.iastore), 0, 0, [], 0), (some (.aload_n 1), 0, 0, [], 0), (some (.getfield 47), 2, 4, [], 0), (some (.iload_n 2), 0, 0, [], 0), (some (.bipush 60), 0, 0, [], 60), (some (.imul), 0, 0, [], 0), (some (.aload_n 0), 0, 0, [], 0), (some (.getfield 31), 0, 6, [], 0), (some (.iload_n 3), 0, 0, [], 0), (some (.bipush 60), 0, 0, [], 60), (some (.imul), 0, 0, [], 0), (some (.bipush 60), 0, 0, [], 60), (some (.invokestatic 48), 1002, 0, [], 0), (some (.aload_n 0), 0, 0, [], 0), (some (.dup), 0, 0, [], 0), (some (.getfield 54), 0, 8, [], 0), (some (.aload_n 1), 0, 0, [], 0), (some (.getfield 57), 2, 3, [], 0), (some (.iload_n 2), 0, 0, [], 0), (some (.iaload), 0, 0, [], 0), (some (.iadd), 0, 0, [], 0), (some (.putfield 54), 0, 8, [], 0), (some (.aload_n 0), 0, 0, [], 0), (some (.dup), 0, 0, [], 0), (some (.getfield 34), 0, 7, [], 0), (some (.iconst 1), 0, 0, [], 1), (some (.iadd), 0, 0, [], 0), (some (.putfield 34), 0, 7, [], 0), (some (.iload_n 3), 0, 0, [], 0), (some (.ireturn), 0, 0, [], 0)] loc st μ) := by
  unfold mm_wp
  by_cases h : cut 11 = true
  · rw [if_pos h, if_pos h]
  · rw [if_neg h, if_neg h]; rfl
theorem wl_2_0 {Sh : List mm_C} {scr : Option (Nat × (Nat → Int32))} {rb : Bool} {Cs : Nat → List Value → mm_M → (Int32 → mm_M → Prop) → (mm_M → Prop) → Prop} {K : Nat → mm_L → List Value → mm_M → Prop} {RI : Int32 → mm_M → Prop} {RV : mm_M → Prop} {cut : Nat → Bool} {n : Nat} {loc : mm_L} {st : List Value} {μ : mm_M} : mm_wp Sh scr rb Cs K RI RV lab_2 cut (n + 1) 0 loc st μ = (if cut 0 = true then K 0 loc st μ else mm_wpB Sh scr rb Cs (mm_wp Sh scr rb Cs K RI RV lab_2 cut n) RI RV [(some (.aload_n 0), 0, 0, [], 0), (some (.getfield 9), 0, 0, [], 0), (some (.iload_n 1), 0, 0, [], 0), (some (.iaload), 0, 0, [], 0), (some (.iload_n 2), 0, 0, [], 0), (some (.if_icmp .ne 16), 23, 0, [], 0), (some (.aload_n 0), 0, 0, [], 0), (some (.getfield 27), 0, 5, [], 0), (some (.iload_n 1), 0, 0, [], 0), (some (.baload), 0, 0, [], 0), (some (.ifCond .ne 7), 23, 0, [], 0), (some (.iconst 1), 0, 0, [], 1), (some (.goto 4), 24, 0, [], 0)] loc st μ) := by
  unfold mm_wp
  by_cases h : cut 0 = true
  · rw [if_pos h, if_pos h]
  · rw [if_neg h, if_neg h]; rfl
theorem wl_2_23 {Sh : List mm_C} {scr : Option (Nat × (Nat → Int32))} {rb : Bool} {Cs : Nat → List Value → mm_M → (Int32 → mm_M → Prop) → (mm_M → Prop) → Prop} {K : Nat → mm_L → List Value → mm_M → Prop} {RI : Int32 → mm_M → Prop} {RV : mm_M → Prop} {cut : Nat → Bool} {n : Nat} {loc : mm_L} {st : List Value} {μ : mm_M} : mm_wp Sh scr rb Cs K RI RV lab_2 cut (n + 1) 23 loc st μ = (if cut 23 = true then K 23 loc st μ else mm_wpB Sh scr rb Cs (mm_wp Sh scr rb Cs K RI RV lab_2 cut n) RI RV [(some (.iconst 0), 0, 0, [], 0), (none, 24, 0, [], 0)] loc st μ) := by
  unfold mm_wp
  by_cases h : cut 23 = true
  · rw [if_pos h, if_pos h]
  · rw [if_neg h, if_neg h]; rfl
theorem wl_2_24 {Sh : List mm_C} {scr : Option (Nat × (Nat → Int32))} {rb : Bool} {Cs : Nat → List Value → mm_M → (Int32 → mm_M → Prop) → (mm_M → Prop) → Prop} {K : Nat → mm_L → List Value → mm_M → Prop} {RI : Int32 → mm_M → Prop} {RV : mm_M → Prop} {cut : Nat → Bool} {n : Nat} {loc : mm_L} {st : List Value} {μ : mm_M} : mm_wp Sh scr rb Cs K RI RV lab_2 cut (n + 1) 24 loc st μ = (if cut 24 = true then K 24 loc st μ else mm_wpB Sh scr rb Cs (mm_wp Sh scr rb Cs K RI RV lab_2 cut n) RI RV [(some (.ireturn), 0, 0, [], 0)] loc st μ) := by
  unfold mm_wp
  by_cases h : cut 24 = true
  · rw [if_pos h, if_pos h]
  · rw [if_neg h, if_neg h]; rfl
theorem wl_3_0 {Sh : List mm_C} {scr : Option (Nat × (Nat → Int32))} {rb : Bool} {Cs : Nat → List Value → mm_M → (Int32 → mm_M → Prop) → (mm_M → Prop) → Prop} {K : Nat → mm_L → List Value → mm_M → Prop} {RI : Int32 → mm_M → Prop} {RV : mm_M → Prop} {cut : Nat → Bool} {n : Nat} {loc : mm_L} {st : List Value} {μ : mm_M} : mm_wp Sh scr rb Cs K RI RV lab_3 cut (n + 1) 0 loc st μ = (if cut 0 = true then K 0 loc st μ else mm_wpB Sh scr rb Cs (mm_wp Sh scr rb Cs K RI RV lab_3 cut n) RI RV [(some (.iconst 0), 0, 0, [], 0), (some (.istore_n 2), 0, 0, [], 0), (some (.iconst 0), 0, 0, [], 0), (some (.istore_n 3), 0, 0, [], 0), (none, 4, 0, [], 0)] loc st μ) := by
  unfold mm_wp
  by_cases h : cut 0 = true
  · rw [if_pos h, if_pos h]
  · rw [if_neg h, if_neg h]; rfl
theorem wl_3_4 {Sh : List mm_C} {scr : Option (Nat × (Nat → Int32))} {rb : Bool} {Cs : Nat → List Value → mm_M → (Int32 → mm_M → Prop) → (mm_M → Prop) → Prop} {K : Nat → mm_L → List Value → mm_M → Prop} {RI : Int32 → mm_M → Prop} {RV : mm_M → Prop} {cut : Nat → Bool} {n : Nat} {loc : mm_L} {st : List Value} {μ : mm_M} : mm_wp Sh scr rb Cs K RI RV lab_3 cut (n + 1) 4 loc st μ = (if cut 4 = true then K 4 loc st μ else mm_wpB Sh scr rb Cs (mm_wp Sh scr rb Cs K RI RV lab_3 cut n) RI RV [(some (.iload_n 3), 0, 0, [], 0), (some (.aload_n 0), 0, 0, [], 0), (some (.getfield 34), 0, 7, [], 0), (some (.if_icmp .ge 27), 36, 0, [], 0), (some (.aload_n 0), 0, 0, [], 0), (some (.iload_n 3), 0, 0, [], 0), (some (.iload_n 1), 0, 0, [], 0), (some (.invokevirtual 59), 2, 3, [], 0), (some (.ifCond .eq 12), 30, 0, [], 0), (some (.iload_n 2), 0, 0, [], 0), (some (.aload_n 0), 0, 0, [], 0), (some (.getfield 18), 0, 2, [], 0), (some (.iload_n 3), 0, 0, [], 0), (some (.iaload), 0, 0, [], 0), (some (.iadd), 0, 0, [], 0), (some (.istore_n 2), 0, 0, [], 0), (none, 30, 0, [], 0)] loc st μ) := by
  unfold mm_wp
  by_cases h : cut 4 = true
  · rw [if_pos h, if_pos h]
  · rw [if_neg h, if_neg h]; rfl
theorem wl_3_30 {Sh : List mm_C} {scr : Option (Nat × (Nat → Int32))} {rb : Bool} {Cs : Nat → List Value → mm_M → (Int32 → mm_M → Prop) → (mm_M → Prop) → Prop} {K : Nat → mm_L → List Value → mm_M → Prop} {RI : Int32 → mm_M → Prop} {RV : mm_M → Prop} {cut : Nat → Bool} {n : Nat} {loc : mm_L} {st : List Value} {μ : mm_M} : mm_wp Sh scr rb Cs K RI RV lab_3 cut (n + 1) 30 loc st μ = (if cut 30 = true then K 30 loc st μ else mm_wpB Sh scr rb Cs (mm_wp Sh scr rb Cs K RI RV lab_3 cut n) RI RV [(some (.iinc 3 1), 0, 0, [], 1), (some (.goto (-29)), 4, 0, [], 0)] loc st μ) := by
  unfold mm_wp
  by_cases h : cut 30 = true
  · rw [if_pos h, if_pos h]
  · rw [if_neg h, if_neg h]; rfl
theorem wl_3_36 {Sh : List mm_C} {scr : Option (Nat × (Nat → Int32))} {rb : Bool} {Cs : Nat → List Value → mm_M → (Int32 → mm_M → Prop) → (mm_M → Prop) → Prop} {K : Nat → mm_L → List Value → mm_M → Prop} {RI : Int32 → mm_M → Prop} {RV : mm_M → Prop} {cut : Nat → Bool} {n : Nat} {loc : mm_L} {st : List Value} {μ : mm_M} : mm_wp Sh scr rb Cs K RI RV lab_3 cut (n + 1) 36 loc st μ = (if cut 36 = true then K 36 loc st μ else mm_wpB Sh scr rb Cs (mm_wp Sh scr rb Cs K RI RV lab_3 cut n) RI RV [(some (.iload_n 2), 0, 0, [], 0), (some (.ireturn), 0, 0, [], 0)] loc st μ) := by
  unfold mm_wp
  by_cases h : cut 36 = true
  · rw [if_pos h, if_pos h]
  · rw [if_neg h, if_neg h]; rfl
theorem wl_4_0 {Sh : List mm_C} {scr : Option (Nat × (Nat → Int32))} {rb : Bool} {Cs : Nat → List Value → mm_M → (Int32 → mm_M → Prop) → (mm_M → Prop) → Prop} {K : Nat → mm_L → List Value → mm_M → Prop} {RI : Int32 → mm_M → Prop} {RV : mm_M → Prop} {cut : Nat → Bool} {n : Nat} {loc : mm_L} {st : List Value} {μ : mm_M} : mm_wp Sh scr rb Cs K RI RV lab_4 cut (n + 1) 0 loc st μ = (if cut 0 = true then K 0 loc st μ else mm_wpB Sh scr rb Cs (mm_wp Sh scr rb Cs K RI RV lab_4 cut n) RI RV [(some (.iload_n 3), 0, 0, [], 0), (some (.aload_n 0), 0, 0, [], 0), (some (.getfield 21), 0, 3, [], 0), (some (.iload_n 1), 0, 0, [], 0), (some (.iaload), 0, 0, [], 0), (some (.isub), 0, 0, [], 0), (some (.sipush 168), 0, 0, [], 168), (some (.idiv), 0, 0, [], 0), (some (.istore 4), 0, 0, [], 0), (some (.iload_n 2), 0, 0, [], 0), (some (.iload_n 2), 0, 0, [], 0), (some (.bipush 10), 0, 0, [], 10), (some (.idiv), 0, 0, [], 0), (some (.iconst 3), 0, 0, [], 3), (some (.iload 4), 0, 0, [], 0), (some (.iconst 4), 0, 0, [], 4), (some (.idiv), 0, 0, [], 0), (some (.invokestatic 63), 1000, 0, [], 0), (some (.imul), 0, 0, [], 0), (some (.iadd), 0, 0, [], 0), (some (.ireturn), 0, 0, [], 0)] loc st μ) := by
  unfold mm_wp
  by_cases h : cut 0 = true
  · rw [if_pos h, if_pos h]
  · rw [if_neg h, if_neg h]; rfl
theorem wl_5_0 {Sh : List mm_C} {scr : Option (Nat × (Nat → Int32))} {rb : Bool} {Cs : Nat → List Value → mm_M → (Int32 → mm_M → Prop) → (mm_M → Prop) → Prop} {K : Nat → mm_L → List Value → mm_M → Prop} {RI : Int32 → mm_M → Prop} {RV : mm_M → Prop} {cut : Nat → Bool} {n : Nat} {loc : mm_L} {st : List Value} {μ : mm_M} : mm_wp Sh scr rb Cs K RI RV lab_5 cut (n + 1) 0 loc st μ = (if cut 0 = true then K 0 loc st μ else mm_wpB Sh scr rb Cs (mm_wp Sh scr rb Cs K RI RV lab_5 cut n) RI RV [(some (.iload_n 3), 0, 0, [], 0), (some (.istore 6), 0, 0, [], 0), (some (.iconst 0), 0, 0, [], 0), (some (.istore 7), 0, 0, [], 0), (some (.iconst 0), 0, 0, [], 0), (some (.istore 8), 0, 0, [], 0), (none, 9, 0, [], 0)] loc st μ) := by
  unfold mm_wp
  by_cases h : cut 0 = true
  · rw [if_pos h, if_pos h]
  · rw [if_neg h, if_neg h]; rfl
theorem wl_5_9 {Sh : List mm_C} {scr : Option (Nat × (Nat → Int32))} {rb : Bool} {Cs : Nat → List Value → mm_M → (Int32 → mm_M → Prop) → (mm_M → Prop) → Prop} {K : Nat → mm_L → List Value → mm_M → Prop} {RI : Int32 → mm_M → Prop} {RV : mm_M → Prop} {cut : Nat → Bool} {n : Nat} {loc : mm_L} {st : List Value} {μ : mm_M} : mm_wp Sh scr rb Cs K RI RV lab_5 cut (n + 1) 9 loc st μ = (if cut 9 = true then K 9 loc st μ else mm_wpB Sh scr rb Cs (mm_wp Sh scr rb Cs K RI RV lab_5 cut n) RI RV [(some (.iload 8), 0, 0, [], 0), (some (.aload_n 0), 0, 0, [], 0), (some (.getfield 34), 0, 7, [], 0), (some (.if_icmp .ge 98), 113, 0, [], 0), (some (.iload 6), 0, 0, [], 0), (some (.ifCond .le 93), 113, 0, [], 0), (some (.aload_n 0), 0, 0, [], 0), (some (.iload 8), 0, 0, [], 0), (some (.iload_n 2), 0, 0, [], 0), (some (.invokevirtual 59), 2, 3, [], 0), (some (.ifCond .eq 77), 107, 0, [], 0), (some (.aload_n 0), 0, 0, [], 0), (some (.getfield 18), 0, 2, [], 0), (some (.iload 8), 0, 0, [], 0), (some (.iaload), 0, 0, [], 0), (some (.ifCond .le 67), 107, 0, [], 0), (some (.aload_n 0), 0, 0, [], 0), (some (.getfield 18), 0, 2, [], 0), (some (.iload 8), 0, 0, [], 0), (some (.iaload), 0, 0, [], 0), (some (.iload 6), 0, 0, [], 0), (some (.invokestatic 63), 1000, 0, [], 0), (some (.istore 9), 0, 0, [], 0), (some (.aload_n 0), 0, 0, [], 0), (some (.getfield 18), 0, 2, [], 0), (some (.iload 8), 0, 0, [], 0), (some (.dup2), 0, 0, [], 0), (some (.iaload), 0, 0, [], 0), (some (.iload 9), 0, 0, [], 0), (some (.isub), 0, 0, [], 0), (some (.iastore), 0, 0, [], 0), (some (.iload 6), 0, 0, [], 0), (some (.iload 9), 0, 0, [], 0), (some (.isub), 0, 0, [], 0), (some (.istore 6), 0, 0, [], 0), (some (.iload 7), 0, 0, [], 0), (some (.iload 9), 0, 0, [], 0), (some (.aload_n 0), 0, 0, [], 0), (some (.iload 8), 0, 0, [], 0), (some (.iload 4), 0, 0, [], 0), (some (.iload 5), 0, 0, [], 0), (some (.invokevirtual 69), 4, 4, [], 0), (some (.imul), 0, 0, [], 0), (some (.iadd), 0, 0, [], 0), (some (.istore 7), 0, 0, [], 0), (some (.aload_n 0), 0, 0, [], 0), (some (.getfield 24), 0, 4, [], 0), (some (.iload 8), 0, 0, [], 0), (some (.dup2), 0, 0, [], 0), (some (.iaload), 0, 0, [], 0), (some (.iconst 1), 0, 0, [], 1), (some (.iload_n 1), 0, 0, [], 0), (some (.ishl), 0, 0, [], 0), (some (.ior), 0, 0, [], 0), (some (.iastore), 0, 0, [], 0), (none, 107, 0, [], 0)] loc st μ) := by
  unfold mm_wp
  by_cases h : cut 9 = true
  · rw [if_pos h, if_pos h]
  · rw [if_neg h, if_neg h]; rfl
theorem wl_5_107 {Sh : List mm_C} {scr : Option (Nat × (Nat → Int32))} {rb : Bool} {Cs : Nat → List Value → mm_M → (Int32 → mm_M → Prop) → (mm_M → Prop) → Prop} {K : Nat → mm_L → List Value → mm_M → Prop} {RI : Int32 → mm_M → Prop} {RV : mm_M → Prop} {cut : Nat → Bool} {n : Nat} {loc : mm_L} {st : List Value} {μ : mm_M} : mm_wp Sh scr rb Cs K RI RV lab_5 cut (n + 1) 107 loc st μ = (if cut 107 = true then K 107 loc st μ else mm_wpB Sh scr rb Cs (mm_wp Sh scr rb Cs K RI RV lab_5 cut n) RI RV [(some (.iinc 8 1), 0, 0, [], 1), (some (.goto (-101)), 9, 0, [], 0)] loc st μ) := by
  unfold mm_wp
  by_cases h : cut 107 = true
  · rw [if_pos h, if_pos h]
  · rw [if_neg h, if_neg h]; rfl
theorem wl_5_113 {Sh : List mm_C} {scr : Option (Nat × (Nat → Int32))} {rb : Bool} {Cs : Nat → List Value → mm_M → (Int32 → mm_M → Prop) → (mm_M → Prop) → Prop} {K : Nat → mm_L → List Value → mm_M → Prop} {RI : Int32 → mm_M → Prop} {RV : mm_M → Prop} {cut : Nat → Bool} {n : Nat} {loc : mm_L} {st : List Value} {μ : mm_M} : mm_wp Sh scr rb Cs K RI RV lab_5 cut (n + 1) 113 loc st μ = (if cut 113 = true then K 113 loc st μ else mm_wpB Sh scr rb Cs (mm_wp Sh scr rb Cs K RI RV lab_5 cut n) RI RV [(some (.iload 7), 0, 0, [], 0), (some (.ireturn), 0, 0, [], 0)] loc st μ) := by
  unfold mm_wp
  by_cases h : cut 113 = true
  · rw [if_pos h, if_pos h]
  · rw [if_neg h, if_neg h]; rfl
theorem wl_6_0 {Sh : List mm_C} {scr : Option (Nat × (Nat → Int32))} {rb : Bool} {Cs : Nat → List Value → mm_M → (Int32 → mm_M → Prop) → (mm_M → Prop) → Prop} {K : Nat → mm_L → List Value → mm_M → Prop} {RI : Int32 → mm_M → Prop} {RV : mm_M → Prop} {cut : Nat → Bool} {n : Nat} {loc : mm_L} {st : List Value} {μ : mm_M} : mm_wp Sh scr rb Cs K RI RV lab_6 cut (n + 1) 0 loc st μ = (if cut 0 = true then K 0 loc st μ else mm_wpB Sh scr rb Cs (mm_wp Sh scr rb Cs K RI RV lab_6 cut n) RI RV [(some (.iconst 0), 0, 0, [], 0), (some (.istore_n 2), 0, 0, [], 0), (some (.iconst 0), 0, 0, [], 0), (some (.istore_n 3), 0, 0, [], 0), (none, 4, 0, [], 0)] loc st μ) := by
  unfold mm_wp
  by_cases h : cut 0 = true
  · rw [if_pos h, if_pos h]
  · rw [if_neg h, if_neg h]; rfl
theorem wl_6_4 {Sh : List mm_C} {scr : Option (Nat × (Nat → Int32))} {rb : Bool} {Cs : Nat → List Value → mm_M → (Int32 → mm_M → Prop) → (mm_M → Prop) → Prop} {K : Nat → mm_L → List Value → mm_M → Prop} {RI : Int32 → mm_M → Prop} {RV : mm_M → Prop} {cut : Nat → Bool} {n : Nat} {loc : mm_L} {st : List Value} {μ : mm_M} : mm_wp Sh scr rb Cs K RI RV lab_6 cut (n + 1) 4 loc st μ = (if cut 4 = true then K 4 loc st μ else mm_wpB Sh scr rb Cs (mm_wp Sh scr rb Cs K RI RV lab_6 cut n) RI RV [(some (.iload_n 3), 0, 0, [], 0), (some (.aload_n 0), 0, 0, [], 0), (some (.getfield 34), 0, 7, [], 0), (some (.if_icmp .ge 39), 48, 0, [], 0), (some (.aload_n 0), 0, 0, [], 0), (some (.getfield 31), 0, 6, [], 0), (some (.iload_n 3), 0, 0, [], 0), (some (.bipush 60), 0, 0, [], 60), (some (.imul), 0, 0, [], 0), (some (.iload_n 1), 0, 0, [], 0), (some (.iadd), 0, 0, [], 0), (some (.iaload), 0, 0, [], 0), (some (.ifCond .le 19), 42, 0, [], 0), (some (.aload_n 0), 0, 0, [], 0), (some (.getfield 27), 0, 5, [], 0), (some (.iload_n 3), 0, 0, [], 0), (some (.iconst 1), 0, 0, [], 1), (some (.bastore), 0, 0, [], 0), (some (.iload_n 2), 0, 0, [], 0), (some (.aload_n 0), 0, 0, [], 0), (some (.getfield 24), 0, 4, [], 0), (some (.iload_n 3), 0, 0, [], 0), (some (.iaload), 0, 0, [], 0), (some (.ior), 0, 0, [], 0), (some (.istore_n 2), 0, 0, [], 0), (none, 42, 0, [], 0)] loc st μ) := by
  unfold mm_wp
  by_cases h : cut 4 = true
  · rw [if_pos h, if_pos h]
  · rw [if_neg h, if_neg h]; rfl
theorem wl_6_42 {Sh : List mm_C} {scr : Option (Nat × (Nat → Int32))} {rb : Bool} {Cs : Nat → List Value → mm_M → (Int32 → mm_M → Prop) → (mm_M → Prop) → Prop} {K : Nat → mm_L → List Value → mm_M → Prop} {RI : Int32 → mm_M → Prop} {RV : mm_M → Prop} {cut : Nat → Bool} {n : Nat} {loc : mm_L} {st : List Value} {μ : mm_M} : mm_wp Sh scr rb Cs K RI RV lab_6 cut (n + 1) 42 loc st μ = (if cut 42 = true then K 42 loc st μ else mm_wpB Sh scr rb Cs (mm_wp Sh scr rb Cs K RI RV lab_6 cut n) RI RV [(some (.iinc 3 1), 0, 0, [], 1), (some (.goto (-41)), 4, 0, [], 0)] loc st μ) := by
  unfold mm_wp
  by_cases h : cut 42 = true
  · rw [if_pos h, if_pos h]
  · rw [if_neg h, if_neg h]; rfl
theorem wl_6_48 {Sh : List mm_C} {scr : Option (Nat × (Nat → Int32))} {rb : Bool} {Cs : Nat → List Value → mm_M → (Int32 → mm_M → Prop) → (mm_M → Prop) → Prop} {K : Nat → mm_L → List Value → mm_M → Prop} {RI : Int32 → mm_M → Prop} {RV : mm_M → Prop} {cut : Nat → Bool} {n : Nat} {loc : mm_L} {st : List Value} {μ : mm_M} : mm_wp Sh scr rb Cs K RI RV lab_6 cut (n + 1) 48 loc st μ = (if cut 48 = true then K 48 loc st μ else mm_wpB Sh scr rb Cs (mm_wp Sh scr rb Cs K RI RV lab_6 cut n) RI RV [(some (.iload_n 2), 0, 0, [], 0), (some (.ireturn), 0, 0, [], 0)] loc st μ) := by
  unfold mm_wp
  by_cases h : cut 48 = true
  · rw [if_pos h, if_pos h]
  · rw [if_neg h, if_neg h]; rfl
theorem wl_7_0 {Sh : List mm_C} {scr : Option (Nat × (Nat → Int32))} {rb : Bool} {Cs : Nat → List Value → mm_M → (Int32 → mm_M → Prop) → (mm_M → Prop) → Prop} {K : Nat → mm_L → List Value → mm_M → Prop} {RI : Int32 → mm_M → Prop} {RV : mm_M → Prop} {cut : Nat → Bool} {n : Nat} {loc : mm_L} {st : List Value} {μ : mm_M} : mm_wp Sh scr rb Cs K RI RV lab_7 cut (n + 1) 0 loc st μ = (if cut 0 = true then K 0 loc st μ else mm_wpB Sh scr rb Cs (mm_wp Sh scr rb Cs K RI RV lab_7 cut n) RI RV [(some (.iload_n 1), 0, 0, [], 0), (some (.iconst 0), 0, 0, [], 0), (some (.aload_n 0), 0, 0, [], 0), (some (.getfield 34), 1, 7, [], 0), (some (.iconst 1), 0, 0, [], 1), (some (.isub), 0, 0, [], 0), (some (.invokestatic 38), 65, 3, [], 0), (some (.ireturn), 0, 0, [], 0)] loc st μ) := by
  unfold mm_wp
  by_cases h : cut 0 = true
  · rw [if_pos h, if_pos h]
  · rw [if_neg h, if_neg h]; rfl
theorem wl_8_0 {Sh : List mm_C} {scr : Option (Nat × (Nat → Int32))} {rb : Bool} {Cs : Nat → List Value → mm_M → (Int32 → mm_M → Prop) → (mm_M → Prop) → Prop} {K : Nat → mm_L → List Value → mm_M → Prop} {RI : Int32 → mm_M → Prop} {RV : mm_M → Prop} {cut : Nat → Bool} {n : Nat} {loc : mm_L} {st : List Value} {μ : mm_M} : mm_wp Sh scr rb Cs K RI RV lab_8 cut (n + 1) 0 loc st μ = (if cut 0 = true then K 0 loc st μ else mm_wpB Sh scr rb Cs (mm_wp Sh scr rb Cs K RI RV lab_8 cut n) RI RV [(some (.aload_n 0), 0, 0, [], 0), (some (.getfield 34), 1, 7, [], 0), (some (.bipush 20), 0, 0, [], 20), (some (.if_icmp .lt 5), 11, 0, [], 0), (some (.iconst (-1)), 0, 0, [], (-1)), (some (.ireturn), 0, 0, [], 0)] loc st μ) := by
  unfold mm_wp
  by_cases h : cut 0 = true
  · rw [if_pos h, if_pos h]
  · rw [if_neg h, if_neg h]; rfl
theorem wl_8_11 {Sh : List mm_C} {scr : Option (Nat × (Nat → Int32))} {rb : Bool} {Cs : Nat → List Value → mm_M → (Int32 → mm_M → Prop) → (mm_M → Prop) → Prop} {K : Nat → mm_L → List Value → mm_M → Prop} {RI : Int32 → mm_M → Prop} {RV : mm_M → Prop} {cut : Nat → Bool} {n : Nat} {loc : mm_L} {st : List Value} {μ : mm_M} : mm_wp Sh scr rb Cs K RI RV lab_8 cut (n + 1) 11 loc st μ = (if cut 11 = true then K 11 loc st μ else mm_wpB Sh scr rb Cs (mm_wp Sh scr rb Cs K RI RV lab_8 cut n) RI RV [(some (.aload_n 0), 0, 0, [], 0), (some (.getfield 34), 1, 7, [], 0), (some (.istore 5), 0, 0, [], 0), (some (.aload_n 0), 0, 0, [], 0), (some (.getfield 9), 1, 0, [], 0), (some (.iload 5), 0, 0, [], 0), (some (.iload_n 1), 0, 0, [], 0), (some (.iastore), 0, 0, [], 0), (some (.aload_n 0), 0, 0, [], 0), (some (.getfield 15), 1, 1, [], 0), (some (.iload 5), 0, 0, [], 0), (some (.iload_n 2), 0, 0, [], 0), (some (.iastore), 0, 0, [], 0), (some (.aload_n 0), 0, 0, [], 0), (some (.getfield 18), 1, 2, [], 0), (some (.iload 5), 0, 0, [], 0), (some (.iload_n 3), 0, 0, [], 0), (some (.iastore), 0, 0, [], 0), (some (.aload_n 0), 0, 0, [], 0), (some (.getfield 21), 1, 3, [], 0), (some (.iload 5), 0, 0, [], 0), (some (.iload 4), 0, 0, [], 0), (some (.iastore), 0, 0, [], 0), (some (.aload_n 0), 0, 0, [], 0), (some (.getfield 31), 1, 6, [], 0), (some (.aload_n 0), 0, 0, [], 0), (some (.getfield 21), 1, 3, [], 0), (some (.iload 5), 0, 0, [], 0), (some (.invokestatic 42), 67, 3, [], 0), (some (.aload_n 0), 0, 0, [], 0), (some (.dup), 0, 0, [], 0), (some (.getfield 34), 1, 7, [], 0), (some (.iconst 1), 0, 0, [], 1), (some (.iadd), 0, 0, [], 0), (some (.putfield 34), 1, 7, [], 0), (some (.iload 5), 0, 0, [], 0), (some (.ireturn), 0, 0, [], 0)] loc st μ) := by
  unfold mm_wp
  by_cases h : cut 11 = true
  · rw [if_pos h, if_pos h]
  · rw [if_neg h, if_neg h]; rfl
theorem wl_9_0 {Sh : List mm_C} {scr : Option (Nat × (Nat → Int32))} {rb : Bool} {Cs : Nat → List Value → mm_M → (Int32 → mm_M → Prop) → (mm_M → Prop) → Prop} {K : Nat → mm_L → List Value → mm_M → Prop} {RI : Int32 → mm_M → Prop} {RV : mm_M → Prop} {cut : Nat → Bool} {n : Nat} {loc : mm_L} {st : List Value} {μ : mm_M} : mm_wp Sh scr rb Cs K RI RV lab_9 cut (n + 1) 0 loc st μ = (if cut 0 = true then K 0 loc st μ else mm_wpB Sh scr rb Cs (mm_wp Sh scr rb Cs K RI RV lab_9 cut n) RI RV [(some (.iload_n 3), 0, 0, [], 0), (some (.istore 4), 0, 0, [], 0), (some (.iconst 0), 0, 0, [], 0), (some (.istore 5), 0, 0, [], 0), (none, 6, 0, [], 0)] loc st μ) := by
  unfold mm_wp
  by_cases h : cut 0 = true
  · rw [if_pos h, if_pos h]
  · rw [if_neg h, if_neg h]; rfl
theorem wl_9_6 {Sh : List mm_C} {scr : Option (Nat × (Nat → Int32))} {rb : Bool} {Cs : Nat → List Value → mm_M → (Int32 → mm_M → Prop) → (mm_M → Prop) → Prop} {K : Nat → mm_L → List Value → mm_M → Prop} {RI : Int32 → mm_M → Prop} {RV : mm_M → Prop} {cut : Nat → Bool} {n : Nat} {loc : mm_L} {st : List Value} {μ : mm_M} : mm_wp Sh scr rb Cs K RI RV lab_9 cut (n + 1) 6 loc st μ = (if cut 6 = true then K 6 loc st μ else mm_wpB Sh scr rb Cs (mm_wp Sh scr rb Cs K RI RV lab_9 cut n) RI RV [(some (.iload 5), 0, 0, [], 0), (some (.aload_n 0), 0, 0, [], 0), (some (.getfield 34), 1, 7, [], 0), (some (.if_icmp .ge 96), 108, 0, [], 0), (some (.iload 4), 0, 0, [], 0), (some (.ifCond .le 91), 108, 0, [], 0), (some (.aload_n 0), 0, 0, [], 0), (some (.getfield 31), 1, 6, [], 0), (some (.iload 5), 0, 0, [], 0), (some (.iaload), 0, 0, [], 0), (some (.istore 6), 0, 0, [], 0), (some (.aload_n 0), 0, 0, [], 0), (some (.getfield 27), 1, 5, [], 0), (some (.iload 6), 0, 0, [], 0), (some (.baload), 0, 0, [], 0), (some (.ifCond .ne 66), 102, 0, [], 0), (some (.aload_n 0), 0, 0, [], 0), (some (.getfield 9), 1, 0, [], 0), (some (.iload 6), 0, 0, [], 0), (some (.iaload), 0, 0, [], 0), (some (.iload_n 1), 0, 0, [], 0), (some (.if_icmp .ne 55), 102, 0, [], 0), (some (.aload_n 0), 0, 0, [], 0), (some (.getfield 15), 1, 1, [], 0), (some (.iload 6), 0, 0, [], 0), (some (.iaload), 0, 0, [], 0), (some (.iload_n 2), 0, 0, [], 0), (some (.if_icmp .ne 44), 102, 0, [], 0), (some (.aload_n 0), 0, 0, [], 0), (some (.getfield 18), 1, 2, [], 0), (some (.iload 6), 0, 0, [], 0), (some (.iaload), 0, 0, [], 0), (some (.aload_n 0), 0, 0, [], 0), (some (.getfield 24), 1, 4, [], 0), (some (.iload 6), 0, 0, [], 0), (some (.iaload), 0, 0, [], 0), (some (.isub), 0, 0, [], 0), (some (.iload 4), 0, 0, [], 0), (some (.invokestatic 46), 1000, 0, [], 0), (some (.istore 7), 0, 0, [], 0), (some (.aload_n 0), 0, 0, [], 0), (some (.getfield 24), 1, 4, [], 0), (some (.iload 6), 0, 0, [], 0), (some (.dup2), 0, 0, [], 0), (some (.iaload), 0, 0, [], 0), (some (.iload 7), 0, 0, [], 0), (some (.iadd), 0, 0, [], 0), (some (.iastore), 0, 0, [], 0), (some (.iload 4), 0, 0, [], 0), (some (.iload 7), 0, 0, [], 0), (some (.isub), 0, 0, [], 0), (some (.istore 4), 0, 0, [], 0), (none, 102, 0, [], 0)] loc st μ) := by
  unfold mm_wp
  by_cases h : cut 6 = true
  · rw [if_pos h, if_pos h]
  · rw [if_neg h, if_neg h]; rfl
theorem wl_9_102 {Sh : List mm_C} {scr : Option (Nat × (Nat → Int32))} {rb : Bool} {Cs : Nat → List Value → mm_M → (Int32 → mm_M → Prop) → (mm_M → Prop) → Prop} {K : Nat → mm_L → List Value → mm_M → Prop} {RI : Int32 → mm_M → Prop} {RV : mm_M → Prop} {cut : Nat → Bool} {n : Nat} {loc : mm_L} {st : List Value} {μ : mm_M} : mm_wp Sh scr rb Cs K RI RV lab_9 cut (n + 1) 102 loc st μ = (if cut 102 = true then K 102 loc st μ else mm_wpB Sh scr rb Cs (mm_wp Sh scr rb Cs K RI RV lab_9 cut n) RI RV [(some (.iinc 5 1), 0, 0, [], 1), (some (.goto (-99)), 6, 0, [], 0)] loc st μ) := by
  unfold mm_wp
  by_cases h : cut 102 = true
  · rw [if_pos h, if_pos h]
  · rw [if_neg h, if_neg h]; rfl
theorem wl_9_108 {Sh : List mm_C} {scr : Option (Nat × (Nat → Int32))} {rb : Bool} {Cs : Nat → List Value → mm_M → (Int32 → mm_M → Prop) → (mm_M → Prop) → Prop} {K : Nat → mm_L → List Value → mm_M → Prop} {RI : Int32 → mm_M → Prop} {RV : mm_M → Prop} {cut : Nat → Bool} {n : Nat} {loc : mm_L} {st : List Value} {μ : mm_M} : mm_wp Sh scr rb Cs K RI RV lab_9 cut (n + 1) 108 loc st μ = (if cut 108 = true then K 108 loc st μ else mm_wpB Sh scr rb Cs (mm_wp Sh scr rb Cs K RI RV lab_9 cut n) RI RV [(some (.return_), 0, 0, [], 0)] loc st μ) := by
  unfold mm_wp
  by_cases h : cut 108 = true
  · rw [if_pos h, if_pos h]
  · rw [if_neg h, if_neg h]; rfl
theorem wl_10_0 {Sh : List mm_C} {scr : Option (Nat × (Nat → Int32))} {rb : Bool} {Cs : Nat → List Value → mm_M → (Int32 → mm_M → Prop) → (mm_M → Prop) → Prop} {K : Nat → mm_L → List Value → mm_M → Prop} {RI : Int32 → mm_M → Prop} {RV : mm_M → Prop} {cut : Nat → Bool} {n : Nat} {loc : mm_L} {st : List Value} {μ : mm_M} : mm_wp Sh scr rb Cs K RI RV lab_10 cut (n + 1) 0 loc st μ = (if cut 0 = true then K 0 loc st μ else mm_wpB Sh scr rb Cs (mm_wp Sh scr rb Cs K RI RV lab_10 cut n) RI RV [(some (.iload_n 2), 0, 0, [], 0), (some (.istore_n 3), 0, 0, [], 0), (some (.iconst 0), 0, 0, [], 0), (some (.istore 4), 0, 0, [], 0), (none, 5, 0, [], 0)] loc st μ) := by
  unfold mm_wp
  by_cases h : cut 0 = true
  · rw [if_pos h, if_pos h]
  · rw [if_neg h, if_neg h]; rfl
theorem wl_10_5 {Sh : List mm_C} {scr : Option (Nat × (Nat → Int32))} {rb : Bool} {Cs : Nat → List Value → mm_M → (Int32 → mm_M → Prop) → (mm_M → Prop) → Prop} {K : Nat → mm_L → List Value → mm_M → Prop} {RI : Int32 → mm_M → Prop} {RV : mm_M → Prop} {cut : Nat → Bool} {n : Nat} {loc : mm_L} {st : List Value} {μ : mm_M} : mm_wp Sh scr rb Cs K RI RV lab_10 cut (n + 1) 5 loc st μ = (if cut 5 = true then K 5 loc st μ else mm_wpB Sh scr rb Cs (mm_wp Sh scr rb Cs K RI RV lab_10 cut n) RI RV [(some (.iload 4), 0, 0, [], 0), (some (.aload_n 0), 0, 0, [], 0), (some (.getfield 34), 1, 7, [], 0), (some (.if_icmp .ge 77), 88, 0, [], 0), (some (.aload_n 0), 0, 0, [], 0), (some (.getfield 31), 1, 6, [], 0), (some (.iload 4), 0, 0, [], 0), (some (.iaload), 0, 0, [], 0), (some (.iload_n 1), 0, 0, [], 0), (some (.if_icmp .eq 66), 88, 0, [], 0), (some (.aload_n 0), 0, 0, [], 0), (some (.getfield 31), 1, 6, [], 0), (some (.iload 4), 0, 0, [], 0), (some (.iaload), 0, 0, [], 0), (some (.istore 5), 0, 0, [], 0), (some (.aload_n 0), 0, 0, [], 0), (some (.getfield 27), 1, 5, [], 0), (some (.iload 5), 0, 0, [], 0), (some (.baload), 0, 0, [], 0), (some (.ifCond .ne 41), 82, 0, [], 0), (some (.aload_n 0), 0, 0, [], 0), (some (.getfield 15), 1, 1, [], 0), (some (.iload 5), 0, 0, [], 0), (some (.iaload), 0, 0, [], 0), (some (.aload_n 0), 0, 0, [], 0), (some (.getfield 15), 1, 1, [], 0), (some (.iload_n 1), 0, 0, [], 0), (some (.iaload), 0, 0, [], 0), (some (.if_icmp .ne 25), 82, 0, [], 0), (some (.iload_n 3), 0, 0, [], 0), (some (.aload_n 0), 0, 0, [], 0), (some (.getfield 18), 1, 2, [], 0), (some (.iload 5), 0, 0, [], 0), (some (.iaload), 0, 0, [], 0), (some (.aload_n 0), 0, 0, [], 0), (some (.getfield 24), 1, 4, [], 0), (some (.iload 5), 0, 0, [], 0), (some (.iaload), 0, 0, [], 0), (some (.isub), 0, 0, [], 0), (some (.iload_n 3), 0, 0, [], 0), (some (.invokestatic 46), 1000, 0, [], 0), (some (.isub), 0, 0, [], 0), (some (.istore_n 3), 0, 0, [], 0), (none, 82, 0, [], 0)] loc st μ) := by
  unfold mm_wp
  by_cases h : cut 5 = true
  · rw [if_pos h, if_pos h]
  · rw [if_neg h, if_neg h]; rfl
theorem wl_10_82 {Sh : List mm_C} {scr : Option (Nat × (Nat → Int32))} {rb : Bool} {Cs : Nat → List Value → mm_M → (Int32 → mm_M → Prop) → (mm_M → Prop) → Prop} {K : Nat → mm_L → List Value → mm_M → Prop} {RI : Int32 → mm_M → Prop} {RV : mm_M → Prop} {cut : Nat → Bool} {n : Nat} {loc : mm_L} {st : List Value} {μ : mm_M} : mm_wp Sh scr rb Cs K RI RV lab_10 cut (n + 1) 82 loc st μ = (if cut 82 = true then K 82 loc st μ else mm_wpB Sh scr rb Cs (mm_wp Sh scr rb Cs K RI RV lab_10 cut n) RI RV [(some (.iinc 4 1), 0, 0, [], 1), (some (.goto (-80)), 5, 0, [], 0)] loc st μ) := by
  unfold mm_wp
  by_cases h : cut 82 = true
  · rw [if_pos h, if_pos h]
  · rw [if_neg h, if_neg h]; rfl
theorem wl_10_88 {Sh : List mm_C} {scr : Option (Nat × (Nat → Int32))} {rb : Bool} {Cs : Nat → List Value → mm_M → (Int32 → mm_M → Prop) → (mm_M → Prop) → Prop} {K : Nat → mm_L → List Value → mm_M → Prop} {RI : Int32 → mm_M → Prop} {RV : mm_M → Prop} {cut : Nat → Bool} {n : Nat} {loc : mm_L} {st : List Value} {μ : mm_M} : mm_wp Sh scr rb Cs K RI RV lab_10 cut (n + 1) 88 loc st μ = (if cut 88 = true then K 88 loc st μ else mm_wpB Sh scr rb Cs (mm_wp Sh scr rb Cs K RI RV lab_10 cut n) RI RV [(some (.iconst 0), 0, 0, [], 0), (some (.aload_n 0), 0, 0, [], 0), (some (.getfield 18), 1, 2, [], 0), (some (.iload_n 1), 0, 0, [], 0), (some (.iaload), 0, 0, [], 0), (some (.aload_n 0), 0, 0, [], 0), (some (.getfield 24), 1, 4, [], 0), (some (.iload_n 1), 0, 0, [], 0), (some (.iaload), 0, 0, [], 0), (some (.isub), 0, 0, [], 0), (some (.iload_n 3), 0, 0, [], 0), (some (.isub), 0, 0, [], 0), (some (.invokestatic 52), 1001, 0, [], 0), (some (.ireturn), 0, 0, [], 0)] loc st μ) := by
  unfold mm_wp
  by_cases h : cut 88 = true
  · rw [if_pos h, if_pos h]
  · rw [if_neg h, if_neg h]; rfl
theorem wl_11_0 {Sh : List mm_C} {scr : Option (Nat × (Nat → Int32))} {rb : Bool} {Cs : Nat → List Value → mm_M → (Int32 → mm_M → Prop) → (mm_M → Prop) → Prop} {K : Nat → mm_L → List Value → mm_M → Prop} {RI : Int32 → mm_M → Prop} {RV : mm_M → Prop} {cut : Nat → Bool} {n : Nat} {loc : mm_L} {st : List Value} {μ : mm_M} : mm_wp Sh scr rb Cs K RI RV lab_11 cut (n + 1) 0 loc st μ = (if cut 0 = true then K 0 loc st μ else mm_wpB Sh scr rb Cs (mm_wp Sh scr rb Cs K RI RV lab_11 cut n) RI RV [(some (.iconst 0), 0, 0, [], 0), (some (.istore_n 3), 0, 0, [], 0), (some (.iconst 0), 0, 0, [], 0), (some (.istore 4), 0, 0, [], 0), (none, 5, 0, [], 0)] loc st μ) := by
  unfold mm_wp
  by_cases h : cut 0 = true
  · rw [if_pos h, if_pos h]
  · rw [if_neg h, if_neg h]; rfl
theorem wl_11_5 {Sh : List mm_C} {scr : Option (Nat × (Nat → Int32))} {rb : Bool} {Cs : Nat → List Value → mm_M → (Int32 → mm_M → Prop) → (mm_M → Prop) → Prop} {K : Nat → mm_L → List Value → mm_M → Prop} {RI : Int32 → mm_M → Prop} {RV : mm_M → Prop} {cut : Nat → Bool} {n : Nat} {loc : mm_L} {st : List Value} {μ : mm_M} : mm_wp Sh scr rb Cs K RI RV lab_11 cut (n + 1) 5 loc st μ = (if cut 5 = true then K 5 loc st μ else mm_wpB Sh scr rb Cs (mm_wp Sh scr rb Cs K RI RV lab_11 cut n) RI RV [(some (.iload 4), 0, 0, [], 0), (some (.aload_n 0), 0, 0, [], 0), (some (.getfield 34), 1, 7, [], 0), (some (.if_icmp .ge 68), 79, 0, [], 0), (some (.aload_n 0), 0, 0, [], 0), (some (.getfield 21), 1, 3, [], 0), (some (.iload 4), 0, 0, [], 0), (some (.iaload), 0, 0, [], 0), (some (.iload_n 1), 0, 0, [], 0), (some (.if_icmp .ne 51), 73, 0, [], 0), (some (.aload_n 0), 0, 0, [], 0), (some (.getfield 27), 1, 5, [], 0), (some (.iload 4), 0, 0, [], 0), (some (.baload), 0, 0, [], 0), (some (.ifCond .ne 41), 73, 0, [], 0), (some (.iload_n 3), 0, 0, [], 0), (some (.aload_n 0), 0, 0, [], 0), (some (.getfield 18), 1, 2, [], 0), (some (.iload 4), 0, 0, [], 0), (some (.iaload), 0, 0, [], 0), (some (.aload_n 0), 0, 0, [], 0), (some (.getfield 24), 1, 4, [], 0), (some (.iload 4), 0, 0, [], 0), (some (.iaload), 0, 0, [], 0), (some (.isub), 0, 0, [], 0), (some (.iconst 2), 0, 0, [], 2), (some (.imul), 0, 0, [], 0), (some (.aload_n 2), 0, 0, [], 0), (some (.aload_n 0), 0, 0, [], 0), (some (.getfield 15), 1, 1, [], 0), (some (.iload 4), 0, 0, [], 0), (some (.iaload), 0, 0, [], 0), (some (.iaload), 0, 0, [], 0), (some (.imul), 0, 0, [], 0), (some (.iadd), 0, 0, [], 0), (some (.istore_n 3), 0, 0, [], 0), (some (.aload_n 0), 0, 0, [], 0), (some (.getfield 27), 1, 5, [], 0), (some (.iload 4), 0, 0, [], 0), (some (.iconst 1), 0, 0, [], 1), (some (.bastore), 0, 0, [], 0), (none, 73, 0, [], 0)] loc st μ) := by
  unfold mm_wp
  by_cases h : cut 5 = true
  · rw [if_pos h, if_pos h]
  · rw [if_neg h, if_neg h]; rfl
theorem wl_11_73 {Sh : List mm_C} {scr : Option (Nat × (Nat → Int32))} {rb : Bool} {Cs : Nat → List Value → mm_M → (Int32 → mm_M → Prop) → (mm_M → Prop) → Prop} {K : Nat → mm_L → List Value → mm_M → Prop} {RI : Int32 → mm_M → Prop} {RV : mm_M → Prop} {cut : Nat → Bool} {n : Nat} {loc : mm_L} {st : List Value} {μ : mm_M} : mm_wp Sh scr rb Cs K RI RV lab_11 cut (n + 1) 73 loc st μ = (if cut 73 = true then K 73 loc st μ else mm_wpB Sh scr rb Cs (mm_wp Sh scr rb Cs K RI RV lab_11 cut n) RI RV [(some (.iinc 4 1), 0, 0, [], 1), (some (.goto (-71)), 5, 0, [], 0)] loc st μ) := by
  unfold mm_wp
  by_cases h : cut 73 = true
  · rw [if_pos h, if_pos h]
  · rw [if_neg h, if_neg h]; rfl
theorem wl_11_79 {Sh : List mm_C} {scr : Option (Nat × (Nat → Int32))} {rb : Bool} {Cs : Nat → List Value → mm_M → (Int32 → mm_M → Prop) → (mm_M → Prop) → Prop} {K : Nat → mm_L → List Value → mm_M → Prop} {RI : Int32 → mm_M → Prop} {RV : mm_M → Prop} {cut : Nat → Bool} {n : Nat} {loc : mm_L} {st : List Value} {μ : mm_M} : mm_wp Sh scr rb Cs K RI RV lab_11 cut (n + 1) 79 loc st μ = (if cut 79 = true then K 79 loc st μ else mm_wpB Sh scr rb Cs (mm_wp Sh scr rb Cs K RI RV lab_11 cut n) RI RV [(some (.iload_n 3), 0, 0, [], 0), (some (.ireturn), 0, 0, [], 0)] loc st μ) := by
  unfold mm_wp
  by_cases h : cut 79 = true
  · rw [if_pos h, if_pos h]
  · rw [if_neg h, if_neg h]; rfl
theorem wl_12_0 {Sh : List mm_C} {scr : Option (Nat × (Nat → Int32))} {rb : Bool} {Cs : Nat → List Value → mm_M → (Int32 → mm_M → Prop) → (mm_M → Prop) → Prop} {K : Nat → mm_L → List Value → mm_M → Prop} {RI : Int32 → mm_M → Prop} {RV : mm_M → Prop} {cut : Nat → Bool} {n : Nat} {loc : mm_L} {st : List Value} {μ : mm_M} : mm_wp Sh scr rb Cs K RI RV lab_12 cut (n + 1) 0 loc st μ = (if cut 0 = true then K 0 loc st μ else mm_wpB Sh scr rb Cs (mm_wp Sh scr rb Cs K RI RV lab_12 cut n) RI RV [(some (.aload_n 0), 0, 0, [], 0), (some (.getfield 9), 2, 0, [], 0), (some (.iload_n 1), 0, 0, [], 0), (some (.iaload), 0, 0, [], 0), (some (.iconst (-1)), 0, 0, [], (-1)), (some (.if_icmp .ne 7), 14, 0, [], 0), (some (.iconst 1), 0, 0, [], 1), (some (.goto 4), 15, 0, [], 0)] loc st μ) := by
  unfold mm_wp
  by_cases h : cut 0 = true
  · rw [if_pos h, if_pos h]
  · rw [if_neg h, if_neg h]; rfl
theorem wl_12_14 {Sh : List mm_C} {scr : Option (Nat × (Nat → Int32))} {rb : Bool} {Cs : Nat → List Value → mm_M → (Int32 → mm_M → Prop) → (mm_M → Prop) → Prop} {K : Nat → mm_L → List Value → mm_M → Prop} {RI : Int32 → mm_M → Prop} {RV : mm_M → Prop} {cut : Nat → Bool} {n : Nat} {loc : mm_L} {st : List Value} {μ : mm_M} : mm_wp Sh scr rb Cs K RI RV lab_12 cut (n + 1) 14 loc st μ = (if cut 14 = true then K 14 loc st μ else mm_wpB Sh scr rb Cs (mm_wp Sh scr rb Cs K RI RV lab_12 cut n) RI RV [(some (.iconst 0), 0, 0, [], 0), (none, 15, 0, [], 0)] loc st μ) := by
  unfold mm_wp
  by_cases h : cut 14 = true
  · rw [if_pos h, if_pos h]
  · rw [if_neg h, if_neg h]; rfl
theorem wl_12_15 {Sh : List mm_C} {scr : Option (Nat × (Nat → Int32))} {rb : Bool} {Cs : Nat → List Value → mm_M → (Int32 → mm_M → Prop) → (mm_M → Prop) → Prop} {K : Nat → mm_L → List Value → mm_M → Prop} {RI : Int32 → mm_M → Prop} {RV : mm_M → Prop} {cut : Nat → Bool} {n : Nat} {loc : mm_L} {st : List Value} {μ : mm_M} : mm_wp Sh scr rb Cs K RI RV lab_12 cut (n + 1) 15 loc st μ = (if cut 15 = true then K 15 loc st μ else mm_wpB Sh scr rb Cs (mm_wp Sh scr rb Cs K RI RV lab_12 cut n) RI RV [(some (.ireturn), 0, 0, [], 0)] loc st μ) := by
  unfold mm_wp
  by_cases h : cut 15 = true
  · rw [if_pos h, if_pos h]
  · rw [if_neg h, if_neg h]; rfl
theorem wl_13_0 {Sh : List mm_C} {scr : Option (Nat × (Nat → Int32))} {rb : Bool} {Cs : Nat → List Value → mm_M → (Int32 → mm_M → Prop) → (mm_M → Prop) → Prop} {K : Nat → mm_L → List Value → mm_M → Prop} {RI : Int32 → mm_M → Prop} {RV : mm_M → Prop} {cut : Nat → Bool} {n : Nat} {loc : mm_L} {st : List Value} {μ : mm_M} : mm_wp Sh scr rb Cs K RI RV lab_13 cut (n + 1) 0 loc st μ = (if cut 0 = true then K 0 loc st μ else mm_wpB Sh scr rb Cs (mm_wp Sh scr rb Cs K RI RV lab_13 cut n) RI RV [(some (.iconst 0), 0, 0, [], 0), (some (.istore_n 1), 0, 0, [], 0), (some (.iconst 0), 0, 0, [], 0), (some (.istore_n 2), 0, 0, [], 0), (none, 4, 0, [], 0)] loc st μ) := by
  unfold mm_wp
  by_cases h : cut 0 = true
  · rw [if_pos h, if_pos h]
  · rw [if_neg h, if_neg h]; rfl
theorem wl_13_4 {Sh : List mm_C} {scr : Option (Nat × (Nat → Int32))} {rb : Bool} {Cs : Nat → List Value → mm_M → (Int32 → mm_M → Prop) → (mm_M → Prop) → Prop} {K : Nat → mm_L → List Value → mm_M → Prop} {RI : Int32 → mm_M → Prop} {RV : mm_M → Prop} {cut : Nat → Bool} {n : Nat} {loc : mm_L} {st : List Value} {μ : mm_M} : mm_wp Sh scr rb Cs K RI RV lab_13 cut (n + 1) 4 loc st μ = (if cut 4 = true then K 4 loc st μ else mm_wpB Sh scr rb Cs (mm_wp Sh scr rb Cs K RI RV lab_13 cut n) RI RV [(some (.iload_n 2), 0, 0, [], 0), (some (.iconst 3), 0, 0, [], 3), (some (.if_icmp .ge 28), 34, 0, [], 0), (some (.iload_n 1), 0, 0, [], 0), (some (.aload_n 0), 0, 0, [], 0), (some (.iload_n 2), 0, 0, [], 0), (some (.invokevirtual 31), 12, 2, [], 0), (some (.ifCond .ne 7), 22, 0, [], 0), (some (.iconst 1), 0, 0, [], 1), (some (.goto 4), 23, 0, [], 0)] loc st μ) := by
  unfold mm_wp
  by_cases h : cut 4 = true
  · rw [if_pos h, if_pos h]
  · rw [if_neg h, if_neg h]; rfl
theorem wl_13_22 {Sh : List mm_C} {scr : Option (Nat × (Nat → Int32))} {rb : Bool} {Cs : Nat → List Value → mm_M → (Int32 → mm_M → Prop) → (mm_M → Prop) → Prop} {K : Nat → mm_L → List Value → mm_M → Prop} {RI : Int32 → mm_M → Prop} {RV : mm_M → Prop} {cut : Nat → Bool} {n : Nat} {loc : mm_L} {st : List Value} {μ : mm_M} : mm_wp Sh scr rb Cs K RI RV lab_13 cut (n + 1) 22 loc st μ = (if cut 22 = true then K 22 loc st μ else mm_wpB Sh scr rb Cs (mm_wp Sh scr rb Cs K RI RV lab_13 cut n) RI RV [(some (.iconst 0), 0, 0, [], 0), (none, 23, 0, [], 0)] loc st μ) := by
  unfold mm_wp
  by_cases h : cut 22 = true
  · rw [if_pos h, if_pos h]
  · rw [if_neg h, if_neg h]; rfl
theorem wl_13_23 {Sh : List mm_C} {scr : Option (Nat × (Nat → Int32))} {rb : Bool} {Cs : Nat → List Value → mm_M → (Int32 → mm_M → Prop) → (mm_M → Prop) → Prop} {K : Nat → mm_L → List Value → mm_M → Prop} {RI : Int32 → mm_M → Prop} {RV : mm_M → Prop} {cut : Nat → Bool} {n : Nat} {loc : mm_L} {st : List Value} {μ : mm_M} : mm_wp Sh scr rb Cs K RI RV lab_13 cut (n + 1) 23 loc st μ = (if cut 23 = true then K 23 loc st μ else mm_wpB Sh scr rb Cs (mm_wp Sh scr rb Cs K RI RV lab_13 cut n) RI RV [(some (.invokestatic 35), 66, 1, [], 0), (some (.iadd), 0, 0, [], 0), (some (.istore_n 1), 0, 0, [], 0), (some (.iinc 2 1), 0, 0, [], 1), (some (.goto (-27)), 4, 0, [], 0)] loc st μ) := by
  unfold mm_wp
  by_cases h : cut 23 = true
  · rw [if_pos h, if_pos h]
  · rw [if_neg h, if_neg h]; rfl
theorem wl_13_34 {Sh : List mm_C} {scr : Option (Nat × (Nat → Int32))} {rb : Bool} {Cs : Nat → List Value → mm_M → (Int32 → mm_M → Prop) → (mm_M → Prop) → Prop} {K : Nat → mm_L → List Value → mm_M → Prop} {RI : Int32 → mm_M → Prop} {RV : mm_M → Prop} {cut : Nat → Bool} {n : Nat} {loc : mm_L} {st : List Value} {μ : mm_M} : mm_wp Sh scr rb Cs K RI RV lab_13 cut (n + 1) 34 loc st μ = (if cut 34 = true then K 34 loc st μ else mm_wpB Sh scr rb Cs (mm_wp Sh scr rb Cs K RI RV lab_13 cut n) RI RV [(some (.iload_n 1), 0, 0, [], 0), (some (.ireturn), 0, 0, [], 0)] loc st μ) := by
  unfold mm_wp
  by_cases h : cut 34 = true
  · rw [if_pos h, if_pos h]
  · rw [if_neg h, if_neg h]; rfl
theorem wl_14_0 {Sh : List mm_C} {scr : Option (Nat × (Nat → Int32))} {rb : Bool} {Cs : Nat → List Value → mm_M → (Int32 → mm_M → Prop) → (mm_M → Prop) → Prop} {K : Nat → mm_L → List Value → mm_M → Prop} {RI : Int32 → mm_M → Prop} {RV : mm_M → Prop} {cut : Nat → Bool} {n : Nat} {loc : mm_L} {st : List Value} {μ : mm_M} : mm_wp Sh scr rb Cs K RI RV lab_14 cut (n + 1) 0 loc st μ = (if cut 0 = true then K 0 loc st μ else mm_wpB Sh scr rb Cs (mm_wp Sh scr rb Cs K RI RV lab_14 cut n) RI RV [(some (.iconst 0), 0, 0, [], 0), (some (.istore_n 1), 0, 0, [], 0), (some (.iconst 0), 0, 0, [], 0), (some (.istore_n 2), 0, 0, [], 0), (none, 4, 0, [], 0)] loc st μ) := by
  unfold mm_wp
  by_cases h : cut 0 = true
  · rw [if_pos h, if_pos h]
  · rw [if_neg h, if_neg h]; rfl
theorem wl_14_4 {Sh : List mm_C} {scr : Option (Nat × (Nat → Int32))} {rb : Bool} {Cs : Nat → List Value → mm_M → (Int32 → mm_M → Prop) → (mm_M → Prop) → Prop} {K : Nat → mm_L → List Value → mm_M → Prop} {RI : Int32 → mm_M → Prop} {RV : mm_M → Prop} {cut : Nat → Bool} {n : Nat} {loc : mm_L} {st : List Value} {μ : mm_M} : mm_wp Sh scr rb Cs K RI RV lab_14 cut (n + 1) 4 loc st μ = (if cut 4 = true then K 4 loc st μ else mm_wpB Sh scr rb Cs (mm_wp Sh scr rb Cs K RI RV lab_14 cut n) RI RV [(some (.iload_n 2), 0, 0, [], 0), (some (.iconst 3), 0, 0, [], 3), (some (.if_icmp .ge 18), 24, 0, [], 0), (some (.iload_n 1), 0, 0, [], 0), (some (.aload_n 0), 0, 0, [], 0), (some (.getfield 21), 2, 3, [], 0), (some (.iload_n 2), 0, 0, [], 0), (some (.iaload), 0, 0, [], 0), (some (.iadd), 0, 0, [], 0), (some (.istore_n 1), 0, 0, [], 0), (some (.iinc 2 1), 0, 0, [], 1), (some (.goto (-17)), 4, 0, [], 0)] loc st μ) := by
  unfold mm_wp
  by_cases h : cut 4 = true
  · rw [if_pos h, if_pos h]
  · rw [if_neg h, if_neg h]; rfl
theorem wl_14_24 {Sh : List mm_C} {scr : Option (Nat × (Nat → Int32))} {rb : Bool} {Cs : Nat → List Value → mm_M → (Int32 → mm_M → Prop) → (mm_M → Prop) → Prop} {K : Nat → mm_L → List Value → mm_M → Prop} {RI : Int32 → mm_M → Prop} {RV : mm_M → Prop} {cut : Nat → Bool} {n : Nat} {loc : mm_L} {st : List Value} {μ : mm_M} : mm_wp Sh scr rb Cs K RI RV lab_14 cut (n + 1) 24 loc st μ = (if cut 24 = true then K 24 loc st μ else mm_wpB Sh scr rb Cs (mm_wp Sh scr rb Cs K RI RV lab_14 cut n) RI RV [(some (.iload_n 1), 0, 0, [], 0), (some (.ireturn), 0, 0, [], 0)] loc st μ) := by
  unfold mm_wp
  by_cases h : cut 24 = true
  · rw [if_pos h, if_pos h]
  · rw [if_neg h, if_neg h]; rfl
theorem wl_15_0 {Sh : List mm_C} {scr : Option (Nat × (Nat → Int32))} {rb : Bool} {Cs : Nat → List Value → mm_M → (Int32 → mm_M → Prop) → (mm_M → Prop) → Prop} {K : Nat → mm_L → List Value → mm_M → Prop} {RI : Int32 → mm_M → Prop} {RV : mm_M → Prop} {cut : Nat → Bool} {n : Nat} {loc : mm_L} {st : List Value} {μ : mm_M} : mm_wp Sh scr rb Cs K RI RV lab_15 cut (n + 1) 0 loc st μ = (if cut 0 = true then K 0 loc st μ else mm_wpB Sh scr rb Cs (mm_wp Sh scr rb Cs K RI RV lab_15 cut n) RI RV [(some (.aload_n 0), 0, 0, [], 0), (some (.getfield 9), 2, 0, [], 0), (some (.iload_n 1), 0, 0, [], 0), (some (.iload_n 2), 0, 0, [], 0), (some (.iastore), 0, 0, [], 0), (some (.aload_n 0), 0, 0, [], 0), (some (.getfield 15), 2, 1, [], 0), (some (.iload_n 1), 0, 0, [], 0), (some (.iload_n 3), 0, 0, [], 0), (some (.iastore), 0, 0, [], 0), (some (.aload_n 0), 0, 0, [], 0), (some (.getfield 21), 2, 3, [], 0), (some (.iload_n 1), 0, 0, [], 0), (some (.iload 4), 0, 0, [], 0), (some (.iastore), 0, 0, [], 0), (some (.aload_n 0), 0, 0, [], 0), (some (.getfield 18), 2, 2, [], 0), (some (.iload_n 1), 0, 0, [], 0), (some (.iload 5), 0, 0, [], 0), (some (.iastore), 0, 0, [], 0), (some (.return_), 0, 0, [], 0)] loc st μ) := by
  unfold mm_wp
  by_cases h : cut 0 = true
  · rw [if_pos h, if_pos h]
  · rw [if_neg h, if_neg h]; rfl
theorem wl_16_0 {Sh : List mm_C} {scr : Option (Nat × (Nat → Int32))} {rb : Bool} {Cs : Nat → List Value → mm_M → (Int32 → mm_M → Prop) → (mm_M → Prop) → Prop} {K : Nat → mm_L → List Value → mm_M → Prop} {RI : Int32 → mm_M → Prop} {RV : mm_M → Prop} {cut : Nat → Bool} {n : Nat} {loc : mm_L} {st : List Value} {μ : mm_M} : mm_wp Sh scr rb Cs K RI RV lab_16 cut (n + 1) 0 loc st μ = (if cut 0 = true then K 0 loc st μ else mm_wpB Sh scr rb Cs (mm_wp Sh scr rb Cs K RI RV lab_16 cut n) RI RV [(some (.aload_n 0), 0, 0, [], 0), (some (.iload_n 1), 0, 0, [], 0), (some (.iconst (-1)), 0, 0, [], (-1)), (some (.iconst 0), 0, 0, [], 0), (some (.iconst 0), 0, 0, [], 0), (some (.iconst (-1)), 0, 0, [], (-1)), (some (.invokevirtual 39), 15, 6, [], 0), (some (.iconst 0), 0, 0, [], 0), (some (.istore_n 2), 0, 0, [], 0), (none, 11, 0, [], 0)] loc st μ) := by
  unfold mm_wp
  by_cases h : cut 0 = true
  · rw [if_pos h, if_pos h]
  · rw [if_neg h, if_neg h]; rfl
theorem wl_16_11 {Sh : List mm_C} {scr : Option (Nat × (Nat → Int32))} {rb : Bool} {Cs : Nat → List Value → mm_M → (Int32 → mm_M → Prop) → (mm_M → Prop) → Prop} {K : Nat → mm_L → List Value → mm_M → Prop} {RI : Int32 → mm_M → Prop} {RV : mm_M → Prop} {cut : Nat → Bool} {n : Nat} {loc : mm_L} {st : List Value} {μ : mm_M} : mm_wp Sh scr rb Cs K RI RV lab_16 cut (n + 1) 11 loc st μ = (if cut 11 = true then K 11 loc st μ else mm_wpB Sh scr rb Cs (mm_wp Sh scr rb Cs K RI RV lab_16 cut n) RI RV [(some (.iload_n 2), 0, 0, [], 0), (some (.bipush 60), 0, 0, [], 60), (some (.if_icmp .ge 21), 35, 0, [], 0), (some (.aload_n 0), 0, 0, [], 0), (some (.getfield 24), 2, 4, [], 0), (some (.iload_n 1), 0, 0, [], 0), (some (.bipush 60), 0, 0, [], 60), (some (.imul), 0, 0, [], 0), (some (.iload_n 2), 0, 0, [], 0), (some (.iadd), 0, 0, [], 0), (some (.iconst 0), 0, 0, [], 0), (some (.iastore), 0, 0, [], 0), (some (.iinc 2 1), 0, 0, [], 1), (some (.goto (-21)), 11, 0, [], 0)] loc st μ) := by
  unfold mm_wp
  by_cases h : cut 11 = true
  · rw [if_pos h, if_pos h]
  · rw [if_neg h, if_neg h]; rfl
theorem wl_16_35 {Sh : List mm_C} {scr : Option (Nat × (Nat → Int32))} {rb : Bool} {Cs : Nat → List Value → mm_M → (Int32 → mm_M → Prop) → (mm_M → Prop) → Prop} {K : Nat → mm_L → List Value → mm_M → Prop} {RI : Int32 → mm_M → Prop} {RV : mm_M → Prop} {cut : Nat → Bool} {n : Nat} {loc : mm_L} {st : List Value} {μ : mm_M} : mm_wp Sh scr rb Cs K RI RV lab_16 cut (n + 1) 35 loc st μ = (if cut 35 = true then K 35 loc st μ else mm_wpB Sh scr rb Cs (mm_wp Sh scr rb Cs K RI RV lab_16 cut n) RI RV [(some (.return_), 0, 0, [], 0)] loc st μ) := by
  unfold mm_wp
  by_cases h : cut 35 = true
  · rw [if_pos h, if_pos h]
  · rw [if_neg h, if_neg h]; rfl
theorem wl_17_0 {Sh : List mm_C} {scr : Option (Nat × (Nat → Int32))} {rb : Bool} {Cs : Nat → List Value → mm_M → (Int32 → mm_M → Prop) → (mm_M → Prop) → Prop} {K : Nat → mm_L → List Value → mm_M → Prop} {RI : Int32 → mm_M → Prop} {RV : mm_M → Prop} {cut : Nat → Bool} {n : Nat} {loc : mm_L} {st : List Value} {μ : mm_M} : mm_wp Sh scr rb Cs K RI RV lab_17 cut (n + 1) 0 loc st μ = (if cut 0 = true then K 0 loc st μ else mm_wpB Sh scr rb Cs (mm_wp Sh scr rb Cs K RI RV lab_17 cut n) RI RV [(some (.aload_n 0), 0, 0, [], 0), (some (.getfield 9), 3, 0, [], 0), (some (.iload_n 1), 0, 0, [], 0), (some (.baload), 0, 0, [], 0), (some (.ifCond .eq 16), 22, 0, [], 0), (some (.iload_n 2), 0, 0, [], 0), (some (.aload_n 0), 0, 0, [], 0), (some (.getfield 15), 3, 1, [], 0), (some (.iload_n 1), 0, 0, [], 0), (some (.iaload), 0, 0, [], 0), (some (.bipush 8), 0, 0, [], 8), (some (.iadd), 0, 0, [], 0), (some (.if_icmp .lt 7), 26, 0, [], 0), (none, 22, 0, [], 0)] loc st μ) := by
  unfold mm_wp
  by_cases h : cut 0 = true
  · rw [if_pos h, if_pos h]
  · rw [if_neg h, if_neg h]; rfl
theorem wl_17_22 {Sh : List mm_C} {scr : Option (Nat × (Nat → Int32))} {rb : Bool} {Cs : Nat → List Value → mm_M → (Int32 → mm_M → Prop) → (mm_M → Prop) → Prop} {K : Nat → mm_L → List Value → mm_M → Prop} {RI : Int32 → mm_M → Prop} {RV : mm_M → Prop} {cut : Nat → Bool} {n : Nat} {loc : mm_L} {st : List Value} {μ : mm_M} : mm_wp Sh scr rb Cs K RI RV lab_17 cut (n + 1) 22 loc st μ = (if cut 22 = true then K 22 loc st μ else mm_wpB Sh scr rb Cs (mm_wp Sh scr rb Cs K RI RV lab_17 cut n) RI RV [(some (.iconst 1), 0, 0, [], 1), (some (.goto 4), 27, 0, [], 0)] loc st μ) := by
  unfold mm_wp
  by_cases h : cut 22 = true
  · rw [if_pos h, if_pos h]
  · rw [if_neg h, if_neg h]; rfl
theorem wl_17_26 {Sh : List mm_C} {scr : Option (Nat × (Nat → Int32))} {rb : Bool} {Cs : Nat → List Value → mm_M → (Int32 → mm_M → Prop) → (mm_M → Prop) → Prop} {K : Nat → mm_L → List Value → mm_M → Prop} {RI : Int32 → mm_M → Prop} {RV : mm_M → Prop} {cut : Nat → Bool} {n : Nat} {loc : mm_L} {st : List Value} {μ : mm_M} : mm_wp Sh scr rb Cs K RI RV lab_17 cut (n + 1) 26 loc st μ = (if cut 26 = true then K 26 loc st μ else mm_wpB Sh scr rb Cs (mm_wp Sh scr rb Cs K RI RV lab_17 cut n) RI RV [(some (.iconst 0), 0, 0, [], 0), (none, 27, 0, [], 0)] loc st μ) := by
  unfold mm_wp
  by_cases h : cut 26 = true
  · rw [if_pos h, if_pos h]
  · rw [if_neg h, if_neg h]; rfl
theorem wl_17_27 {Sh : List mm_C} {scr : Option (Nat × (Nat → Int32))} {rb : Bool} {Cs : Nat → List Value → mm_M → (Int32 → mm_M → Prop) → (mm_M → Prop) → Prop} {K : Nat → mm_L → List Value → mm_M → Prop} {RI : Int32 → mm_M → Prop} {RV : mm_M → Prop} {cut : Nat → Bool} {n : Nat} {loc : mm_L} {st : List Value} {μ : mm_M} : mm_wp Sh scr rb Cs K RI RV lab_17 cut (n + 1) 27 loc st μ = (if cut 27 = true then K 27 loc st μ else mm_wpB Sh scr rb Cs (mm_wp Sh scr rb Cs K RI RV lab_17 cut n) RI RV [(some (.ireturn), 0, 0, [], 0)] loc st μ) := by
  unfold mm_wp
  by_cases h : cut 27 = true
  · rw [if_pos h, if_pos h]
  · rw [if_neg h, if_neg h]; rfl
theorem wl_18_0 {Sh : List mm_C} {scr : Option (Nat × (Nat → Int32))} {rb : Bool} {Cs : Nat → List Value → mm_M → (Int32 → mm_M → Prop) → (mm_M → Prop) → Prop} {K : Nat → mm_L → List Value → mm_M → Prop} {RI : Int32 → mm_M → Prop} {RV : mm_M → Prop} {cut : Nat → Bool} {n : Nat} {loc : mm_L} {st : List Value} {μ : mm_M} : mm_wp Sh scr rb Cs K RI RV lab_18 cut (n + 1) 0 loc st μ = (if cut 0 = true then K 0 loc st μ else mm_wpB Sh scr rb Cs (mm_wp Sh scr rb Cs K RI RV lab_18 cut n) RI RV [(some (.iconst 0), 0, 0, [], 0), (some (.istore_n 2), 0, 0, [], 0), (some (.iconst 0), 0, 0, [], 0), (some (.istore_n 3), 0, 0, [], 0), (none, 4, 0, [], 0)] loc st μ) := by
  unfold mm_wp
  by_cases h : cut 0 = true
  · rw [if_pos h, if_pos h]
  · rw [if_neg h, if_neg h]; rfl
theorem wl_18_4 {Sh : List mm_C} {scr : Option (Nat × (Nat → Int32))} {rb : Bool} {Cs : Nat → List Value → mm_M → (Int32 → mm_M → Prop) → (mm_M → Prop) → Prop} {K : Nat → mm_L → List Value → mm_M → Prop} {RI : Int32 → mm_M → Prop} {RV : mm_M → Prop} {cut : Nat → Bool} {n : Nat} {loc : mm_L} {st : List Value} {μ : mm_M} : mm_wp Sh scr rb Cs K RI RV lab_18 cut (n + 1) 4 loc st μ = (if cut 4 = true then K 4 loc st μ else mm_wpB Sh scr rb Cs (mm_wp Sh scr rb Cs K RI RV lab_18 cut n) RI RV [(some (.iload_n 3), 0, 0, [], 0), (some (.iconst 3), 0, 0, [], 3), (some (.if_icmp .ge 31), 37, 0, [], 0), (some (.aload_n 0), 0, 0, [], 0), (some (.iload_n 3), 0, 0, [], 0), (some (.iload_n 1), 0, 0, [], 0), (some (.invokevirtual 19), 17, 3, [], 0), (some (.ifCond .ne 16), 31, 0, [], 0), (some (.iload_n 1), 0, 0, [], 0), (some (.aload_n 0), 0, 0, [], 0), (some (.getfield 15), 3, 1, [], 0), (some (.iload_n 3), 0, 0, [], 0), (some (.iaload), 0, 0, [], 0), (some (.if_icmp .lt 6), 31, 0, [], 0), (some (.iinc 2 1), 0, 0, [], 1), (none, 31, 0, [], 0)] loc st μ) := by
  unfold mm_wp
  by_cases h : cut 4 = true
  · rw [if_pos h, if_pos h]
  · rw [if_neg h, if_neg h]; rfl
theorem wl_18_31 {Sh : List mm_C} {scr : Option (Nat × (Nat → Int32))} {rb : Bool} {Cs : Nat → List Value → mm_M → (Int32 → mm_M → Prop) → (mm_M → Prop) → Prop} {K : Nat → mm_L → List Value → mm_M → Prop} {RI : Int32 → mm_M → Prop} {RV : mm_M → Prop} {cut : Nat → Bool} {n : Nat} {loc : mm_L} {st : List Value} {μ : mm_M} : mm_wp Sh scr rb Cs K RI RV lab_18 cut (n + 1) 31 loc st μ = (if cut 31 = true then K 31 loc st μ else mm_wpB Sh scr rb Cs (mm_wp Sh scr rb Cs K RI RV lab_18 cut n) RI RV [(some (.iinc 3 1), 0, 0, [], 1), (some (.goto (-30)), 4, 0, [], 0)] loc st μ) := by
  unfold mm_wp
  by_cases h : cut 31 = true
  · rw [if_pos h, if_pos h]
  · rw [if_neg h, if_neg h]; rfl
theorem wl_18_37 {Sh : List mm_C} {scr : Option (Nat × (Nat → Int32))} {rb : Bool} {Cs : Nat → List Value → mm_M → (Int32 → mm_M → Prop) → (mm_M → Prop) → Prop} {K : Nat → mm_L → List Value → mm_M → Prop} {RI : Int32 → mm_M → Prop} {RV : mm_M → Prop} {cut : Nat → Bool} {n : Nat} {loc : mm_L} {st : List Value} {μ : mm_M} : mm_wp Sh scr rb Cs K RI RV lab_18 cut (n + 1) 37 loc st μ = (if cut 37 = true then K 37 loc st μ else mm_wpB Sh scr rb Cs (mm_wp Sh scr rb Cs K RI RV lab_18 cut n) RI RV [(some (.iload_n 2), 0, 0, [], 0), (some (.ireturn), 0, 0, [], 0)] loc st μ) := by
  unfold mm_wp
  by_cases h : cut 37 = true
  · rw [if_pos h, if_pos h]
  · rw [if_neg h, if_neg h]; rfl
theorem wl_19_0 {Sh : List mm_C} {scr : Option (Nat × (Nat → Int32))} {rb : Bool} {Cs : Nat → List Value → mm_M → (Int32 → mm_M → Prop) → (mm_M → Prop) → Prop} {K : Nat → mm_L → List Value → mm_M → Prop} {RI : Int32 → mm_M → Prop} {RV : mm_M → Prop} {cut : Nat → Bool} {n : Nat} {loc : mm_L} {st : List Value} {μ : mm_M} : mm_wp Sh scr rb Cs K RI RV lab_19 cut (n + 1) 0 loc st μ = (if cut 0 = true then K 0 loc st μ else mm_wpB Sh scr rb Cs (mm_wp Sh scr rb Cs K RI RV lab_19 cut n) RI RV [(some (.iload_n 0), 0, 0, [], 0), (some (.invokestatic 31), 20, 1, [], 0), (some (.iconst 1), 0, 0, [], 1), (some (.bipush 7), 0, 0, [], 7), (some (.invokestatic 35), 65, 3, [], 0), (some (.ifCond .eq 44), 54, 0, [], 0), (some (.iload_n 0), 0, 0, [], 0), (some (.invokestatic 39), 21, 1, [], 0), (some (.iconst 0), 0, 0, [], 0), (some (.iconst 1), 0, 0, [], 1), (some (.invokestatic 35), 65, 3, [], 0), (some (.ifCond .eq 32), 54, 0, [], 0), (some (.iload_n 0), 0, 0, [], 0), (some (.invokestatic 42), 22, 1, [], 0), (some (.iconst 1), 0, 0, [], 1), (some (.bipush 9), 0, 0, [], 9), (some (.invokestatic 35), 65, 3, [], 0), (some (.ifCond .eq 19), 54, 0, [], 0), (some (.iload_n 0), 0, 0, [], 0), (some (.invokestatic 45), 23, 1, [], 0), (some (.iconst 1), 0, 0, [], 1), (some (.iconst 5), 0, 0, [], 5), (some (.invokestatic 35), 65, 3, [], 0), (some (.ifCond .eq 7), 54, 0, [], 0), (some (.iconst 1), 0, 0, [], 1), (some (.goto 4), 55, 0, [], 0)] loc st μ) := by
  unfold mm_wp
  by_cases h : cut 0 = true
  · rw [if_pos h, if_pos h]
  · rw [if_neg h, if_neg h]; rfl
theorem wl_19_54 {Sh : List mm_C} {scr : Option (Nat × (Nat → Int32))} {rb : Bool} {Cs : Nat → List Value → mm_M → (Int32 → mm_M → Prop) → (mm_M → Prop) → Prop} {K : Nat → mm_L → List Value → mm_M → Prop} {RI : Int32 → mm_M → Prop} {RV : mm_M → Prop} {cut : Nat → Bool} {n : Nat} {loc : mm_L} {st : List Value} {μ : mm_M} : mm_wp Sh scr rb Cs K RI RV lab_19 cut (n + 1) 54 loc st μ = (if cut 54 = true then K 54 loc st μ else mm_wpB Sh scr rb Cs (mm_wp Sh scr rb Cs K RI RV lab_19 cut n) RI RV [(some (.iconst 0), 0, 0, [], 0), (none, 55, 0, [], 0)] loc st μ) := by
  unfold mm_wp
  by_cases h : cut 54 = true
  · rw [if_pos h, if_pos h]
  · rw [if_neg h, if_neg h]; rfl
theorem wl_19_55 {Sh : List mm_C} {scr : Option (Nat × (Nat → Int32))} {rb : Bool} {Cs : Nat → List Value → mm_M → (Int32 → mm_M → Prop) → (mm_M → Prop) → Prop} {K : Nat → mm_L → List Value → mm_M → Prop} {RI : Int32 → mm_M → Prop} {RV : mm_M → Prop} {cut : Nat → Bool} {n : Nat} {loc : mm_L} {st : List Value} {μ : mm_M} : mm_wp Sh scr rb Cs K RI RV lab_19 cut (n + 1) 55 loc st μ = (if cut 55 = true then K 55 loc st μ else mm_wpB Sh scr rb Cs (mm_wp Sh scr rb Cs K RI RV lab_19 cut n) RI RV [(some (.ireturn), 0, 0, [], 0)] loc st μ) := by
  unfold mm_wp
  by_cases h : cut 55 = true
  · rw [if_pos h, if_pos h]
  · rw [if_neg h, if_neg h]; rfl
theorem wl_20_0 {Sh : List mm_C} {scr : Option (Nat × (Nat → Int32))} {rb : Bool} {Cs : Nat → List Value → mm_M → (Int32 → mm_M → Prop) → (mm_M → Prop) → Prop} {K : Nat → mm_L → List Value → mm_M → Prop} {RI : Int32 → mm_M → Prop} {RV : mm_M → Prop} {cut : Nat → Bool} {n : Nat} {loc : mm_L} {st : List Value} {μ : mm_M} : mm_wp Sh scr rb Cs K RI RV lab_20 cut (n + 1) 0 loc st μ = (if cut 0 = true then K 0 loc st μ else mm_wpB Sh scr rb Cs (mm_wp Sh scr rb Cs K RI RV lab_20 cut n) RI RV [(some (.iload_n 0), 0, 0, [], 0), (some (.sipush 1000), 0, 0, [], 1000), (some (.idiv), 0, 0, [], 0), (some (.ireturn), 0, 0, [], 0)] loc st μ) := by
  unfold mm_wp
  by_cases h : cut 0 = true
  · rw [if_pos h, if_pos h]
  · rw [if_neg h, if_neg h]; rfl
theorem wl_21_0 {Sh : List mm_C} {scr : Option (Nat × (Nat → Int32))} {rb : Bool} {Cs : Nat → List Value → mm_M → (Int32 → mm_M → Prop) → (mm_M → Prop) → Prop} {K : Nat → mm_L → List Value → mm_M → Prop} {RI : Int32 → mm_M → Prop} {RV : mm_M → Prop} {cut : Nat → Bool} {n : Nat} {loc : mm_L} {st : List Value} {μ : mm_M} : mm_wp Sh scr rb Cs K RI RV lab_21 cut (n + 1) 0 loc st μ = (if cut 0 = true then K 0 loc st μ else mm_wpB Sh scr rb Cs (mm_wp Sh scr rb Cs K RI RV lab_21 cut n) RI RV [(some (.iload_n 0), 0, 0, [], 0), (some (.bipush 100), 0, 0, [], 100), (some (.idiv), 0, 0, [], 0), (some (.bipush 10), 0, 0, [], 10), (some (.irem), 0, 0, [], 0), (some (.ireturn), 0, 0, [], 0)] loc st μ) := by
  unfold mm_wp
  by_cases h : cut 0 = true
  · rw [if_pos h, if_pos h]
  · rw [if_neg h, if_neg h]; rfl
theorem wl_22_0 {Sh : List mm_C} {scr : Option (Nat × (Nat → Int32))} {rb : Bool} {Cs : Nat → List Value → mm_M → (Int32 → mm_M → Prop) → (mm_M → Prop) → Prop} {K : Nat → mm_L → List Value → mm_M → Prop} {RI : Int32 → mm_M → Prop} {RV : mm_M → Prop} {cut : Nat → Bool} {n : Nat} {loc : mm_L} {st : List Value} {μ : mm_M} : mm_wp Sh scr rb Cs K RI RV lab_22 cut (n + 1) 0 loc st μ = (if cut 0 = true then K 0 loc st μ else mm_wpB Sh scr rb Cs (mm_wp Sh scr rb Cs K RI RV lab_22 cut n) RI RV [(some (.iload_n 0), 0, 0, [], 0), (some (.bipush 10), 0, 0, [], 10), (some (.idiv), 0, 0, [], 0), (some (.bipush 10), 0, 0, [], 10), (some (.irem), 0, 0, [], 0), (some (.ireturn), 0, 0, [], 0)] loc st μ) := by
  unfold mm_wp
  by_cases h : cut 0 = true
  · rw [if_pos h, if_pos h]
  · rw [if_neg h, if_neg h]; rfl
theorem wl_23_0 {Sh : List mm_C} {scr : Option (Nat × (Nat → Int32))} {rb : Bool} {Cs : Nat → List Value → mm_M → (Int32 → mm_M → Prop) → (mm_M → Prop) → Prop} {K : Nat → mm_L → List Value → mm_M → Prop} {RI : Int32 → mm_M → Prop} {RV : mm_M → Prop} {cut : Nat → Bool} {n : Nat} {loc : mm_L} {st : List Value} {μ : mm_M} : mm_wp Sh scr rb Cs K RI RV lab_23 cut (n + 1) 0 loc st μ = (if cut 0 = true then K 0 loc st μ else mm_wpB Sh scr rb Cs (mm_wp Sh scr rb Cs K RI RV lab_23 cut n) RI RV [(some (.iload_n 0), 0, 0, [], 0), (some (.bipush 10), 0, 0, [], 10), (some (.irem), 0, 0, [], 0), (some (.ireturn), 0, 0, [], 0)] loc st μ) := by
  unfold mm_wp
  by_cases h : cut 0 = true
  · rw [if_pos h, if_pos h]
  · rw [if_neg h, if_neg h]; rfl
theorem wl_24_0 {Sh : List mm_C} {scr : Option (Nat × (Nat → Int32))} {rb : Bool} {Cs : Nat → List Value → mm_M → (Int32 → mm_M → Prop) → (mm_M → Prop) → Prop} {K : Nat → mm_L → List Value → mm_M → Prop} {RI : Int32 → mm_M → Prop} {RV : mm_M → Prop} {cut : Nat → Bool} {n : Nat} {loc : mm_L} {st : List Value} {μ : mm_M} : mm_wp Sh scr rb Cs K RI RV lab_24 cut (n + 1) 0 loc st μ = (if cut 0 = true then K 0 loc st μ else mm_wpB Sh scr rb Cs (mm_wp Sh scr rb Cs K RI RV lab_24 cut n) RI RV [(some (.iload_n 1), 0, 0, [], 0), (some (.iconst 0), 0, 0, [], 0), (some (.iconst 3), 0, 0, [], 3), (some (.invokestatic 35), 65, 3, [], 0), (some (.ifCond .eq 16), 22, 0, [], 0), (some (.aload_n 0), 0, 0, [], 0), (some (.getfield 9), 4, 0, [], 0), (some (.iload_n 1), 0, 0, [], 0), (some (.baload), 0, 0, [], 0), (some (.ifCond .eq 7), 22, 0, [], 0), (some (.iconst 1), 0, 0, [], 1), (some (.goto 4), 23, 0, [], 0)] loc st μ) := by
  unfold mm_wp
  by_cases h : cut 0 = true
  · rw [if_pos h, if_pos h]
  · rw [if_neg h, if_neg h]; rfl
theorem wl_24_22 {Sh : List mm_C} {scr : Option (Nat × (Nat → Int32))} {rb : Bool} {Cs : Nat → List Value → mm_M → (Int32 → mm_M → Prop) → (mm_M → Prop) → Prop} {K : Nat → mm_L → List Value → mm_M → Prop} {RI : Int32 → mm_M → Prop} {RV : mm_M → Prop} {cut : Nat → Bool} {n : Nat} {loc : mm_L} {st : List Value} {μ : mm_M} : mm_wp Sh scr rb Cs K RI RV lab_24 cut (n + 1) 22 loc st μ = (if cut 22 = true then K 22 loc st μ else mm_wpB Sh scr rb Cs (mm_wp Sh scr rb Cs K RI RV lab_24 cut n) RI RV [(some (.iconst 0), 0, 0, [], 0), (none, 23, 0, [], 0)] loc st μ) := by
  unfold mm_wp
  by_cases h : cut 22 = true
  · rw [if_pos h, if_pos h]
  · rw [if_neg h, if_neg h]; rfl
theorem wl_24_23 {Sh : List mm_C} {scr : Option (Nat × (Nat → Int32))} {rb : Bool} {Cs : Nat → List Value → mm_M → (Int32 → mm_M → Prop) → (mm_M → Prop) → Prop} {K : Nat → mm_L → List Value → mm_M → Prop} {RI : Int32 → mm_M → Prop} {RV : mm_M → Prop} {cut : Nat → Bool} {n : Nat} {loc : mm_L} {st : List Value} {μ : mm_M} : mm_wp Sh scr rb Cs K RI RV lab_24 cut (n + 1) 23 loc st μ = (if cut 23 = true then K 23 loc st μ else mm_wpB Sh scr rb Cs (mm_wp Sh scr rb Cs K RI RV lab_24 cut n) RI RV [(some (.ireturn), 0, 0, [], 0)] loc st μ) := by
  unfold mm_wp
  by_cases h : cut 23 = true
  · rw [if_pos h, if_pos h]
  · rw [if_neg h, if_neg h]; rfl
theorem wl_25_0 {Sh : List mm_C} {scr : Option (Nat × (Nat → Int32))} {rb : Bool} {Cs : Nat → List Value → mm_M → (Int32 → mm_M → Prop) → (mm_M → Prop) → Prop} {K : Nat → mm_L → List Value → mm_M → Prop} {RI : Int32 → mm_M → Prop} {RV : mm_M → Prop} {cut : Nat → Bool} {n : Nat} {loc : mm_L} {st : List Value} {μ : mm_M} : mm_wp Sh scr rb Cs K RI RV lab_25 cut (n + 1) 0 loc st μ = (if cut 0 = true then K 0 loc st μ else mm_wpB Sh scr rb Cs (mm_wp Sh scr rb Cs K RI RV lab_25 cut n) RI RV [(some (.aload_n 0), 0, 0, [], 0), (some (.getfield 15), 4, 1, [], 0), (some (.iload_n 1), 0, 0, [], 0), (some (.iload_n 2), 0, 0, [], 0), (some (.invokestatic 31), 20, 1, [], 0), (some (.iastore), 0, 0, [], 0), (some (.aload_n 0), 0, 0, [], 0), (some (.getfield 19), 4, 2, [], 0), (some (.iload_n 1), 0, 0, [], 0), (some (.iload_n 2), 0, 0, [], 0), (some (.invokestatic 39), 21, 1, [], 0), (some (.iastore), 0, 0, [], 0), (some (.aload_n 0), 0, 0, [], 0), (some (.getfield 22), 4, 3, [], 0), (some (.iload_n 1), 0, 0, [], 0), (some (.iload_n 2), 0, 0, [], 0), (some (.invokestatic 42), 22, 1, [], 0), (some (.iastore), 0, 0, [], 0), (some (.aload_n 0), 0, 0, [], 0), (some (.getfield 25), 4, 4, [], 0), (some (.iload_n 1), 0, 0, [], 0), (some (.iload_n 2), 0, 0, [], 0), (some (.invokestatic 45), 23, 1, [], 0), (some (.iastore), 0, 0, [], 0), (some (.aload_n 0), 0, 0, [], 0), (some (.getfield 28), 4, 5, [], 0), (some (.iload_n 1), 0, 0, [], 0), (some (.iload_n 3), 0, 0, [], 0), (some (.iastore), 0, 0, [], 0), (some (.aload_n 0), 0, 0, [], 0), (some (.getfield 9), 4, 0, [], 0), (some (.iload_n 1), 0, 0, [], 0), (some (.iconst 1), 0, 0, [], 1), (some (.bastore), 0, 0, [], 0), (some (.aload_n 0), 0, 0, [], 0), (some (.dup), 0, 0, [], 0), (some (.getfield 48), 4, 6, [], 0), (some (.iconst 1), 0, 0, [], 1), (some (.iadd), 0, 0, [], 0), (some (.putfield 48), 4, 6, [], 0), (some (.return_), 0, 0, [], 0)] loc st μ) := by
  unfold mm_wp
  by_cases h : cut 0 = true
  · rw [if_pos h, if_pos h]
  · rw [if_neg h, if_neg h]; rfl
theorem wl_26_0 {Sh : List mm_C} {scr : Option (Nat × (Nat → Int32))} {rb : Bool} {Cs : Nat → List Value → mm_M → (Int32 → mm_M → Prop) → (mm_M → Prop) → Prop} {K : Nat → mm_L → List Value → mm_M → Prop} {RI : Int32 → mm_M → Prop} {RV : mm_M → Prop} {cut : Nat → Bool} {n : Nat} {loc : mm_L} {st : List Value} {μ : mm_M} : mm_wp Sh scr rb Cs K RI RV lab_26 cut (n + 1) 0 loc st μ = (if cut 0 = true then K 0 loc st μ else mm_wpB Sh scr rb Cs (mm_wp Sh scr rb Cs K RI RV lab_26 cut n) RI RV [(some (.iload_n 1), 0, 0, [], 0), (some (.iconst 0), 0, 0, [], 0), (some (.aload_n 0), 0, 0, [], 0), (some (.getfield 31), 5, 6, [], 0), (some (.iconst 1), 0, 0, [], 1), (some (.isub), 0, 0, [], 0), (some (.invokestatic 35), 65, 3, [], 0), (some (.ireturn), 0, 0, [], 0)] loc st μ) := by
  unfold mm_wp
  by_cases h : cut 0 = true
  · rw [if_pos h, if_pos h]
  · rw [if_neg h, if_neg h]; rfl
theorem wl_27_0 {Sh : List mm_C} {scr : Option (Nat × (Nat → Int32))} {rb : Bool} {Cs : Nat → List Value → mm_M → (Int32 → mm_M → Prop) → (mm_M → Prop) → Prop} {K : Nat → mm_L → List Value → mm_M → Prop} {RI : Int32 → mm_M → Prop} {RV : mm_M → Prop} {cut : Nat → Bool} {n : Nat} {loc : mm_L} {st : List Value} {μ : mm_M} : mm_wp Sh scr rb Cs K RI RV lab_27 cut (n + 1) 0 loc st μ = (if cut 0 = true then K 0 loc st μ else mm_wpB Sh scr rb Cs (mm_wp Sh scr rb Cs K RI RV lab_27 cut n) RI RV [(some (.aload_n 0), 0, 0, [], 0), (some (.getfield 31), 5, 6, [], 0), (some (.bipush 60), 0, 0, [], 60), (some (.if_icmp .lt 5), 11, 0, [], 0), (some (.iconst (-1)), 0, 0, [], (-1)), (some (.ireturn), 0, 0, [], 0)] loc st μ) := by
  unfold mm_wp
  by_cases h : cut 0 = true
  · rw [if_pos h, if_pos h]
  · rw [if_neg h, if_neg h]; rfl
theorem wl_27_11 {Sh : List mm_C} {scr : Option (Nat × (Nat → Int32))} {rb : Bool} {Cs : Nat → List Value → mm_M → (Int32 → mm_M → Prop) → (mm_M → Prop) → Prop} {K : Nat → mm_L → List Value → mm_M → Prop} {RI : Int32 → mm_M → Prop} {RV : mm_M → Prop} {cut : Nat → Bool} {n : Nat} {loc : mm_L} {st : List Value} {μ : mm_M} : mm_wp Sh scr rb Cs K RI RV lab_27 cut (n + 1) 11 loc st μ = (if cut 11 = true then K 11 loc st μ else mm_wpB Sh scr rb Cs (mm_wp Sh scr rb Cs K RI RV lab_27 cut n) RI RV [(some (.aload_n 0), 0, 0, [], 0), (some (.getfield 31), 5, 6, [], 0), (some (.istore 4), 0, 0, [], 0), (some (.aload_n 0), 0, 0, [], 0), (some (.getfield 9), 5, 0, [], 0), (some (.iload 4), 0, 0, [], 0), (some (.iload_n 1), 0, 0, [], 0), (some (.iastore), 0, 0, [], 0), (some (.aload_n 0), 0, 0, [], 0), (some (.getfield 15), 5, 1, [], 0), (some (.iload 4), 0, 0, [], 0), (some (.iload_n 2), 0, 0, [], 0), (some (.iastore), 0, 0, [], 0), (some (.aload_n 0), 0, 0, [], 0), (some (.getfield 18), 5, 2, [], 0), (some (.iload 4), 0, 0, [], 0), (some (.iload_n 3), 0, 0, [], 0), (some (.iastore), 0, 0, [], 0), (some (.aload_n 0), 0, 0, [], 0), (some (.getfield 28), 5, 5, [], 0), (some (.aload_n 0), 0, 0, [], 0), (some (.getfield 18), 5, 2, [], 0), (some (.iload 4), 0, 0, [], 0), (some (.invokestatic 39), 67, 3, [], 0), (some (.aload_n 0), 0, 0, [], 0), (some (.dup), 0, 0, [], 0), (some (.getfield 31), 5, 6, [], 0), (some (.iconst 1), 0, 0, [], 1), (some (.iadd), 0, 0, [], 0), (some (.putfield 31), 5, 6, [], 0), (some (.iload 4), 0, 0, [], 0), (some (.ireturn), 0, 0, [], 0)] loc st μ) := by
  unfold mm_wp
  by_cases h : cut 11 = true
  · rw [if_pos h, if_pos h]
  · rw [if_neg h, if_neg h]; rfl
theorem wl_28_0 {Sh : List mm_C} {scr : Option (Nat × (Nat → Int32))} {rb : Bool} {Cs : Nat → List Value → mm_M → (Int32 → mm_M → Prop) → (mm_M → Prop) → Prop} {K : Nat → mm_L → List Value → mm_M → Prop} {RI : Int32 → mm_M → Prop} {RV : mm_M → Prop} {cut : Nat → Bool} {n : Nat} {loc : mm_L} {st : List Value} {μ : mm_M} : mm_wp Sh scr rb Cs K RI RV lab_28 cut (n + 1) 0 loc st μ = (if cut 0 = true then K 0 loc st μ else mm_wpB Sh scr rb Cs (mm_wp Sh scr rb Cs K RI RV lab_28 cut n) RI RV [(some (.aload_n 0), 0, 0, [], 0), (some (.getfield 18), 5, 2, [], 0), (some (.iload_n 1), 0, 0, [], 0), (some (.iaload), 0, 0, [], 0), (some (.aload_n 0), 0, 0, [], 0), (some (.getfield 21), 5, 3, [], 0), (some (.iload_n 1), 0, 0, [], 0), (some (.baload), 0, 0, [], 0), (some (.ifCond .eq 8), 20, 0, [], 0), (some (.bipush 40), 0, 0, [], 40), (some (.goto 5), 22, 0, [], 0)] loc st μ) := by
  unfold mm_wp
  by_cases h : cut 0 = true
  · rw [if_pos h, if_pos h]
  · rw [if_neg h, if_neg h]; rfl
theorem wl_28_20 {Sh : List mm_C} {scr : Option (Nat × (Nat → Int32))} {rb : Bool} {Cs : Nat → List Value → mm_M → (Int32 → mm_M → Prop) → (mm_M → Prop) → Prop} {K : Nat → mm_L → List Value → mm_M → Prop} {RI : Int32 → mm_M → Prop} {RV : mm_M → Prop} {cut : Nat → Bool} {n : Nat} {loc : mm_L} {st : List Value} {μ : mm_M} : mm_wp Sh scr rb Cs K RI RV lab_28 cut (n + 1) 20 loc st μ = (if cut 20 = true then K 20 loc st μ else mm_wpB Sh scr rb Cs (mm_wp Sh scr rb Cs K RI RV lab_28 cut n) RI RV [(some (.bipush 20), 0, 0, [], 20), (none, 22, 0, [], 0)] loc st μ) := by
  unfold mm_wp
  by_cases h : cut 20 = true
  · rw [if_pos h, if_pos h]
  · rw [if_neg h, if_neg h]; rfl
theorem wl_28_22 {Sh : List mm_C} {scr : Option (Nat × (Nat → Int32))} {rb : Bool} {Cs : Nat → List Value → mm_M → (Int32 → mm_M → Prop) → (mm_M → Prop) → Prop} {K : Nat → mm_L → List Value → mm_M → Prop} {RI : Int32 → mm_M → Prop} {RV : mm_M → Prop} {cut : Nat → Bool} {n : Nat} {loc : mm_L} {st : List Value} {μ : mm_M} : mm_wp Sh scr rb Cs K RI RV lab_28 cut (n + 1) 22 loc st μ = (if cut 22 = true then K 22 loc st μ else mm_wpB Sh scr rb Cs (mm_wp Sh scr rb Cs K RI RV lab_28 cut n) RI RV [(some (.iadd), 0, 0, [], 0), (some (.ireturn), 0, 0, [], 0)] loc st μ) := by
  unfold mm_wp
  by_cases h : cut 22 = true
  · rw [if_pos h, if_pos h]
  · rw [if_neg h, if_neg h]; rfl
theorem wl_29_0 {Sh : List mm_C} {scr : Option (Nat × (Nat → Int32))} {rb : Bool} {Cs : Nat → List Value → mm_M → (Int32 → mm_M → Prop) → (mm_M → Prop) → Prop} {K : Nat → mm_L → List Value → mm_M → Prop} {RI : Int32 → mm_M → Prop} {RV : mm_M → Prop} {cut : Nat → Bool} {n : Nat} {loc : mm_L} {st : List Value} {μ : mm_M} : mm_wp Sh scr rb Cs K RI RV lab_29 cut (n + 1) 0 loc st μ = (if cut 0 = true then K 0 loc st μ else mm_wpB Sh scr rb Cs (mm_wp Sh scr rb Cs K RI RV lab_29 cut n) RI RV [(some (.iload_n 2), 0, 0, [], 0), (some (.aload_n 0), 0, 0, [], 0), (some (.iload_n 1), 0, 0, [], 0), (some (.invokevirtual 43), 28, 2, [], 0), (some (.if_icmp .ge 7), 13, 0, [], 0), (some (.iconst 1), 0, 0, [], 1), (some (.goto 4), 14, 0, [], 0)] loc st μ) := by
  unfold mm_wp
  by_cases h : cut 0 = true
  · rw [if_pos h, if_pos h]
  · rw [if_neg h, if_neg h]; rfl
theorem wl_29_13 {Sh : List mm_C} {scr : Option (Nat × (Nat → Int32))} {rb : Bool} {Cs : Nat → List Value → mm_M → (Int32 → mm_M → Prop) → (mm_M → Prop) → Prop} {K : Nat → mm_L → List Value → mm_M → Prop} {RI : Int32 → mm_M → Prop} {RV : mm_M → Prop} {cut : Nat → Bool} {n : Nat} {loc : mm_L} {st : List Value} {μ : mm_M} : mm_wp Sh scr rb Cs K RI RV lab_29 cut (n + 1) 13 loc st μ = (if cut 13 = true then K 13 loc st μ else mm_wpB Sh scr rb Cs (mm_wp Sh scr rb Cs K RI RV lab_29 cut n) RI RV [(some (.iconst 0), 0, 0, [], 0), (none, 14, 0, [], 0)] loc st μ) := by
  unfold mm_wp
  by_cases h : cut 13 = true
  · rw [if_pos h, if_pos h]
  · rw [if_neg h, if_neg h]; rfl
theorem wl_29_14 {Sh : List mm_C} {scr : Option (Nat × (Nat → Int32))} {rb : Bool} {Cs : Nat → List Value → mm_M → (Int32 → mm_M → Prop) → (mm_M → Prop) → Prop} {K : Nat → mm_L → List Value → mm_M → Prop} {RI : Int32 → mm_M → Prop} {RV : mm_M → Prop} {cut : Nat → Bool} {n : Nat} {loc : mm_L} {st : List Value} {μ : mm_M} : mm_wp Sh scr rb Cs K RI RV lab_29 cut (n + 1) 14 loc st μ = (if cut 14 = true then K 14 loc st μ else mm_wpB Sh scr rb Cs (mm_wp Sh scr rb Cs K RI RV lab_29 cut n) RI RV [(some (.ireturn), 0, 0, [], 0)] loc st μ) := by
  unfold mm_wp
  by_cases h : cut 14 = true
  · rw [if_pos h, if_pos h]
  · rw [if_neg h, if_neg h]; rfl
theorem wl_30_0 {Sh : List mm_C} {scr : Option (Nat × (Nat → Int32))} {rb : Bool} {Cs : Nat → List Value → mm_M → (Int32 → mm_M → Prop) → (mm_M → Prop) → Prop} {K : Nat → mm_L → List Value → mm_M → Prop} {RI : Int32 → mm_M → Prop} {RV : mm_M → Prop} {cut : Nat → Bool} {n : Nat} {loc : mm_L} {st : List Value} {μ : mm_M} : mm_wp Sh scr rb Cs K RI RV lab_30 cut (n + 1) 0 loc st μ = (if cut 0 = true then K 0 loc st μ else mm_wpB Sh scr rb Cs (mm_wp Sh scr rb Cs K RI RV lab_30 cut n) RI RV [(some (.iconst 0), 0, 0, [], 0), (some (.istore_n 1), 0, 0, [], 0), (some (.iconst 0), 0, 0, [], 0), (some (.istore_n 2), 0, 0, [], 0), (none, 4, 0, [], 0)] loc st μ) := by
  unfold mm_wp
  by_cases h : cut 0 = true
  · rw [if_pos h, if_pos h]
  · rw [if_neg h, if_neg h]; rfl
theorem wl_30_4 {Sh : List mm_C} {scr : Option (Nat × (Nat → Int32))} {rb : Bool} {Cs : Nat → List Value → mm_M → (Int32 → mm_M → Prop) → (mm_M → Prop) → Prop} {K : Nat → mm_L → List Value → mm_M → Prop} {RI : Int32 → mm_M → Prop} {RV : mm_M → Prop} {cut : Nat → Bool} {n : Nat} {loc : mm_L} {st : List Value} {μ : mm_M} : mm_wp Sh scr rb Cs K RI RV lab_30 cut (n + 1) 4 loc st μ = (if cut 4 = true then K 4 loc st μ else mm_wpB Sh scr rb Cs (mm_wp Sh scr rb Cs K RI RV lab_30 cut n) RI RV [(some (.iload_n 2), 0, 0, [], 0), (some (.aload_n 0), 0, 0, [], 0), (some (.getfield 31), 5, 6, [], 0), (some (.if_icmp .ge 18), 27, 0, [], 0), (some (.iload_n 1), 0, 0, [], 0), (some (.aload_n 0), 0, 0, [], 0), (some (.getfield 15), 5, 1, [], 0), (some (.iload_n 2), 0, 0, [], 0), (some (.iaload), 0, 0, [], 0), (some (.iadd), 0, 0, [], 0), (some (.istore_n 1), 0, 0, [], 0), (some (.iinc 2 1), 0, 0, [], 1), (some (.goto (-20)), 4, 0, [], 0)] loc st μ) := by
  unfold mm_wp
  by_cases h : cut 4 = true
  · rw [if_pos h, if_pos h]
  · rw [if_neg h, if_neg h]; rfl
theorem wl_30_27 {Sh : List mm_C} {scr : Option (Nat × (Nat → Int32))} {rb : Bool} {Cs : Nat → List Value → mm_M → (Int32 → mm_M → Prop) → (mm_M → Prop) → Prop} {K : Nat → mm_L → List Value → mm_M → Prop} {RI : Int32 → mm_M → Prop} {RV : mm_M → Prop} {cut : Nat → Bool} {n : Nat} {loc : mm_L} {st : List Value} {μ : mm_M} : mm_wp Sh scr rb Cs K RI RV lab_30 cut (n + 1) 27 loc st μ = (if cut 27 = true then K 27 loc st μ else mm_wpB Sh scr rb Cs (mm_wp Sh scr rb Cs K RI RV lab_30 cut n) RI RV [(some (.iload_n 1), 0, 0, [], 0), (some (.ireturn), 0, 0, [], 0)] loc st μ) := by
  unfold mm_wp
  by_cases h : cut 27 = true
  · rw [if_pos h, if_pos h]
  · rw [if_neg h, if_neg h]; rfl
theorem wl_31_0 {Sh : List mm_C} {scr : Option (Nat × (Nat → Int32))} {rb : Bool} {Cs : Nat → List Value → mm_M → (Int32 → mm_M → Prop) → (mm_M → Prop) → Prop} {K : Nat → mm_L → List Value → mm_M → Prop} {RI : Int32 → mm_M → Prop} {RV : mm_M → Prop} {cut : Nat → Bool} {n : Nat} {loc : mm_L} {st : List Value} {μ : mm_M} : mm_wp Sh scr rb Cs K RI RV lab_31 cut (n + 1) 0 loc st μ = (if cut 0 = true then K 0 loc st μ else mm_wpB Sh scr rb Cs (mm_wp Sh scr rb Cs K RI RV lab_31 cut n) RI RV [(some (.aload_n 0), 0, 0, [], 0), (some (.getfield 25), 5, 4, [], 0), (some (.iload_n 1), 0, 0, [], 0), (some (.baload), 0, 0, [], 0), (some (.ifCond .ne 21), 27, 0, [], 0), (some (.iload_n 2), 0, 0, [], 0), (some (.aload_n 0), 0, 0, [], 0), (some (.getfield 9), 5, 0, [], 0), (some (.iload_n 1), 0, 0, [], 0), (some (.iaload), 0, 0, [], 0), (some (.ishr), 0, 0, [], 0), (some (.iconst 1), 0, 0, [], 1), (some (.iand), 0, 0, [], 0), (some (.iconst 1), 0, 0, [], 1), (some (.if_icmp .ne 7), 27, 0, [], 0), (some (.iconst 1), 0, 0, [], 1), (some (.goto 4), 28, 0, [], 0)] loc st μ) := by
  unfold mm_wp
  by_cases h : cut 0 = true
  · rw [if_pos h, if_pos h]
  · rw [if_neg h, if_neg h]; rfl
theorem wl_31_27 {Sh : List mm_C} {scr : Option (Nat × (Nat → Int32))} {rb : Bool} {Cs : Nat → List Value → mm_M → (Int32 → mm_M → Prop) → (mm_M → Prop) → Prop} {K : Nat → mm_L → List Value → mm_M → Prop} {RI : Int32 → mm_M → Prop} {RV : mm_M → Prop} {cut : Nat → Bool} {n : Nat} {loc : mm_L} {st : List Value} {μ : mm_M} : mm_wp Sh scr rb Cs K RI RV lab_31 cut (n + 1) 27 loc st μ = (if cut 27 = true then K 27 loc st μ else mm_wpB Sh scr rb Cs (mm_wp Sh scr rb Cs K RI RV lab_31 cut n) RI RV [(some (.iconst 0), 0, 0, [], 0), (none, 28, 0, [], 0)] loc st μ) := by
  unfold mm_wp
  by_cases h : cut 27 = true
  · rw [if_pos h, if_pos h]
  · rw [if_neg h, if_neg h]; rfl
theorem wl_31_28 {Sh : List mm_C} {scr : Option (Nat × (Nat → Int32))} {rb : Bool} {Cs : Nat → List Value → mm_M → (Int32 → mm_M → Prop) → (mm_M → Prop) → Prop} {K : Nat → mm_L → List Value → mm_M → Prop} {RI : Int32 → mm_M → Prop} {RV : mm_M → Prop} {cut : Nat → Bool} {n : Nat} {loc : mm_L} {st : List Value} {μ : mm_M} : mm_wp Sh scr rb Cs K RI RV lab_31 cut (n + 1) 28 loc st μ = (if cut 28 = true then K 28 loc st μ else mm_wpB Sh scr rb Cs (mm_wp Sh scr rb Cs K RI RV lab_31 cut n) RI RV [(some (.ireturn), 0, 0, [], 0)] loc st μ) := by
  unfold mm_wp
  by_cases h : cut 28 = true
  · rw [if_pos h, if_pos h]
  · rw [if_neg h, if_neg h]; rfl
theorem wl_32_0 {Sh : List mm_C} {scr : Option (Nat × (Nat → Int32))} {rb : Bool} {Cs : Nat → List Value → mm_M → (Int32 → mm_M → Prop) → (mm_M → Prop) → Prop} {K : Nat → mm_L → List Value → mm_M → Prop} {RI : Int32 → mm_M → Prop} {RV : mm_M → Prop} {cut : Nat → Bool} {n : Nat} {loc : mm_L} {st : List Value} {μ : mm_M} : mm_wp Sh scr rb Cs K RI RV lab_32 cut (n + 1) 0 loc st μ = (if cut 0 = true then K 0 loc st μ else mm_wpB Sh scr rb Cs (mm_wp Sh scr rb Cs K RI RV lab_32 cut n) RI RV [(some (.iconst 0), 0, 0, [], 0), (some (.istore_n 2), 0, 0, [], 0), (some (.iconst 0), 0, 0, [], 0), (some (.istore_n 3), 0, 0, [], 0), (none, 4, 0, [], 0)] loc st μ) := by
  unfold mm_wp
  by_cases h : cut 0 = true
  · rw [if_pos h, if_pos h]
  · rw [if_neg h, if_neg h]; rfl
theorem wl_32_4 {Sh : List mm_C} {scr : Option (Nat × (Nat → Int32))} {rb : Bool} {Cs : Nat → List Value → mm_M → (Int32 → mm_M → Prop) → (mm_M → Prop) → Prop} {K : Nat → mm_L → List Value → mm_M → Prop} {RI : Int32 → mm_M → Prop} {RV : mm_M → Prop} {cut : Nat → Bool} {n : Nat} {loc : mm_L} {st : List Value} {μ : mm_M} : mm_wp Sh scr rb Cs K RI RV lab_32 cut (n + 1) 4 loc st μ = (if cut 4 = true then K 4 loc st μ else mm_wpB Sh scr rb Cs (mm_wp Sh scr rb Cs K RI RV lab_32 cut n) RI RV [(some (.iload_n 3), 0, 0, [], 0), (some (.aload_n 0), 0, 0, [], 0), (some (.getfield 31), 5, 6, [], 0), (some (.if_icmp .ge 27), 36, 0, [], 0), (some (.aload_n 0), 0, 0, [], 0), (some (.iload_n 3), 0, 0, [], 0), (some (.iload_n 1), 0, 0, [], 0), (some (.invokevirtual 47), 31, 3, [], 0), (some (.ifCond .eq 12), 30, 0, [], 0), (some (.iload_n 2), 0, 0, [], 0), (some (.aload_n 0), 0, 0, [], 0), (some (.getfield 15), 5, 1, [], 0), (some (.iload_n 3), 0, 0, [], 0), (some (.iaload), 0, 0, [], 0), (some (.iadd), 0, 0, [], 0), (some (.istore_n 2), 0, 0, [], 0), (none, 30, 0, [], 0)] loc st μ) := by
  unfold mm_wp
  by_cases h : cut 4 = true
  · rw [if_pos h, if_pos h]
  · rw [if_neg h, if_neg h]; rfl
theorem wl_32_30 {Sh : List mm_C} {scr : Option (Nat × (Nat → Int32))} {rb : Bool} {Cs : Nat → List Value → mm_M → (Int32 → mm_M → Prop) → (mm_M → Prop) → Prop} {K : Nat → mm_L → List Value → mm_M → Prop} {RI : Int32 → mm_M → Prop} {RV : mm_M → Prop} {cut : Nat → Bool} {n : Nat} {loc : mm_L} {st : List Value} {μ : mm_M} : mm_wp Sh scr rb Cs K RI RV lab_32 cut (n + 1) 30 loc st μ = (if cut 30 = true then K 30 loc st μ else mm_wpB Sh scr rb Cs (mm_wp Sh scr rb Cs K RI RV lab_32 cut n) RI RV [(some (.iinc 3 1), 0, 0, [], 1), (some (.goto (-29)), 4, 0, [], 0)] loc st μ) := by
  unfold mm_wp
  by_cases h : cut 30 = true
  · rw [if_pos h, if_pos h]
  · rw [if_neg h, if_neg h]; rfl
theorem wl_32_36 {Sh : List mm_C} {scr : Option (Nat × (Nat → Int32))} {rb : Bool} {Cs : Nat → List Value → mm_M → (Int32 → mm_M → Prop) → (mm_M → Prop) → Prop} {K : Nat → mm_L → List Value → mm_M → Prop} {RI : Int32 → mm_M → Prop} {RV : mm_M → Prop} {cut : Nat → Bool} {n : Nat} {loc : mm_L} {st : List Value} {μ : mm_M} : mm_wp Sh scr rb Cs K RI RV lab_32 cut (n + 1) 36 loc st μ = (if cut 36 = true then K 36 loc st μ else mm_wpB Sh scr rb Cs (mm_wp Sh scr rb Cs K RI RV lab_32 cut n) RI RV [(some (.iload_n 2), 0, 0, [], 0), (some (.ireturn), 0, 0, [], 0)] loc st μ) := by
  unfold mm_wp
  by_cases h : cut 36 = true
  · rw [if_pos h, if_pos h]
  · rw [if_neg h, if_neg h]; rfl
theorem wl_33_0 {Sh : List mm_C} {scr : Option (Nat × (Nat → Int32))} {rb : Bool} {Cs : Nat → List Value → mm_M → (Int32 → mm_M → Prop) → (mm_M → Prop) → Prop} {K : Nat → mm_L → List Value → mm_M → Prop} {RI : Int32 → mm_M → Prop} {RV : mm_M → Prop} {cut : Nat → Bool} {n : Nat} {loc : mm_L} {st : List Value} {μ : mm_M} : mm_wp Sh scr rb Cs K RI RV lab_33 cut (n + 1) 0 loc st μ = (if cut 0 = true then K 0 loc st μ else mm_wpB Sh scr rb Cs (mm_wp Sh scr rb Cs K RI RV lab_33 cut n) RI RV [(some (.iload_n 2), 0, 0, [], 0), (some (.istore 5), 0, 0, [], 0), (some (.iconst 0), 0, 0, [], 0), (some (.istore 6), 0, 0, [], 0), (none, 6, 0, [], 0)] loc st μ) := by
  unfold mm_wp
  by_cases h : cut 0 = true
  · rw [if_pos h, if_pos h]
  · rw [if_neg h, if_neg h]; rfl
theorem wl_33_6 {Sh : List mm_C} {scr : Option (Nat × (Nat → Int32))} {rb : Bool} {Cs : Nat → List Value → mm_M → (Int32 → mm_M → Prop) → (mm_M → Prop) → Prop} {K : Nat → mm_L → List Value → mm_M → Prop} {RI : Int32 → mm_M → Prop} {RV : mm_M → Prop} {cut : Nat → Bool} {n : Nat} {loc : mm_L} {st : List Value} {μ : mm_M} : mm_wp Sh scr rb Cs K RI RV lab_33 cut (n + 1) 6 loc st μ = (if cut 6 = true then K 6 loc st μ else mm_wpB Sh scr rb Cs (mm_wp Sh scr rb Cs K RI RV lab_33 cut n) RI RV [(some (.iload 6), 0, 0, [], 0), (some (.aload_n 0), 0, 0, [], 0), (some (.getfield 31), 5, 6, [], 0), (some (.if_icmp .ge 75), 87, 0, [], 0), (some (.iload 5), 0, 0, [], 0), (some (.ifCond .le 70), 87, 0, [], 0), (some (.aload_n 0), 0, 0, [], 0), (some (.getfield 28), 5, 5, [], 0), (some (.iload 6), 0, 0, [], 0), (some (.iaload), 0, 0, [], 0), (some (.istore 7), 0, 0, [], 0), (some (.aload_n 0), 0, 0, [], 0), (some (.iload 7), 0, 0, [], 0), (some (.iload_n 1), 0, 0, [], 0), (some (.invokevirtual 47), 31, 3, [], 0), (some (.ifCond .eq 45), 81, 0, [], 0), (some (.aload_n 0), 0, 0, [], 0), (some (.getfield 15), 5, 1, [], 0), (some (.iload 7), 0, 0, [], 0), (some (.iaload), 0, 0, [], 0), (some (.iload 5), 0, 0, [], 0), (some (.invokestatic 51), 1000, 0, [], 0), (some (.istore 8), 0, 0, [], 0), (some (.aload_n 0), 0, 0, [], 0), (some (.getfield 15), 5, 1, [], 0), (some (.iload 7), 0, 0, [], 0), (some (.dup2), 0, 0, [], 0), (some (.iaload), 0, 0, [], 0), (some (.iload 8), 0, 0, [], 0), (some (.isub), 0, 0, [], 0), (some (.iastore), 0, 0, [], 0), (some (.aload_n 3), 0, 0, [], 0), (some (.iload 4), 0, 0, [], 0), (some (.iload 7), 0, 0, [], 0), (some (.iadd), 0, 0, [], 0), (some (.iload 8), 0, 0, [], 0), (some (.iastore), 0, 0, [], 0), (some (.iload 5), 0, 0, [], 0), (some (.iload 8), 0, 0, [], 0), (some (.isub), 0, 0, [], 0), (some (.istore 5), 0, 0, [], 0), (none, 81, 0, [], 0)] loc st μ) := by
  unfold mm_wp
  by_cases h : cut 6 = true
  · rw [if_pos h, if_pos h]
  · rw [if_neg h, if_neg h]; rfl
theorem wl_33_81 {Sh : List mm_C} {scr : Option (Nat × (Nat → Int32))} {rb : Bool} {Cs : Nat → List Value → mm_M → (Int32 → mm_M → Prop) → (mm_M → Prop) → Prop} {K : Nat → mm_L → List Value → mm_M → Prop} {RI : Int32 → mm_M → Prop} {RV : mm_M → Prop} {cut : Nat → Bool} {n : Nat} {loc : mm_L} {st : List Value} {μ : mm_M} : mm_wp Sh scr rb Cs K RI RV lab_33 cut (n + 1) 81 loc st μ = (if cut 81 = true then K 81 loc st μ else mm_wpB Sh scr rb Cs (mm_wp Sh scr rb Cs K RI RV lab_33 cut n) RI RV [(some (.iinc 6 1), 0, 0, [], 1), (some (.goto (-78)), 6, 0, [], 0)] loc st μ) := by
  unfold mm_wp
  by_cases h : cut 81 = true
  · rw [if_pos h, if_pos h]
  · rw [if_neg h, if_neg h]; rfl
theorem wl_33_87 {Sh : List mm_C} {scr : Option (Nat × (Nat → Int32))} {rb : Bool} {Cs : Nat → List Value → mm_M → (Int32 → mm_M → Prop) → (mm_M → Prop) → Prop} {K : Nat → mm_L → List Value → mm_M → Prop} {RI : Int32 → mm_M → Prop} {RV : mm_M → Prop} {cut : Nat → Bool} {n : Nat} {loc : mm_L} {st : List Value} {μ : mm_M} : mm_wp Sh scr rb Cs K RI RV lab_33 cut (n + 1) 87 loc st μ = (if cut 87 = true then K 87 loc st μ else mm_wpB Sh scr rb Cs (mm_wp Sh scr rb Cs K RI RV lab_33 cut n) RI RV [(some (.return_), 0, 0, [], 0)] loc st μ) := by
  unfold mm_wp
  by_cases h : cut 87 = true
  · rw [if_pos h, if_pos h]
  · rw [if_neg h, if_neg h]; rfl
theorem wl_34_0 {Sh : List mm_C} {scr : Option (Nat × (Nat → Int32))} {rb : Bool} {Cs : Nat → List Value → mm_M → (Int32 → mm_M → Prop) → (mm_M → Prop) → Prop} {K : Nat → mm_L → List Value → mm_M → Prop} {RI : Int32 → mm_M → Prop} {RV : mm_M → Prop} {cut : Nat → Bool} {n : Nat} {loc : mm_L} {st : List Value} {μ : mm_M} : mm_wp Sh scr rb Cs K RI RV lab_34 cut (n + 1) 0 loc st μ = (if cut 0 = true then K 0 loc st μ else mm_wpB Sh scr rb Cs (mm_wp Sh scr rb Cs K RI RV lab_34 cut n) RI RV [(some (.iconst 0), 0, 0, [], 0), (some (.istore_n 3), 0, 0, [], 0), (none, 2, 0, [], 0)] loc st μ) := by
  unfold mm_wp
  by_cases h : cut 0 = true
  · rw [if_pos h, if_pos h]
  · rw [if_neg h, if_neg h]; rfl
theorem wl_34_2 {Sh : List mm_C} {scr : Option (Nat × (Nat → Int32))} {rb : Bool} {Cs : Nat → List Value → mm_M → (Int32 → mm_M → Prop) → (mm_M → Prop) → Prop} {K : Nat → mm_L → List Value → mm_M → Prop} {RI : Int32 → mm_M → Prop} {RV : mm_M → Prop} {cut : Nat → Bool} {n : Nat} {loc : mm_L} {st : List Value} {μ : mm_M} : mm_wp Sh scr rb Cs K RI RV lab_34 cut (n + 1) 2 loc st μ = (if cut 2 = true then K 2 loc st μ else mm_wpB Sh scr rb Cs (mm_wp Sh scr rb Cs K RI RV lab_34 cut n) RI RV [(some (.iload_n 3), 0, 0, [], 0), (some (.aload_n 0), 0, 0, [], 0), (some (.getfield 31), 5, 6, [], 0), (some (.if_icmp .ge 28), 35, 0, [], 0), (some (.aload_n 0), 0, 0, [], 0), (some (.getfield 25), 5, 4, [], 0), (some (.iload_n 3), 0, 0, [], 0), (some (.baload), 0, 0, [], 0), (some (.ifCond .eq 13), 29, 0, [], 0), (some (.aload_n 1), 0, 0, [], 0), (some (.iload_n 2), 0, 0, [], 0), (some (.iload_n 3), 0, 0, [], 0), (some (.iadd), 0, 0, [], 0), (some (.iaload), 0, 0, [], 0), (some (.ifCond .le 5), 29, 0, [], 0), (some (.iconst 1), 0, 0, [], 1), (some (.ireturn), 0, 0, [], 0)] loc st μ) := by
  unfold mm_wp
  by_cases h : cut 2 = true
  · rw [if_pos h, if_pos h]
  · rw [if_neg h, if_neg h]; rfl
theorem wl_34_29 {Sh : List mm_C} {scr : Option (Nat × (Nat → Int32))} {rb : Bool} {Cs : Nat → List Value → mm_M → (Int32 → mm_M → Prop) → (mm_M → Prop) → Prop} {K : Nat → mm_L → List Value → mm_M → Prop} {RI : Int32 → mm_M → Prop} {RV : mm_M → Prop} {cut : Nat → Bool} {n : Nat} {loc : mm_L} {st : List Value} {μ : mm_M} : mm_wp Sh scr rb Cs K RI RV lab_34 cut (n + 1) 29 loc st μ = (if cut 29 = true then K 29 loc st μ else mm_wpB Sh scr rb Cs (mm_wp Sh scr rb Cs K RI RV lab_34 cut n) RI RV [(some (.iinc 3 1), 0, 0, [], 1), (some (.goto (-30)), 2, 0, [], 0)] loc st μ) := by
  unfold mm_wp
  by_cases h : cut 29 = true
  · rw [if_pos h, if_pos h]
  · rw [if_neg h, if_neg h]; rfl
theorem wl_34_35 {Sh : List mm_C} {scr : Option (Nat × (Nat → Int32))} {rb : Bool} {Cs : Nat → List Value → mm_M → (Int32 → mm_M → Prop) → (mm_M → Prop) → Prop} {K : Nat → mm_L → List Value → mm_M → Prop} {RI : Int32 → mm_M → Prop} {RV : mm_M → Prop} {cut : Nat → Bool} {n : Nat} {loc : mm_L} {st : List Value} {μ : mm_M} : mm_wp Sh scr rb Cs K RI RV lab_34 cut (n + 1) 35 loc st μ = (if cut 35 = true then K 35 loc st μ else mm_wpB Sh scr rb Cs (mm_wp Sh scr rb Cs K RI RV lab_34 cut n) RI RV [(some (.iconst 0), 0, 0, [], 0), (some (.ireturn), 0, 0, [], 0)] loc st μ) := by
  unfold mm_wp
  by_cases h : cut 35 = true
  · rw [if_pos h, if_pos h]
  · rw [if_neg h, if_neg h]; rfl
theorem wl_35_0 {Sh : List mm_C} {scr : Option (Nat × (Nat → Int32))} {rb : Bool} {Cs : Nat → List Value → mm_M → (Int32 → mm_M → Prop) → (mm_M → Prop) → Prop} {K : Nat → mm_L → List Value → mm_M → Prop} {RI : Int32 → mm_M → Prop} {RV : mm_M → Prop} {cut : Nat → Bool} {n : Nat} {loc : mm_L} {st : List Value} {μ : mm_M} : mm_wp Sh scr rb Cs K RI RV lab_35 cut (n + 1) 0 loc st μ = (if cut 0 = true then K 0 loc st μ else mm_wpB Sh scr rb Cs (mm_wp Sh scr rb Cs K RI RV lab_35 cut n) RI RV [(some (.iconst 0), 0, 0, [], 0), (some (.istore_n 2), 0, 0, [], 0), (some (.iconst 0), 0, 0, [], 0), (some (.istore_n 3), 0, 0, [], 0), (none, 4, 0, [], 0)] loc st μ) := by
  unfold mm_wp
  by_cases h : cut 0 = true
  · rw [if_pos h, if_pos h]
  · rw [if_neg h, if_neg h]; rfl
theorem wl_35_4 {Sh : List mm_C} {scr : Option (Nat × (Nat → Int32))} {rb : Bool} {Cs : Nat → List Value → mm_M → (Int32 → mm_M → Prop) → (mm_M → Prop) → Prop} {K : Nat → mm_L → List Value → mm_M → Prop} {RI : Int32 → mm_M → Prop} {RV : mm_M → Prop} {cut : Nat → Bool} {n : Nat} {loc : mm_L} {st : List Value} {μ : mm_M} : mm_wp Sh scr rb Cs K RI RV lab_35 cut (n + 1) 4 loc st μ = (if cut 4 = true then K 4 loc st μ else mm_wpB Sh scr rb Cs (mm_wp Sh scr rb Cs K RI RV lab_35 cut n) RI RV [(some (.iload_n 3), 0, 0, [], 0), (some (.aload_n 0), 0, 0, [], 0), (some (.getfield 31), 5, 6, [], 0), (some (.if_icmp .ge 34), 43, 0, [], 0), (some (.aload_n 0), 0, 0, [], 0), (some (.iload_n 3), 0, 0, [], 0), (some (.iload_n 1), 0, 0, [], 0), (some (.invokevirtual 57), 29, 3, [], 0), (some (.ifCond .ne 19), 37, 0, [], 0), (some (.iload_n 2), 0, 0, [], 0), (some (.aload_n 0), 0, 0, [], 0), (some (.getfield 15), 5, 1, [], 0), (some (.iload_n 3), 0, 0, [], 0), (some (.iaload), 0, 0, [], 0), (some (.iadd), 0, 0, [], 0), (some (.istore_n 2), 0, 0, [], 0), (some (.aload_n 0), 0, 0, [], 0), (some (.getfield 15), 5, 1, [], 0), (some (.iload_n 3), 0, 0, [], 0), (some (.iconst 0), 0, 0, [], 0), (some (.iastore), 0, 0, [], 0), (none, 37, 0, [], 0)] loc st μ) := by
  unfold mm_wp
  by_cases h : cut 4 = true
  · rw [if_pos h, if_pos h]
  · rw [if_neg h, if_neg h]; rfl
theorem wl_35_37 {Sh : List mm_C} {scr : Option (Nat × (Nat → Int32))} {rb : Bool} {Cs : Nat → List Value → mm_M → (Int32 → mm_M → Prop) → (mm_M → Prop) → Prop} {K : Nat → mm_L → List Value → mm_M → Prop} {RI : Int32 → mm_M → Prop} {RV : mm_M → Prop} {cut : Nat → Bool} {n : Nat} {loc : mm_L} {st : List Value} {μ : mm_M} : mm_wp Sh scr rb Cs K RI RV lab_35 cut (n + 1) 37 loc st μ = (if cut 37 = true then K 37 loc st μ else mm_wpB Sh scr rb Cs (mm_wp Sh scr rb Cs K RI RV lab_35 cut n) RI RV [(some (.iinc 3 1), 0, 0, [], 1), (some (.goto (-36)), 4, 0, [], 0)] loc st μ) := by
  unfold mm_wp
  by_cases h : cut 37 = true
  · rw [if_pos h, if_pos h]
  · rw [if_neg h, if_neg h]; rfl
theorem wl_35_43 {Sh : List mm_C} {scr : Option (Nat × (Nat → Int32))} {rb : Bool} {Cs : Nat → List Value → mm_M → (Int32 → mm_M → Prop) → (mm_M → Prop) → Prop} {K : Nat → mm_L → List Value → mm_M → Prop} {RI : Int32 → mm_M → Prop} {RV : mm_M → Prop} {cut : Nat → Bool} {n : Nat} {loc : mm_L} {st : List Value} {μ : mm_M} : mm_wp Sh scr rb Cs K RI RV lab_35 cut (n + 1) 43 loc st μ = (if cut 43 = true then K 43 loc st μ else mm_wpB Sh scr rb Cs (mm_wp Sh scr rb Cs K RI RV lab_35 cut n) RI RV [(some (.iload_n 2), 0, 0, [], 0), (some (.ireturn), 0, 0, [], 0)] loc st μ) := by
  unfold mm_wp
  by_cases h : cut 43 = true
  · rw [if_pos h, if_pos h]
  · rw [if_neg h, if_neg h]; rfl
theorem wl_36_0 {Sh : List mm_C} {scr : Option (Nat × (Nat → Int32))} {rb : Bool} {Cs : Nat → List Value → mm_M → (Int32 → mm_M → Prop) → (mm_M → Prop) → Prop} {K : Nat → mm_L → List Value → mm_M → Prop} {RI : Int32 → mm_M → Prop} {RV : mm_M → Prop} {cut : Nat → Bool} {n : Nat} {loc : mm_L} {st : List Value} {μ : mm_M} : mm_wp Sh scr rb Cs K RI RV lab_36 cut (n + 1) 0 loc st μ = (if cut 0 = true then K 0 loc st μ else mm_wpB Sh scr rb Cs (mm_wp Sh scr rb Cs K RI RV lab_36 cut n) RI RV [(some (.aload_n 0), 0, 0, [], 0), (some (.getfield 30), 6, 6, [], 0), (some (.aload_n 1), 0, 0, [], 0), (some (.getfield 34), 4, 6, [], 0), (some (.if_icmp .eq 7), 15, 0, [], 0), (some (.iconst 1), 0, 0, [], 1), (some (.goto 4), 16, 0, [], 0)] loc st μ) := by
  unfold mm_wp
  by_cases h : cut 0 = true
  · rw [if_pos h, if_pos h]
  · rw [if_neg h, if_neg h]; rfl
theorem wl_36_15 {Sh : List mm_C} {scr : Option (Nat × (Nat → Int32))} {rb : Bool} {Cs : Nat → List Value → mm_M → (Int32 → mm_M → Prop) → (mm_M → Prop) → Prop} {K : Nat → mm_L → List Value → mm_M → Prop} {RI : Int32 → mm_M → Prop} {RV : mm_M → Prop} {cut : Nat → Bool} {n : Nat} {loc : mm_L} {st : List Value} {μ : mm_M} : mm_wp Sh scr rb Cs K RI RV lab_36 cut (n + 1) 15 loc st μ = (if cut 15 = true then K 15 loc st μ else mm_wpB Sh scr rb Cs (mm_wp Sh scr rb Cs K RI RV lab_36 cut n) RI RV [(some (.iconst 0), 0, 0, [], 0), (none, 16, 0, [], 0)] loc st μ) := by
  unfold mm_wp
  by_cases h : cut 15 = true
  · rw [if_pos h, if_pos h]
  · rw [if_neg h, if_neg h]; rfl
theorem wl_36_16 {Sh : List mm_C} {scr : Option (Nat × (Nat → Int32))} {rb : Bool} {Cs : Nat → List Value → mm_M → (Int32 → mm_M → Prop) → (mm_M → Prop) → Prop} {K : Nat → mm_L → List Value → mm_M → Prop} {RI : Int32 → mm_M → Prop} {RV : mm_M → Prop} {cut : Nat → Bool} {n : Nat} {loc : mm_L} {st : List Value} {μ : mm_M} : mm_wp Sh scr rb Cs K RI RV lab_36 cut (n + 1) 16 loc st μ = (if cut 16 = true then K 16 loc st μ else mm_wpB Sh scr rb Cs (mm_wp Sh scr rb Cs K RI RV lab_36 cut n) RI RV [(some (.istore 4), 0, 0, [], 0), (some (.aload_n 0), 0, 0, [], 0), (some (.aload_n 1), 0, 0, [], 0), (some (.getfield 34), 4, 6, [], 0), (some (.putfield 30), 6, 6, [], 0), (some (.iconst 0), 0, 0, [], 0), (some (.istore 5), 0, 0, [], 0), (none, 29, 0, [], 0)] loc st μ) := by
  unfold mm_wp
  by_cases h : cut 16 = true
  · rw [if_pos h, if_pos h]
  · rw [if_neg h, if_neg h]; rfl
theorem wl_36_29 {Sh : List mm_C} {scr : Option (Nat × (Nat → Int32))} {rb : Bool} {Cs : Nat → List Value → mm_M → (Int32 → mm_M → Prop) → (mm_M → Prop) → Prop} {K : Nat → mm_L → List Value → mm_M → Prop} {RI : Int32 → mm_M → Prop} {RV : mm_M → Prop} {cut : Nat → Bool} {n : Nat} {loc : mm_L} {st : List Value} {μ : mm_M} : mm_wp Sh scr rb Cs K RI RV lab_36 cut (n + 1) 29 loc st μ = (if cut 29 = true then K 29 loc st μ else mm_wpB Sh scr rb Cs (mm_wp Sh scr rb Cs K RI RV lab_36 cut n) RI RV [(some (.iload 5), 0, 0, [], 0), (some (.iconst 3), 0, 0, [], 3), (some (.if_icmp .ge 52), 84, 0, [], 0), (some (.aload_n 2), 0, 0, [], 0), (some (.iconst 1), 0, 0, [], 1), (some (.iload 5), 0, 0, [], 0), (some (.ishl), 0, 0, [], 0), (some (.invokevirtual 39), 32, 2, [], 0), (some (.istore 6), 0, 0, [], 0), (some (.iload 4), 0, 0, [], 0), (some (.ifCond .ne 15), 62, 0, [], 0), (some (.aload_n 0), 0, 0, [], 0), (some (.getfield 9), 6, 0, [], 0), (some (.iload 5), 0, 0, [], 0), (some (.iaload), 0, 0, [], 0), (some (.iload 6), 0, 0, [], 0), (some (.if_icmp .eq 7), 66, 0, [], 0), (none, 62, 0, [], 0)] loc st μ) := by
  unfold mm_wp
  by_cases h : cut 29 = true
  · rw [if_pos h, if_pos h]
  · rw [if_neg h, if_neg h]; rfl
theorem wl_36_62 {Sh : List mm_C} {scr : Option (Nat × (Nat → Int32))} {rb : Bool} {Cs : Nat → List Value → mm_M → (Int32 → mm_M → Prop) → (mm_M → Prop) → Prop} {K : Nat → mm_L → List Value → mm_M → Prop} {RI : Int32 → mm_M → Prop} {RV : mm_M → Prop} {cut : Nat → Bool} {n : Nat} {loc : mm_L} {st : List Value} {μ : mm_M} : mm_wp Sh scr rb Cs K RI RV lab_36 cut (n + 1) 62 loc st μ = (if cut 62 = true then K 62 loc st μ else mm_wpB Sh scr rb Cs (mm_wp Sh scr rb Cs K RI RV lab_36 cut n) RI RV [(some (.iconst 1), 0, 0, [], 1), (some (.goto 4), 67, 0, [], 0)] loc st μ) := by
  unfold mm_wp
  by_cases h : cut 62 = true
  · rw [if_pos h, if_pos h]
  · rw [if_neg h, if_neg h]; rfl
theorem wl_36_66 {Sh : List mm_C} {scr : Option (Nat × (Nat → Int32))} {rb : Bool} {Cs : Nat → List Value → mm_M → (Int32 → mm_M → Prop) → (mm_M → Prop) → Prop} {K : Nat → mm_L → List Value → mm_M → Prop} {RI : Int32 → mm_M → Prop} {RV : mm_M → Prop} {cut : Nat → Bool} {n : Nat} {loc : mm_L} {st : List Value} {μ : mm_M} : mm_wp Sh scr rb Cs K RI RV lab_36 cut (n + 1) 66 loc st μ = (if cut 66 = true then K 66 loc st μ else mm_wpB Sh scr rb Cs (mm_wp Sh scr rb Cs K RI RV lab_36 cut n) RI RV [(some (.iconst 0), 0, 0, [], 0), (none, 67, 0, [], 0)] loc st μ) := by
  unfold mm_wp
  by_cases h : cut 66 = true
  · rw [if_pos h, if_pos h]
  · rw [if_neg h, if_neg h]; rfl
theorem wl_36_67 {Sh : List mm_C} {scr : Option (Nat × (Nat → Int32))} {rb : Bool} {Cs : Nat → List Value → mm_M → (Int32 → mm_M → Prop) → (mm_M → Prop) → Prop} {K : Nat → mm_L → List Value → mm_M → Prop} {RI : Int32 → mm_M → Prop} {RV : mm_M → Prop} {cut : Nat → Bool} {n : Nat} {loc : mm_L} {st : List Value} {μ : mm_M} : mm_wp Sh scr rb Cs K RI RV lab_36 cut (n + 1) 67 loc st μ = (if cut 67 = true then K 67 loc st μ else mm_wpB Sh scr rb Cs (mm_wp Sh scr rb Cs K RI RV lab_36 cut n) RI RV [(some (.istore 4), 0, 0, [], 0), (some (.aload_n 0), 0, 0, [], 0), (some (.getfield 9), 6, 0, [], 0), (some (.iload 5), 0, 0, [], 0), (some (.iload 6), 0, 0, [], 0), (some (.iastore), 0, 0, [], 0), (some (.iinc 5 1), 0, 0, [], 1), (some (.goto (-52)), 29, 0, [], 0)] loc st μ) := by
  unfold mm_wp
  by_cases h : cut 67 = true
  · rw [if_pos h, if_pos h]
  · rw [if_neg h, if_neg h]; rfl
theorem wl_36_84 {Sh : List mm_C} {scr : Option (Nat × (Nat → Int32))} {rb : Bool} {Cs : Nat → List Value → mm_M → (Int32 → mm_M → Prop) → (mm_M → Prop) → Prop} {K : Nat → mm_L → List Value → mm_M → Prop} {RI : Int32 → mm_M → Prop} {RV : mm_M → Prop} {cut : Nat → Bool} {n : Nat} {loc : mm_L} {st : List Value} {μ : mm_M} : mm_wp Sh scr rb Cs K RI RV lab_36 cut (n + 1) 84 loc st μ = (if cut 84 = true then K 84 loc st μ else mm_wpB Sh scr rb Cs (mm_wp Sh scr rb Cs K RI RV lab_36 cut n) RI RV [(some (.iconst 0), 0, 0, [], 0), (some (.istore 5), 0, 0, [], 0), (none, 87, 0, [], 0)] loc st μ) := by
  unfold mm_wp
  by_cases h : cut 84 = true
  · rw [if_pos h, if_pos h]
  · rw [if_neg h, if_neg h]; rfl
theorem wl_36_87 {Sh : List mm_C} {scr : Option (Nat × (Nat → Int32))} {rb : Bool} {Cs : Nat → List Value → mm_M → (Int32 → mm_M → Prop) → (mm_M → Prop) → Prop} {K : Nat → mm_L → List Value → mm_M → Prop} {RI : Int32 → mm_M → Prop} {RV : mm_M → Prop} {cut : Nat → Bool} {n : Nat} {loc : mm_L} {st : List Value} {μ : mm_M} : mm_wp Sh scr rb Cs K RI RV lab_36 cut (n + 1) 87 loc st μ = (if cut 87 = true then K 87 loc st μ else mm_wpB Sh scr rb Cs (mm_wp Sh scr rb Cs K RI RV lab_36 cut n) RI RV [(some (.iload 5), 0, 0, [], 0), (some (.iconst 2), 0, 0, [], 2), (some (.if_icmp .ge 46), 136, 0, [], 0), (some (.iload 4), 0, 0, [], 0), (some (.ifCond .ne 17), 112, 0, [], 0), (some (.aload_n 0), 0, 0, [], 0), (some (.getfield 15), 6, 1, [], 0), (some (.iload 5), 0, 0, [], 0), (some (.iaload), 0, 0, [], 0), (some (.aload_n 3), 0, 0, [], 0), (some (.iload 5), 0, 0, [], 0), (some (.iaload), 0, 0, [], 0), (some (.if_icmp .eq 7), 116, 0, [], 0), (none, 112, 0, [], 0)] loc st μ) := by
  unfold mm_wp
  by_cases h : cut 87 = true
  · rw [if_pos h, if_pos h]
  · rw [if_neg h, if_neg h]; rfl
theorem wl_36_112 {Sh : List mm_C} {scr : Option (Nat × (Nat → Int32))} {rb : Bool} {Cs : Nat → List Value → mm_M → (Int32 → mm_M → Prop) → (mm_M → Prop) → Prop} {K : Nat → mm_L → List Value → mm_M → Prop} {RI : Int32 → mm_M → Prop} {RV : mm_M → Prop} {cut : Nat → Bool} {n : Nat} {loc : mm_L} {st : List Value} {μ : mm_M} : mm_wp Sh scr rb Cs K RI RV lab_36 cut (n + 1) 112 loc st μ = (if cut 112 = true then K 112 loc st μ else mm_wpB Sh scr rb Cs (mm_wp Sh scr rb Cs K RI RV lab_36 cut n) RI RV [(some (.iconst 1), 0, 0, [], 1), (some (.goto 4), 117, 0, [], 0)] loc st μ) := by
  unfold mm_wp
  by_cases h : cut 112 = true
  · rw [if_pos h, if_pos h]
  · rw [if_neg h, if_neg h]; rfl
theorem wl_36_116 {Sh : List mm_C} {scr : Option (Nat × (Nat → Int32))} {rb : Bool} {Cs : Nat → List Value → mm_M → (Int32 → mm_M → Prop) → (mm_M → Prop) → Prop} {K : Nat → mm_L → List Value → mm_M → Prop} {RI : Int32 → mm_M → Prop} {RV : mm_M → Prop} {cut : Nat → Bool} {n : Nat} {loc : mm_L} {st : List Value} {μ : mm_M} : mm_wp Sh scr rb Cs K RI RV lab_36 cut (n + 1) 116 loc st μ = (if cut 116 = true then K 116 loc st μ else mm_wpB Sh scr rb Cs (mm_wp Sh scr rb Cs K RI RV lab_36 cut n) RI RV [(some (.iconst 0), 0, 0, [], 0), (none, 117, 0, [], 0)] loc st μ) := by
  unfold mm_wp
  by_cases h : cut 116 = true
  · rw [if_pos h, if_pos h]
  · rw [if_neg h, if_neg h]; rfl
theorem wl_36_117 {Sh : List mm_C} {scr : Option (Nat × (Nat → Int32))} {rb : Bool} {Cs : Nat → List Value → mm_M → (Int32 → mm_M → Prop) → (mm_M → Prop) → Prop} {K : Nat → mm_L → List Value → mm_M → Prop} {RI : Int32 → mm_M → Prop} {RV : mm_M → Prop} {cut : Nat → Bool} {n : Nat} {loc : mm_L} {st : List Value} {μ : mm_M} : mm_wp Sh scr rb Cs K RI RV lab_36 cut (n + 1) 117 loc st μ = (if cut 117 = true then K 117 loc st μ else mm_wpB Sh scr rb Cs (mm_wp Sh scr rb Cs K RI RV lab_36 cut n) RI RV [(some (.istore 4), 0, 0, [], 0), (some (.aload_n 0), 0, 0, [], 0), (some (.getfield 15), 6, 1, [], 0), (some (.iload 5), 0, 0, [], 0), (some (.aload_n 3), 0, 0, [], 0), (some (.iload 5), 0, 0, [], 0), (some (.iaload), 0, 0, [], 0), (some (.iastore), 0, 0, [], 0), (some (.iinc 5 1), 0, 0, [], 1), (some (.goto (-46)), 87, 0, [], 0)] loc st μ) := by
  unfold mm_wp
  by_cases h : cut 117 = true
  · rw [if_pos h, if_pos h]
  · rw [if_neg h, if_neg h]; rfl
theorem wl_36_136 {Sh : List mm_C} {scr : Option (Nat × (Nat → Int32))} {rb : Bool} {Cs : Nat → List Value → mm_M → (Int32 → mm_M → Prop) → (mm_M → Prop) → Prop} {K : Nat → mm_L → List Value → mm_M → Prop} {RI : Int32 → mm_M → Prop} {RV : mm_M → Prop} {cut : Nat → Bool} {n : Nat} {loc : mm_L} {st : List Value} {μ : mm_M} : mm_wp Sh scr rb Cs K RI RV lab_36 cut (n + 1) 136 loc st μ = (if cut 136 = true then K 136 loc st μ else mm_wpB Sh scr rb Cs (mm_wp Sh scr rb Cs K RI RV lab_36 cut n) RI RV [(some (.iload 4), 0, 0, [], 0), (some (.ifCond .eq 15), 153, 0, [], 0), (some (.aload_n 0), 0, 0, [], 0), (some (.aload_n 1), 0, 0, [], 0), (some (.invokevirtual 45), 37, 2, [], 0), (some (.aload_n 0), 0, 0, [], 0), (some (.aload_n 1), 0, 0, [], 0), (some (.iconst 0), 0, 0, [], 0), (some (.iconst 0), 0, 0, [], 0), (some (.invokestatic 49), 109, 4, [], 0), (none, 153, 0, [], 0)] loc st μ) := by
  unfold mm_wp
  by_cases h : cut 136 = true
  · rw [if_pos h, if_pos h]
  · rw [if_neg h, if_neg h]; rfl
theorem wl_36_153 {Sh : List mm_C} {scr : Option (Nat × (Nat → Int32))} {rb : Bool} {Cs : Nat → List Value → mm_M → (Int32 → mm_M → Prop) → (mm_M → Prop) → Prop} {K : Nat → mm_L → List Value → mm_M → Prop} {RI : Int32 → mm_M → Prop} {RV : mm_M → Prop} {cut : Nat → Bool} {n : Nat} {loc : mm_L} {st : List Value} {μ : mm_M} : mm_wp Sh scr rb Cs K RI RV lab_36 cut (n + 1) 153 loc st μ = (if cut 153 = true then K 153 loc st μ else mm_wpB Sh scr rb Cs (mm_wp Sh scr rb Cs K RI RV lab_36 cut n) RI RV [(some (.return_), 0, 0, [], 0)] loc st μ) := by
  unfold mm_wp
  by_cases h : cut 153 = true
  · rw [if_pos h, if_pos h]
  · rw [if_neg h, if_neg h]; rfl
theorem wl_37_0 {Sh : List mm_C} {scr : Option (Nat × (Nat → Int32))} {rb : Bool} {Cs : Nat → List Value → mm_M → (Int32 → mm_M → Prop) → (mm_M → Prop) → Prop} {K : Nat → mm_L → List Value → mm_M → Prop} {RI : Int32 → mm_M → Prop} {RV : mm_M → Prop} {cut : Nat → Bool} {n : Nat} {loc : mm_L} {st : List Value} {μ : mm_M} : mm_wp Sh scr rb Cs K RI RV lab_37 cut (n + 1) 0 loc st μ = (if cut 0 = true then K 0 loc st μ else mm_wpB Sh scr rb Cs (mm_wp Sh scr rb Cs K RI RV lab_37 cut n) RI RV [(some (.iconst 1), 0, 0, [], 1), (some (.istore_n 2), 0, 0, [], 0), (none, 2, 0, [], 0)] loc st μ) := by
  unfold mm_wp
  by_cases h : cut 0 = true
  · rw [if_pos h, if_pos h]
  · rw [if_neg h, if_neg h]; rfl
theorem wl_37_2 {Sh : List mm_C} {scr : Option (Nat × (Nat → Int32))} {rb : Bool} {Cs : Nat → List Value → mm_M → (Int32 → mm_M → Prop) → (mm_M → Prop) → Prop} {K : Nat → mm_L → List Value → mm_M → Prop} {RI : Int32 → mm_M → Prop} {RV : mm_M → Prop} {cut : Nat → Bool} {n : Nat} {loc : mm_L} {st : List Value} {μ : mm_M} : mm_wp Sh scr rb Cs K RI RV lab_37 cut (n + 1) 2 loc st μ = (if cut 2 = true then K 2 loc st μ else mm_wpB Sh scr rb Cs (mm_wp Sh scr rb Cs K RI RV lab_37 cut n) RI RV [(some (.iload_n 2), 0, 0, [], 0), (some (.bipush 7), 0, 0, [], 7), (some (.if_icmp .gt 50), 55, 0, [], 0), (some (.aload_n 0), 0, 0, [], 0), (some (.getfield 18), 6, 2, [], 0), (some (.iload_n 2), 0, 0, [], 0), (some (.iconst 0), 0, 0, [], 0), (some (.iastore), 0, 0, [], 0), (some (.iconst 0), 0, 0, [], 0), (some (.istore_n 3), 0, 0, [], 0), (none, 17, 0, [], 0)] loc st μ) := by
  unfold mm_wp
  by_cases h : cut 2 = true
  · rw [if_pos h, if_pos h]
  · rw [if_neg h, if_neg h]; rfl
theorem wl_37_17 {Sh : List mm_C} {scr : Option (Nat × (Nat → Int32))} {rb : Bool} {Cs : Nat → List Value → mm_M → (Int32 → mm_M → Prop) → (mm_M → Prop) → Prop} {K : Nat → mm_L → List Value → mm_M → Prop} {RI : Int32 → mm_M → Prop} {RV : mm_M → Prop} {cut : Nat → Bool} {n : Nat} {loc : mm_L} {st : List Value} {μ : mm_M} : mm_wp Sh scr rb Cs K RI RV lab_37 cut (n + 1) 17 loc st μ = (if cut 17 = true then K 17 loc st μ else mm_wpB Sh scr rb Cs (mm_wp Sh scr rb Cs K RI RV lab_37 cut n) RI RV [(some (.iload_n 3), 0, 0, [], 0), (some (.iconst 3), 0, 0, [], 3), (some (.if_icmp .ge 30), 49, 0, [], 0), (some (.aload_n 0), 0, 0, [], 0), (some (.getfield 18), 6, 2, [], 0), (some (.iload_n 2), 0, 0, [], 0), (some (.dup2), 0, 0, [], 0), (some (.iaload), 0, 0, [], 0), (some (.iload_n 2), 0, 0, [], 0), (some (.iload_n 3), 0, 0, [], 0), (some (.ishr), 0, 0, [], 0), (some (.iconst 1), 0, 0, [], 1), (some (.iand), 0, 0, [], 0), (some (.aload_n 0), 0, 0, [], 0), (some (.getfield 9), 6, 0, [], 0), (some (.iload_n 3), 0, 0, [], 0), (some (.iaload), 0, 0, [], 0), (some (.imul), 0, 0, [], 0), (some (.iadd), 0, 0, [], 0), (some (.iastore), 0, 0, [], 0), (some (.iinc 3 1), 0, 0, [], 1), (some (.goto (-29)), 17, 0, [], 0)] loc st μ) := by
  unfold mm_wp
  by_cases h : cut 17 = true
  · rw [if_pos h, if_pos h]
  · rw [if_neg h, if_neg h]; rfl
theorem wl_37_49 {Sh : List mm_C} {scr : Option (Nat × (Nat → Int32))} {rb : Bool} {Cs : Nat → List Value → mm_M → (Int32 → mm_M → Prop) → (mm_M → Prop) → Prop} {K : Nat → mm_L → List Value → mm_M → Prop} {RI : Int32 → mm_M → Prop} {RV : mm_M → Prop} {cut : Nat → Bool} {n : Nat} {loc : mm_L} {st : List Value} {μ : mm_M} : mm_wp Sh scr rb Cs K RI RV lab_37 cut (n + 1) 49 loc st μ = (if cut 49 = true then K 49 loc st μ else mm_wpB Sh scr rb Cs (mm_wp Sh scr rb Cs K RI RV lab_37 cut n) RI RV [(some (.iinc 2 1), 0, 0, [], 1), (some (.goto (-50)), 2, 0, [], 0)] loc st μ) := by
  unfold mm_wp
  by_cases h : cut 49 = true
  · rw [if_pos h, if_pos h]
  · rw [if_neg h, if_neg h]; rfl
theorem wl_37_55 {Sh : List mm_C} {scr : Option (Nat × (Nat → Int32))} {rb : Bool} {Cs : Nat → List Value → mm_M → (Int32 → mm_M → Prop) → (mm_M → Prop) → Prop} {K : Nat → mm_L → List Value → mm_M → Prop} {RI : Int32 → mm_M → Prop} {RV : mm_M → Prop} {cut : Nat → Bool} {n : Nat} {loc : mm_L} {st : List Value} {μ : mm_M} : mm_wp Sh scr rb Cs K RI RV lab_37 cut (n + 1) 55 loc st μ = (if cut 55 = true then K 55 loc st μ else mm_wpB Sh scr rb Cs (mm_wp Sh scr rb Cs K RI RV lab_37 cut n) RI RV [(some (.iconst 3), 0, 0, [], 3), (some (.istore_n 2), 0, 0, [], 0), (none, 57, 0, [], 0)] loc st μ) := by
  unfold mm_wp
  by_cases h : cut 55 = true
  · rw [if_pos h, if_pos h]
  · rw [if_neg h, if_neg h]; rfl
theorem wl_37_57 {Sh : List mm_C} {scr : Option (Nat × (Nat → Int32))} {rb : Bool} {Cs : Nat → List Value → mm_M → (Int32 → mm_M → Prop) → (mm_M → Prop) → Prop} {K : Nat → mm_L → List Value → mm_M → Prop} {RI : Int32 → mm_M → Prop} {RV : mm_M → Prop} {cut : Nat → Bool} {n : Nat} {loc : mm_L} {st : List Value} {μ : mm_M} : mm_wp Sh scr rb Cs K RI RV lab_37 cut (n + 1) 57 loc st μ = (if cut 57 = true then K 57 loc st μ else mm_wpB Sh scr rb Cs (mm_wp Sh scr rb Cs K RI RV lab_37 cut n) RI RV [(some (.iload_n 2), 0, 0, [], 0), (some (.ifCond .lt 37), 95, 0, [], 0), (some (.aload_n 0), 0, 0, [], 0), (some (.getfield 21), 6, 3, [], 0), (some (.iload_n 2), 0, 0, [], 0), (some (.aload_n 0), 0, 0, [], 0), (some (.getfield 21), 6, 3, [], 0), (some (.iload_n 2), 0, 0, [], 0), (some (.iconst 1), 0, 0, [], 1), (some (.iadd), 0, 0, [], 0), (some (.iaload), 0, 0, [], 0), (some (.aload_n 1), 0, 0, [], 0), (some (.getfield 53), 4, 5, [], 0), (some (.iload_n 2), 0, 0, [], 0), (some (.iaload), 0, 0, [], 0), (some (.aload_n 0), 0, 0, [], 0), (some (.aload_n 1), 0, 0, [], 0), (some (.iload_n 2), 0, 0, [], 0), (some (.invokevirtual 56), 39, 3, [], 0), (some (.imul), 0, 0, [], 0), (some (.iadd), 0, 0, [], 0), (some (.iastore), 0, 0, [], 0), (some (.iinc 2 (-1)), 0, 0, [], (-1)), (some (.goto (-35)), 57, 0, [], 0)] loc st μ) := by
  unfold mm_wp
  by_cases h : cut 57 = true
  · rw [if_pos h, if_pos h]
  · rw [if_neg h, if_neg h]; rfl
theorem wl_37_95 {Sh : List mm_C} {scr : Option (Nat × (Nat → Int32))} {rb : Bool} {Cs : Nat → List Value → mm_M → (Int32 → mm_M → Prop) → (mm_M → Prop) → Prop} {K : Nat → mm_L → List Value → mm_M → Prop} {RI : Int32 → mm_M → Prop} {RV : mm_M → Prop} {cut : Nat → Bool} {n : Nat} {loc : mm_L} {st : List Value} {μ : mm_M} : mm_wp Sh scr rb Cs K RI RV lab_37 cut (n + 1) 95 loc st μ = (if cut 95 = true then K 95 loc st μ else mm_wpB Sh scr rb Cs (mm_wp Sh scr rb Cs K RI RV lab_37 cut n) RI RV [(some (.aload_n 0), 0, 0, [], 0), (some (.iconst 0), 0, 0, [], 0), (some (.putfield 60), 6, 7, [], 0), (some (.return_), 0, 0, [], 0)] loc st μ) := by
  unfold mm_wp
  by_cases h : cut 95 = true
  · rw [if_pos h, if_pos h]
  · rw [if_neg h, if_neg h]; rfl
theorem wl_38_0 {Sh : List mm_C} {scr : Option (Nat × (Nat → Int32))} {rb : Bool} {Cs : Nat → List Value → mm_M → (Int32 → mm_M → Prop) → (mm_M → Prop) → Prop} {K : Nat → mm_L → List Value → mm_M → Prop} {RI : Int32 → mm_M → Prop} {RV : mm_M → Prop} {cut : Nat → Bool} {n : Nat} {loc : mm_L} {st : List Value} {μ : mm_M} : mm_wp Sh scr rb Cs K RI RV lab_38 cut (n + 1) 0 loc st μ = (if cut 0 = true then K 0 loc st μ else mm_wpB Sh scr rb Cs (mm_wp Sh scr rb Cs K RI RV lab_38 cut n) RI RV [(some (.iload_n 1), 0, 0, [], 0), (some (.aload_n 0), 0, 0, [], 0), (some (.getfield 60), 6, 7, [], 0), (some (.if_icmp .lt 22), 27, 0, [], 0), (some (.aload_n 0), 0, 0, [], 0), (some (.iload_n 1), 0, 0, [], 0), (some (.putfield 60), 6, 7, [], 0), (some (.aload_n 0), 0, 0, [], 0), (some (.getfield 24), 6, 4, [], 0), (some (.iconst 0), 0, 0, [], 0), (some (.aload_n 0), 0, 0, [], 0), (some (.getfield 27), 6, 5, [], 0), (some (.iconst 0), 0, 0, [], 0), (some (.iconst 4), 0, 0, [], 4), (some (.invokestatic 71), 1002, 0, [], 0), (none, 27, 0, [], 0)] loc st μ) := by
  unfold mm_wp
  by_cases h : cut 0 = true
  · rw [if_pos h, if_pos h]
  · rw [if_neg h, if_neg h]; rfl
theorem wl_38_27 {Sh : List mm_C} {scr : Option (Nat × (Nat → Int32))} {rb : Bool} {Cs : Nat → List Value → mm_M → (Int32 → mm_M → Prop) → (mm_M → Prop) → Prop} {K : Nat → mm_L → List Value → mm_M → Prop} {RI : Int32 → mm_M → Prop} {RV : mm_M → Prop} {cut : Nat → Bool} {n : Nat} {loc : mm_L} {st : List Value} {μ : mm_M} : mm_wp Sh scr rb Cs K RI RV lab_38 cut (n + 1) 27 loc st μ = (if cut 27 = true then K 27 loc st μ else mm_wpB Sh scr rb Cs (mm_wp Sh scr rb Cs K RI RV lab_38 cut n) RI RV [(some (.return_), 0, 0, [], 0)] loc st μ) := by
  unfold mm_wp
  by_cases h : cut 27 = true
  · rw [if_pos h, if_pos h]
  · rw [if_neg h, if_neg h]; rfl
theorem wl_39_0 {Sh : List mm_C} {scr : Option (Nat × (Nat → Int32))} {rb : Bool} {Cs : Nat → List Value → mm_M → (Int32 → mm_M → Prop) → (mm_M → Prop) → Prop} {K : Nat → mm_L → List Value → mm_M → Prop} {RI : Int32 → mm_M → Prop} {RV : mm_M → Prop} {cut : Nat → Bool} {n : Nat} {loc : mm_L} {st : List Value} {μ : mm_M} : mm_wp Sh scr rb Cs K RI RV lab_39 cut (n + 1) 0 loc st μ = (if cut 0 = true then K 0 loc st μ else mm_wpB Sh scr rb Cs (mm_wp Sh scr rb Cs K RI RV lab_39 cut n) RI RV [(some (.aload_n 1), 0, 0, [], 0), (some (.getfield 77), 4, 3, [], 0), (some (.iload_n 2), 0, 0, [], 0), (some (.iaload), 0, 0, [], 0), (some (.istore_n 3), 0, 0, [], 0), (some (.iload_n 3), 0, 0, [], 0), (some (.iconst 1), 0, 0, [], 1), (some (.if_icmp .ge 5), 14, 0, [], 0), (some (.iconst 0), 0, 0, [], 0), (some (.ireturn), 0, 0, [], 0)] loc st μ) := by
  unfold mm_wp
  by_cases h : cut 0 = true
  · rw [if_pos h, if_pos h]
  · rw [if_neg h, if_neg h]; rfl
theorem wl_39_14 {Sh : List mm_C} {scr : Option (Nat × (Nat → Int32))} {rb : Bool} {Cs : Nat → List Value → mm_M → (Int32 → mm_M → Prop) → (mm_M → Prop) → Prop} {K : Nat → mm_L → List Value → mm_M → Prop} {RI : Int32 → mm_M → Prop} {RV : mm_M → Prop} {cut : Nat → Bool} {n : Nat} {loc : mm_L} {st : List Value} {μ : mm_M} : mm_wp Sh scr rb Cs K RI RV lab_39 cut (n + 1) 14 loc st μ = (if cut 14 = true then K 14 loc st μ else mm_wpB Sh scr rb Cs (mm_wp Sh scr rb Cs K RI RV lab_39 cut n) RI RV [(some (.aload_n 1), 0, 0, [], 0), (some (.getfield 80), 4, 1, [], 0), (some (.iload_n 2), 0, 0, [], 0), (some (.iaload), 0, 0, [], 0), (some (.istore 4), 0, 0, [], 0), (some (.bipush 20), 0, 0, [], 20), (some (.aload_n 0), 0, 0, [], 0), (some (.getfield 15), 6, 1, [], 0), (some (.aload_n 1), 0, 0, [], 0), (some (.getfield 83), 4, 2, [], 0), (some (.iload_n 2), 0, 0, [], 0), (some (.iaload), 0, 0, [], 0), (some (.iaload), 0, 0, [], 0), (some (.invokestatic 86), 1000, 0, [], 0), (some (.istore 5), 0, 0, [], 0), (some (.iload 4), 0, 0, [], 0), (some (.istore 6), 0, 0, [], 0), (none, 44, 0, [], 0)] loc st μ) := by
  unfold mm_wp
  by_cases h : cut 14 = true
  · rw [if_pos h, if_pos h]
  · rw [if_neg h, if_neg h]; rfl
theorem wl_39_44 {Sh : List mm_C} {scr : Option (Nat × (Nat → Int32))} {rb : Bool} {Cs : Nat → List Value → mm_M → (Int32 → mm_M → Prop) → (mm_M → Prop) → Prop} {K : Nat → mm_L → List Value → mm_M → Prop} {RI : Int32 → mm_M → Prop} {RV : mm_M → Prop} {cut : Nat → Bool} {n : Nat} {loc : mm_L} {st : List Value} {μ : mm_M} : mm_wp Sh scr rb Cs K RI RV lab_39 cut (n + 1) 44 loc st μ = (if cut 44 = true then K 44 loc st μ else mm_wpB Sh scr rb Cs (mm_wp Sh scr rb Cs K RI RV lab_39 cut n) RI RV [(some (.iload 6), 0, 0, [], 0), (some (.bipush 7), 0, 0, [], 7), (some (.if_icmp .gt 35), 83, 0, [], 0), (some (.iload 6), 0, 0, [], 0), (some (.iload 4), 0, 0, [], 0), (some (.iand), 0, 0, [], 0), (some (.iload 4), 0, 0, [], 0), (some (.if_icmp .ne 19), 77, 0, [], 0), (some (.iload 5), 0, 0, [], 0), (some (.aload_n 0), 0, 0, [], 0), (some (.getfield 18), 6, 2, [], 0), (some (.iload 6), 0, 0, [], 0), (some (.iaload), 0, 0, [], 0), (some (.iload_n 3), 0, 0, [], 0), (some (.idiv), 0, 0, [], 0), (some (.invokestatic 86), 1000, 0, [], 0), (some (.istore 5), 0, 0, [], 0), (none, 77, 0, [], 0)] loc st μ) := by
  unfold mm_wp
  by_cases h : cut 44 = true
  · rw [if_pos h, if_pos h]
  · rw [if_neg h, if_neg h]; rfl
theorem wl_39_77 {Sh : List mm_C} {scr : Option (Nat × (Nat → Int32))} {rb : Bool} {Cs : Nat → List Value → mm_M → (Int32 → mm_M → Prop) → (mm_M → Prop) → Prop} {K : Nat → mm_L → List Value → mm_M → Prop} {RI : Int32 → mm_M → Prop} {RV : mm_M → Prop} {cut : Nat → Bool} {n : Nat} {loc : mm_L} {st : List Value} {μ : mm_M} : mm_wp Sh scr rb Cs K RI RV lab_39 cut (n + 1) 77 loc st μ = (if cut 77 = true then K 77 loc st μ else mm_wpB Sh scr rb Cs (mm_wp Sh scr rb Cs K RI RV lab_39 cut n) RI RV [(some (.iinc 6 1), 0, 0, [], 1), (some (.goto (-36)), 44, 0, [], 0)] loc st μ) := by
  unfold mm_wp
  by_cases h : cut 77 = true
  · rw [if_pos h, if_pos h]
  · rw [if_neg h, if_neg h]; rfl
theorem wl_39_83 {Sh : List mm_C} {scr : Option (Nat × (Nat → Int32))} {rb : Bool} {Cs : Nat → List Value → mm_M → (Int32 → mm_M → Prop) → (mm_M → Prop) → Prop} {K : Nat → mm_L → List Value → mm_M → Prop} {RI : Int32 → mm_M → Prop} {RV : mm_M → Prop} {cut : Nat → Bool} {n : Nat} {loc : mm_L} {st : List Value} {μ : mm_M} : mm_wp Sh scr rb Cs K RI RV lab_39 cut (n + 1) 83 loc st μ = (if cut 83 = true then K 83 loc st μ else mm_wpB Sh scr rb Cs (mm_wp Sh scr rb Cs K RI RV lab_39 cut n) RI RV [(some (.iload 5), 0, 0, [], 0), (some (.ireturn), 0, 0, [], 0)] loc st μ) := by
  unfold mm_wp
  by_cases h : cut 83 = true
  · rw [if_pos h, if_pos h]
  · rw [if_neg h, if_neg h]; rfl
theorem wl_40_0 {Sh : List mm_C} {scr : Option (Nat × (Nat → Int32))} {rb : Bool} {Cs : Nat → List Value → mm_M → (Int32 → mm_M → Prop) → (mm_M → Prop) → Prop} {K : Nat → mm_L → List Value → mm_M → Prop} {RI : Int32 → mm_M → Prop} {RV : mm_M → Prop} {cut : Nat → Bool} {n : Nat} {loc : mm_L} {st : List Value} {μ : mm_M} : mm_wp Sh scr rb Cs K RI RV lab_40 cut (n + 1) 0 loc st μ = (if cut 0 = true then K 0 loc st μ else mm_wpB Sh scr rb Cs (mm_wp Sh scr rb Cs K RI RV lab_40 cut n) RI RV [(some (.aload_n 1), 0, 0, [], 0), (some (.getfield 80), 4, 1, [], 0), (some (.iload_n 2), 0, 0, [], 0), (some (.iaload), 0, 0, [], 0), (some (.istore 4), 0, 0, [], 0), (some (.aload_n 0), 0, 0, [], 0), (some (.getfield 15), 6, 1, [], 0), (some (.aload_n 1), 0, 0, [], 0), (some (.getfield 83), 4, 2, [], 0), (some (.iload_n 2), 0, 0, [], 0), (some (.iaload), 0, 0, [], 0), (some (.dup2), 0, 0, [], 0), (some (.iaload), 0, 0, [], 0), (some (.iload_n 3), 0, 0, [], 0), (some (.isub), 0, 0, [], 0), (some (.iastore), 0, 0, [], 0), (some (.iload 4), 0, 0, [], 0), (some (.istore 5), 0, 0, [], 0), (none, 27, 0, [], 0)] loc st μ) := by
  unfold mm_wp
  by_cases h : cut 0 = true
  · rw [if_pos h, if_pos h]
  · rw [if_neg h, if_neg h]; rfl
theorem wl_40_27 {Sh : List mm_C} {scr : Option (Nat × (Nat → Int32))} {rb : Bool} {Cs : Nat → List Value → mm_M → (Int32 → mm_M → Prop) → (mm_M → Prop) → Prop} {K : Nat → mm_L → List Value → mm_M → Prop} {RI : Int32 → mm_M → Prop} {RV : mm_M → Prop} {cut : Nat → Bool} {n : Nat} {loc : mm_L} {st : List Value} {μ : mm_M} : mm_wp Sh scr rb Cs K RI RV lab_40 cut (n + 1) 27 loc st μ = (if cut 27 = true then K 27 loc st μ else mm_wpB Sh scr rb Cs (mm_wp Sh scr rb Cs K RI RV lab_40 cut n) RI RV [(some (.iload 5), 0, 0, [], 0), (some (.bipush 7), 0, 0, [], 7), (some (.if_icmp .gt 37), 68, 0, [], 0), (some (.iload 5), 0, 0, [], 0), (some (.iload 4), 0, 0, [], 0), (some (.iand), 0, 0, [], 0), (some (.iload 4), 0, 0, [], 0), (some (.if_icmp .ne 21), 62, 0, [], 0), (some (.aload_n 0), 0, 0, [], 0), (some (.getfield 18), 6, 2, [], 0), (some (.iload 5), 0, 0, [], 0), (some (.dup2), 0, 0, [], 0), (some (.iaload), 0, 0, [], 0), (some (.iload_n 3), 0, 0, [], 0), (some (.aload_n 1), 0, 0, [], 0), (some (.getfield 77), 4, 3, [], 0), (some (.iload_n 2), 0, 0, [], 0), (some (.iaload), 0, 0, [], 0), (some (.imul), 0, 0, [], 0), (some (.isub), 0, 0, [], 0), (some (.iastore), 0, 0, [], 0), (none, 62, 0, [], 0)] loc st μ) := by
  unfold mm_wp
  by_cases h : cut 27 = true
  · rw [if_pos h, if_pos h]
  · rw [if_neg h, if_neg h]; rfl
theorem wl_40_62 {Sh : List mm_C} {scr : Option (Nat × (Nat → Int32))} {rb : Bool} {Cs : Nat → List Value → mm_M → (Int32 → mm_M → Prop) → (mm_M → Prop) → Prop} {K : Nat → mm_L → List Value → mm_M → Prop} {RI : Int32 → mm_M → Prop} {RV : mm_M → Prop} {cut : Nat → Bool} {n : Nat} {loc : mm_L} {st : List Value} {μ : mm_M} : mm_wp Sh scr rb Cs K RI RV lab_40 cut (n + 1) 62 loc st μ = (if cut 62 = true then K 62 loc st μ else mm_wpB Sh scr rb Cs (mm_wp Sh scr rb Cs K RI RV lab_40 cut n) RI RV [(some (.iinc 5 1), 0, 0, [], 1), (some (.goto (-38)), 27, 0, [], 0)] loc st μ) := by
  unfold mm_wp
  by_cases h : cut 62 = true
  · rw [if_pos h, if_pos h]
  · rw [if_neg h, if_neg h]; rfl
theorem wl_40_68 {Sh : List mm_C} {scr : Option (Nat × (Nat → Int32))} {rb : Bool} {Cs : Nat → List Value → mm_M → (Int32 → mm_M → Prop) → (mm_M → Prop) → Prop} {K : Nat → mm_L → List Value → mm_M → Prop} {RI : Int32 → mm_M → Prop} {RV : mm_M → Prop} {cut : Nat → Bool} {n : Nat} {loc : mm_L} {st : List Value} {μ : mm_M} : mm_wp Sh scr rb Cs K RI RV lab_40 cut (n + 1) 68 loc st μ = (if cut 68 = true then K 68 loc st μ else mm_wpB Sh scr rb Cs (mm_wp Sh scr rb Cs K RI RV lab_40 cut n) RI RV [(some (.return_), 0, 0, [], 0)] loc st μ) := by
  unfold mm_wp
  by_cases h : cut 68 = true
  · rw [if_pos h, if_pos h]
  · rw [if_neg h, if_neg h]; rfl
theorem wl_41_0 {Sh : List mm_C} {scr : Option (Nat × (Nat → Int32))} {rb : Bool} {Cs : Nat → List Value → mm_M → (Int32 → mm_M → Prop) → (mm_M → Prop) → Prop} {K : Nat → mm_L → List Value → mm_M → Prop} {RI : Int32 → mm_M → Prop} {RV : mm_M → Prop} {cut : Nat → Bool} {n : Nat} {loc : mm_L} {st : List Value} {μ : mm_M} : mm_wp Sh scr rb Cs K RI RV lab_41 cut (n + 1) 0 loc st μ = (if cut 0 = true then K 0 loc st μ else mm_wpB Sh scr rb Cs (mm_wp Sh scr rb Cs K RI RV lab_41 cut n) RI RV [(some (.iload_n 1), 0, 0, [], 0), (some (.iconst 0), 0, 0, [], 0), (some (.iconst 2), 0, 0, [], 2), (some (.invokestatic 62), 65, 3, [], 0), (some (.ifCond .eq 14), 20, 0, [], 0), (some (.iload_n 2), 0, 0, [], 0), (some (.iconst 1), 0, 0, [], 1), (some (.sipush 5000), 0, 0, [], 5000), (some (.invokestatic 62), 65, 3, [], 0), (some (.ifCond .ne 5), 22, 0, [], 0), (none, 20, 0, [], 0)] loc st μ) := by
  unfold mm_wp
  by_cases h : cut 0 = true
  · rw [if_pos h, if_pos h]
  · rw [if_neg h, if_neg h]; rfl
theorem wl_41_20 {Sh : List mm_C} {scr : Option (Nat × (Nat → Int32))} {rb : Bool} {Cs : Nat → List Value → mm_M → (Int32 → mm_M → Prop) → (mm_M → Prop) → Prop} {K : Nat → mm_L → List Value → mm_M → Prop} {RI : Int32 → mm_M → Prop} {RV : mm_M → Prop} {cut : Nat → Bool} {n : Nat} {loc : mm_L} {st : List Value} {μ : mm_M} : mm_wp Sh scr rb Cs K RI RV lab_41 cut (n + 1) 20 loc st μ = (if cut 20 = true then K 20 loc st μ else mm_wpB Sh scr rb Cs (mm_wp Sh scr rb Cs K RI RV lab_41 cut n) RI RV [(some (.iconst (-1)), 0, 0, [], (-1)), (some (.ireturn), 0, 0, [], 0)] loc st μ) := by
  unfold mm_wp
  by_cases h : cut 20 = true
  · rw [if_pos h, if_pos h]
  · rw [if_neg h, if_neg h]; rfl
theorem wl_41_22 {Sh : List mm_C} {scr : Option (Nat × (Nat → Int32))} {rb : Bool} {Cs : Nat → List Value → mm_M → (Int32 → mm_M → Prop) → (mm_M → Prop) → Prop} {K : Nat → mm_L → List Value → mm_M → Prop} {RI : Int32 → mm_M → Prop} {RV : mm_M → Prop} {cut : Nat → Bool} {n : Nat} {loc : mm_L} {st : List Value} {μ : mm_M} : mm_wp Sh scr rb Cs K RI RV lab_41 cut (n + 1) 22 loc st μ = (if cut 22 = true then K 22 loc st μ else mm_wpB Sh scr rb Cs (mm_wp Sh scr rb Cs K RI RV lab_41 cut n) RI RV [(some (.iload_n 3), 0, 0, [], 0), (some (.iconst 0), 0, 0, [], 0), (some (.bipush 39), 0, 0, [], 39), (some (.invokestatic 62), 65, 3, [], 0), (some (.ifCond .eq 9), 38, 0, [], 0), (some (.iload_n 3), 0, 0, [], 0), (some (.bipush 20), 0, 0, [], 20), (some (.if_icmp .lt 5), 40, 0, [], 0), (none, 38, 0, [], 0)] loc st μ) := by
  unfold mm_wp
  by_cases h : cut 22 = true
  · rw [if_pos h, if_pos h]
  · rw [if_neg h, if_neg h]; rfl
theorem wl_41_38 {Sh : List mm_C} {scr : Option (Nat × (Nat → Int32))} {rb : Bool} {Cs : Nat → List Value → mm_M → (Int32 → mm_M → Prop) → (mm_M → Prop) → Prop} {K : Nat → mm_L → List Value → mm_M → Prop} {RI : Int32 → mm_M → Prop} {RV : mm_M → Prop} {cut : Nat → Bool} {n : Nat} {loc : mm_L} {st : List Value} {μ : mm_M} : mm_wp Sh scr rb Cs K RI RV lab_41 cut (n + 1) 38 loc st μ = (if cut 38 = true then K 38 loc st μ else mm_wpB Sh scr rb Cs (mm_wp Sh scr rb Cs K RI RV lab_41 cut n) RI RV [(some (.iconst (-1)), 0, 0, [], (-1)), (some (.ireturn), 0, 0, [], 0)] loc st μ) := by
  unfold mm_wp
  by_cases h : cut 38 = true
  · rw [if_pos h, if_pos h]
  · rw [if_neg h, if_neg h]; rfl
theorem wl_41_40 {Sh : List mm_C} {scr : Option (Nat × (Nat → Int32))} {rb : Bool} {Cs : Nat → List Value → mm_M → (Int32 → mm_M → Prop) → (mm_M → Prop) → Prop} {K : Nat → mm_L → List Value → mm_M → Prop} {RI : Int32 → mm_M → Prop} {RV : mm_M → Prop} {cut : Nat → Bool} {n : Nat} {loc : mm_L} {st : List Value} {μ : mm_M} : mm_wp Sh scr rb Cs K RI RV lab_41 cut (n + 1) 40 loc st μ = (if cut 40 = true then K 40 loc st μ else mm_wpB Sh scr rb Cs (mm_wp Sh scr rb Cs K RI RV lab_41 cut n) RI RV [(some (.aload_n 0), 0, 0, [], 0), (some (.getfield 10), 7, 0, [], 0), (some (.iload_n 1), 0, 0, [], 0), (some (.iload_n 2), 0, 0, [], 0), (some (.aload_n 0), 0, 0, [], 0), (some (.getfield 66), 7, 8, [], 0), (some (.iload_n 3), 0, 0, [], 0), (some (.isub), 0, 0, [], 0), (some (.invokevirtual 70), 27, 4, [], 0), (some (.ireturn), 0, 0, [], 0)] loc st μ) := by
  unfold mm_wp
  by_cases h : cut 40 = true
  · rw [if_pos h, if_pos h]
  · rw [if_neg h, if_neg h]; rfl
theorem wl_42_0 {Sh : List mm_C} {scr : Option (Nat × (Nat → Int32))} {rb : Bool} {Cs : Nat → List Value → mm_M → (Int32 → mm_M → Prop) → (mm_M → Prop) → Prop} {K : Nat → mm_L → List Value → mm_M → Prop} {RI : Int32 → mm_M → Prop} {RV : mm_M → Prop} {cut : Nat → Bool} {n : Nat} {loc : mm_L} {st : List Value} {μ : mm_M} : mm_wp Sh scr rb Cs K RI RV lab_42 cut (n + 1) 0 loc st μ = (if cut 0 = true then K 0 loc st μ else mm_wpB Sh scr rb Cs (mm_wp Sh scr rb Cs K RI RV lab_42 cut n) RI RV [(some (.iload_n 1), 0, 0, [], 0), (some (.iconst 1), 0, 0, [], 1), (some (.ldc 74), 0, 0, [], 100000), (some (.invokestatic 62), 65, 3, [], 0), (some (.ifCond .eq 14), 21, 0, [], 0), (some (.aload_n 0), 0, 0, [], 0), (some (.getfield 75), 7, 9, [], 0), (some (.iload_n 1), 0, 0, [], 0), (some (.iadd), 0, 0, [], 0), (some (.ldc 78), 0, 0, [], 1000000), (some (.if_icmp .le 5), 23, 0, [], 0), (none, 21, 0, [], 0)] loc st μ) := by
  unfold mm_wp
  by_cases h : cut 0 = true
  · rw [if_pos h, if_pos h]
  · rw [if_neg h, if_neg h]; rfl
theorem wl_42_21 {Sh : List mm_C} {scr : Option (Nat × (Nat → Int32))} {rb : Bool} {Cs : Nat → List Value → mm_M → (Int32 → mm_M → Prop) → (mm_M → Prop) → Prop} {K : Nat → mm_L → List Value → mm_M → Prop} {RI : Int32 → mm_M → Prop} {RV : mm_M → Prop} {cut : Nat → Bool} {n : Nat} {loc : mm_L} {st : List Value} {μ : mm_M} : mm_wp Sh scr rb Cs K RI RV lab_42 cut (n + 1) 21 loc st μ = (if cut 21 = true then K 21 loc st μ else mm_wpB Sh scr rb Cs (mm_wp Sh scr rb Cs K RI RV lab_42 cut n) RI RV [(some (.iconst (-1)), 0, 0, [], (-1)), (some (.ireturn), 0, 0, [], 0)] loc st μ) := by
  unfold mm_wp
  by_cases h : cut 21 = true
  · rw [if_pos h, if_pos h]
  · rw [if_neg h, if_neg h]; rfl
theorem wl_42_23 {Sh : List mm_C} {scr : Option (Nat × (Nat → Int32))} {rb : Bool} {Cs : Nat → List Value → mm_M → (Int32 → mm_M → Prop) → (mm_M → Prop) → Prop} {K : Nat → mm_L → List Value → mm_M → Prop} {RI : Int32 → mm_M → Prop} {RV : mm_M → Prop} {cut : Nat → Bool} {n : Nat} {loc : mm_L} {st : List Value} {μ : mm_M} : mm_wp Sh scr rb Cs K RI RV lab_42 cut (n + 1) 23 loc st μ = (if cut 23 = true then K 23 loc st μ else mm_wpB Sh scr rb Cs (mm_wp Sh scr rb Cs K RI RV lab_42 cut n) RI RV [(some (.aload_n 0), 0, 0, [], 0), (some (.dup), 0, 0, [], 0), (some (.getfield 75), 7, 9, [], 0), (some (.iload_n 1), 0, 0, [], 0), (some (.iadd), 0, 0, [], 0), (some (.putfield 75), 7, 9, [], 0), (some (.aload_n 0), 0, 0, [], 0), (some (.getfield 75), 7, 9, [], 0), (some (.ireturn), 0, 0, [], 0)] loc st μ) := by
  unfold mm_wp
  by_cases h : cut 23 = true
  · rw [if_pos h, if_pos h]
  · rw [if_neg h, if_neg h]; rfl
theorem wl_43_0 {Sh : List mm_C} {scr : Option (Nat × (Nat → Int32))} {rb : Bool} {Cs : Nat → List Value → mm_M → (Int32 → mm_M → Prop) → (mm_M → Prop) → Prop} {K : Nat → mm_L → List Value → mm_M → Prop} {RI : Int32 → mm_M → Prop} {RV : mm_M → Prop} {cut : Nat → Bool} {n : Nat} {loc : mm_L} {st : List Value} {μ : mm_M} : mm_wp Sh scr rb Cs K RI RV lab_43 cut (n + 1) 0 loc st μ = (if cut 0 = true then K 0 loc st μ else mm_wpB Sh scr rb Cs (mm_wp Sh scr rb Cs K RI RV lab_43 cut n) RI RV [(some (.aload_n 0), 0, 0, [], 0), (some (.getfield 10), 7, 0, [], 0), (some (.iload_n 1), 0, 0, [], 0), (some (.invokevirtual 79), 26, 2, [], 0), (some (.ifCond .eq 31), 39, 0, [], 0), (some (.aload_n 0), 0, 0, [], 0), (some (.getfield 10), 7, 0, [], 0), (some (.iload_n 1), 0, 0, [], 0), (some (.aload_n 0), 0, 0, [], 0), (some (.getfield 66), 7, 8, [], 0), (some (.invokevirtual 83), 29, 3, [], 0), (some (.ifCond .eq 16), 39, 0, [], 0), (some (.aload_n 0), 0, 0, [], 0), (some (.getfield 10), 7, 0, [], 0), (some (.getfield 87), 5, 1, [], 0), (some (.iload_n 1), 0, 0, [], 0), (some (.iaload), 0, 0, [], 0), (some (.iconst 1), 0, 0, [], 1), (some (.if_icmp .ge 5), 41, 0, [], 0), (none, 39, 0, [], 0)] loc st μ) := by
  unfold mm_wp
  by_cases h : cut 0 = true
  · rw [if_pos h, if_pos h]
  · rw [if_neg h, if_neg h]; rfl
theorem wl_43_39 {Sh : List mm_C} {scr : Option (Nat × (Nat → Int32))} {rb : Bool} {Cs : Nat → List Value → mm_M → (Int32 → mm_M → Prop) → (mm_M → Prop) → Prop} {K : Nat → mm_L → List Value → mm_M → Prop} {RI : Int32 → mm_M → Prop} {RV : mm_M → Prop} {cut : Nat → Bool} {n : Nat} {loc : mm_L} {st : List Value} {μ : mm_M} : mm_wp Sh scr rb Cs K RI RV lab_43 cut (n + 1) 39 loc st μ = (if cut 39 = true then K 39 loc st μ else mm_wpB Sh scr rb Cs (mm_wp Sh scr rb Cs K RI RV lab_43 cut n) RI RV [(some (.iconst 0), 0, 0, [], 0), (some (.ireturn), 0, 0, [], 0)] loc st μ) := by
  unfold mm_wp
  by_cases h : cut 39 = true
  · rw [if_pos h, if_pos h]
  · rw [if_neg h, if_neg h]; rfl
theorem wl_43_41 {Sh : List mm_C} {scr : Option (Nat × (Nat → Int32))} {rb : Bool} {Cs : Nat → List Value → mm_M → (Int32 → mm_M → Prop) → (mm_M → Prop) → Prop} {K : Nat → mm_L → List Value → mm_M → Prop} {RI : Int32 → mm_M → Prop} {RV : mm_M → Prop} {cut : Nat → Bool} {n : Nat} {loc : mm_L} {st : List Value} {μ : mm_M} : mm_wp Sh scr rb Cs K RI RV lab_43 cut (n + 1) 41 loc st μ = (if cut 41 = true then K 41 loc st μ else mm_wpB Sh scr rb Cs (mm_wp Sh scr rb Cs K RI RV lab_43 cut n) RI RV [(some (.aload_n 0), 0, 0, [], 0), (some (.getfield 10), 7, 0, [], 0), (some (.getfield 90), 5, 3, [], 0), (some (.iload_n 1), 0, 0, [], 0), (some (.baload), 0, 0, [], 0), (some (.ifCond .ne 19), 69, 0, [], 0), (some (.aload_n 0), 0, 0, [], 0), (some (.getfield 10), 7, 0, [], 0), (some (.getfield 87), 5, 1, [], 0), (some (.iload_n 1), 0, 0, [], 0), (some (.iaload), 0, 0, [], 0), (some (.aload_n 0), 0, 0, [], 0), (some (.getfield 75), 7, 9, [], 0), (some (.if_icmp .le 5), 71, 0, [], 0), (none, 69, 0, [], 0)] loc st μ) := by
  unfold mm_wp
  by_cases h : cut 41 = true
  · rw [if_pos h, if_pos h]
  · rw [if_neg h, if_neg h]; rfl
theorem wl_43_69 {Sh : List mm_C} {scr : Option (Nat × (Nat → Int32))} {rb : Bool} {Cs : Nat → List Value → mm_M → (Int32 → mm_M → Prop) → (mm_M → Prop) → Prop} {K : Nat → mm_L → List Value → mm_M → Prop} {RI : Int32 → mm_M → Prop} {RV : mm_M → Prop} {cut : Nat → Bool} {n : Nat} {loc : mm_L} {st : List Value} {μ : mm_M} : mm_wp Sh scr rb Cs K RI RV lab_43 cut (n + 1) 69 loc st μ = (if cut 69 = true then K 69 loc st μ else mm_wpB Sh scr rb Cs (mm_wp Sh scr rb Cs K RI RV lab_43 cut n) RI RV [(some (.iconst 0), 0, 0, [], 0), (some (.ireturn), 0, 0, [], 0)] loc st μ) := by
  unfold mm_wp
  by_cases h : cut 69 = true
  · rw [if_pos h, if_pos h]
  · rw [if_neg h, if_neg h]; rfl
theorem wl_43_71 {Sh : List mm_C} {scr : Option (Nat × (Nat → Int32))} {rb : Bool} {Cs : Nat → List Value → mm_M → (Int32 → mm_M → Prop) → (mm_M → Prop) → Prop} {K : Nat → mm_L → List Value → mm_M → Prop} {RI : Int32 → mm_M → Prop} {RV : mm_M → Prop} {cut : Nat → Bool} {n : Nat} {loc : mm_L} {st : List Value} {μ : mm_M} : mm_wp Sh scr rb Cs K RI RV lab_43 cut (n + 1) 71 loc st μ = (if cut 71 = true then K 71 loc st μ else mm_wpB Sh scr rb Cs (mm_wp Sh scr rb Cs K RI RV lab_43 cut n) RI RV [(some (.aload_n 0), 0, 0, [], 0), (some (.dup), 0, 0, [], 0), (some (.getfield 75), 7, 9, [], 0), (some (.aload_n 0), 0, 0, [], 0), (some (.getfield 10), 7, 0, [], 0), (some (.getfield 87), 5, 1, [], 0), (some (.iload_n 1), 0, 0, [], 0), (some (.iaload), 0, 0, [], 0), (some (.isub), 0, 0, [], 0), (some (.putfield 75), 7, 9, [], 0), (some (.aload_n 0), 0, 0, [], 0), (some (.getfield 10), 7, 0, [], 0), (some (.getfield 90), 5, 3, [], 0), (some (.iload_n 1), 0, 0, [], 0), (some (.iconst 1), 0, 0, [], 1), (some (.bastore), 0, 0, [], 0), (some (.iconst 1), 0, 0, [], 1), (some (.ireturn), 0, 0, [], 0)] loc st μ) := by
  unfold mm_wp
  by_cases h : cut 71 = true
  · rw [if_pos h, if_pos h]
  · rw [if_neg h, if_neg h]; rfl
theorem wl_44_0 {Sh : List mm_C} {scr : Option (Nat × (Nat → Int32))} {rb : Bool} {Cs : Nat → List Value → mm_M → (Int32 → mm_M → Prop) → (mm_M → Prop) → Prop} {K : Nat → mm_L → List Value → mm_M → Prop} {RI : Int32 → mm_M → Prop} {RV : mm_M → Prop} {cut : Nat → Bool} {n : Nat} {loc : mm_L} {st : List Value} {μ : mm_M} : mm_wp Sh scr rb Cs K RI RV lab_44 cut (n + 1) 0 loc st μ = (if cut 0 = true then K 0 loc st μ else mm_wpB Sh scr rb Cs (mm_wp Sh scr rb Cs K RI RV lab_44 cut n) RI RV [(some (.iload_n 1), 0, 0, [], 0), (some (.iconst 0), 0, 0, [], 0), (some (.iconst 3), 0, 0, [], 3), (some (.invokestatic 62), 65, 3, [], 0), (some (.ifCond .eq 15), 21, 0, [], 0), (some (.aload_n 0), 0, 0, [], 0), (some (.getfield 19), 7, 1, [], 0), (some (.getfield 94), 4, 0, [], 0), (some (.iload_n 1), 0, 0, [], 0), (some (.baload), 0, 0, [], 0), (some (.ifCond .eq 5), 23, 0, [], 0), (none, 21, 0, [], 0)] loc st μ) := by
  unfold mm_wp
  by_cases h : cut 0 = true
  · rw [if_pos h, if_pos h]
  · rw [if_neg h, if_neg h]; rfl
theorem wl_44_21 {Sh : List mm_C} {scr : Option (Nat × (Nat → Int32))} {rb : Bool} {Cs : Nat → List Value → mm_M → (Int32 → mm_M → Prop) → (mm_M → Prop) → Prop} {K : Nat → mm_L → List Value → mm_M → Prop} {RI : Int32 → mm_M → Prop} {RV : mm_M → Prop} {cut : Nat → Bool} {n : Nat} {loc : mm_L} {st : List Value} {μ : mm_M} : mm_wp Sh scr rb Cs K RI RV lab_44 cut (n + 1) 21 loc st μ = (if cut 21 = true then K 21 loc st μ else mm_wpB Sh scr rb Cs (mm_wp Sh scr rb Cs K RI RV lab_44 cut n) RI RV [(some (.iconst 0), 0, 0, [], 0), (some (.ireturn), 0, 0, [], 0)] loc st μ) := by
  unfold mm_wp
  by_cases h : cut 21 = true
  · rw [if_pos h, if_pos h]
  · rw [if_neg h, if_neg h]; rfl
theorem wl_44_23 {Sh : List mm_C} {scr : Option (Nat × (Nat → Int32))} {rb : Bool} {Cs : Nat → List Value → mm_M → (Int32 → mm_M → Prop) → (mm_M → Prop) → Prop} {K : Nat → mm_L → List Value → mm_M → Prop} {RI : Int32 → mm_M → Prop} {RV : mm_M → Prop} {cut : Nat → Bool} {n : Nat} {loc : mm_L} {st : List Value} {μ : mm_M} : mm_wp Sh scr rb Cs K RI RV lab_44 cut (n + 1) 23 loc st μ = (if cut 23 = true then K 23 loc st μ else mm_wpB Sh scr rb Cs (mm_wp Sh scr rb Cs K RI RV lab_44 cut n) RI RV [(some (.iload_n 2), 0, 0, [], 0), (some (.invokestatic 97), 19, 1, [], 0), (some (.ifCond .eq 13), 40, 0, [], 0), (some (.iload_n 3), 0, 0, [], 0), (some (.iconst 1), 0, 0, [], 1), (some (.bipush 99), 0, 0, [], 99), (some (.invokestatic 62), 65, 3, [], 0), (some (.ifCond .ne 5), 42, 0, [], 0), (none, 40, 0, [], 0)] loc st μ) := by
  unfold mm_wp
  by_cases h : cut 23 = true
  · rw [if_pos h, if_pos h]
  · rw [if_neg h, if_neg h]; rfl
theorem wl_44_40 {Sh : List mm_C} {scr : Option (Nat × (Nat → Int32))} {rb : Bool} {Cs : Nat → List Value → mm_M → (Int32 → mm_M → Prop) → (mm_M → Prop) → Prop} {K : Nat → mm_L → List Value → mm_M → Prop} {RI : Int32 → mm_M → Prop} {RV : mm_M → Prop} {cut : Nat → Bool} {n : Nat} {loc : mm_L} {st : List Value} {μ : mm_M} : mm_wp Sh scr rb Cs K RI RV lab_44 cut (n + 1) 40 loc st μ = (if cut 40 = true then K 40 loc st μ else mm_wpB Sh scr rb Cs (mm_wp Sh scr rb Cs K RI RV lab_44 cut n) RI RV [(some (.iconst 0), 0, 0, [], 0), (some (.ireturn), 0, 0, [], 0)] loc st μ) := by
  unfold mm_wp
  by_cases h : cut 40 = true
  · rw [if_pos h, if_pos h]
  · rw [if_neg h, if_neg h]; rfl
theorem wl_44_42 {Sh : List mm_C} {scr : Option (Nat × (Nat → Int32))} {rb : Bool} {Cs : Nat → List Value → mm_M → (Int32 → mm_M → Prop) → (mm_M → Prop) → Prop} {K : Nat → mm_L → List Value → mm_M → Prop} {RI : Int32 → mm_M → Prop} {RV : mm_M → Prop} {cut : Nat → Bool} {n : Nat} {loc : mm_L} {st : List Value} {μ : mm_M} : mm_wp Sh scr rb Cs K RI RV lab_44 cut (n + 1) 42 loc st μ = (if cut 42 = true then K 42 loc st μ else mm_wpB Sh scr rb Cs (mm_wp Sh scr rb Cs K RI RV lab_44 cut n) RI RV [(some (.aload_n 0), 0, 0, [], 0), (some (.getfield 19), 7, 1, [], 0), (some (.iload_n 1), 0, 0, [], 0), (some (.iload_n 2), 0, 0, [], 0), (some (.iload_n 3), 0, 0, [], 0), (some (.invokevirtual 100), 25, 4, [], 0), (some (.iconst 1), 0, 0, [], 1), (some (.ireturn), 0, 0, [], 0)] loc st μ) := by
  unfold mm_wp
  by_cases h : cut 42 = true
  · rw [if_pos h, if_pos h]
  · rw [if_neg h, if_neg h]; rfl
theorem wl_45_0 {Sh : List mm_C} {scr : Option (Nat × (Nat → Int32))} {rb : Bool} {Cs : Nat → List Value → mm_M → (Int32 → mm_M → Prop) → (mm_M → Prop) → Prop} {K : Nat → mm_L → List Value → mm_M → Prop} {RI : Int32 → mm_M → Prop} {RV : mm_M → Prop} {cut : Nat → Bool} {n : Nat} {loc : mm_L} {st : List Value} {μ : mm_M} : mm_wp Sh scr rb Cs K RI RV lab_45 cut (n + 1) 0 loc st μ = (if cut 0 = true then K 0 loc st μ else mm_wpB Sh scr rb Cs (mm_wp Sh scr rb Cs K RI RV lab_45 cut n) RI RV [(some (.iload_n 1), 0, 0, [], 0), (some (.iconst 0), 0, 0, [], 0), (some (.iconst 1), 0, 0, [], 1), (some (.invokestatic 62), 65, 3, [], 0), (some (.ifCond .eq 14), 20, 0, [], 0), (some (.iload_n 2), 0, 0, [], 0), (some (.iconst 1), 0, 0, [], 1), (some (.sipush 10000), 0, 0, [], 10000), (some (.invokestatic 62), 65, 3, [], 0), (some (.ifCond .ne 5), 22, 0, [], 0), (none, 20, 0, [], 0)] loc st μ) := by
  unfold mm_wp
  by_cases h : cut 0 = true
  · rw [if_pos h, if_pos h]
  · rw [if_neg h, if_neg h]; rfl
theorem wl_45_20 {Sh : List mm_C} {scr : Option (Nat × (Nat → Int32))} {rb : Bool} {Cs : Nat → List Value → mm_M → (Int32 → mm_M → Prop) → (mm_M → Prop) → Prop} {K : Nat → mm_L → List Value → mm_M → Prop} {RI : Int32 → mm_M → Prop} {RV : mm_M → Prop} {cut : Nat → Bool} {n : Nat} {loc : mm_L} {st : List Value} {μ : mm_M} : mm_wp Sh scr rb Cs K RI RV lab_45 cut (n + 1) 20 loc st μ = (if cut 20 = true then K 20 loc st μ else mm_wpB Sh scr rb Cs (mm_wp Sh scr rb Cs K RI RV lab_45 cut n) RI RV [(some (.iconst (-1)), 0, 0, [], (-1)), (some (.ireturn), 0, 0, [], 0)] loc st μ) := by
  unfold mm_wp
  by_cases h : cut 20 = true
  · rw [if_pos h, if_pos h]
  · rw [if_neg h, if_neg h]; rfl
theorem wl_45_22 {Sh : List mm_C} {scr : Option (Nat × (Nat → Int32))} {rb : Bool} {Cs : Nat → List Value → mm_M → (Int32 → mm_M → Prop) → (mm_M → Prop) → Prop} {K : Nat → mm_L → List Value → mm_M → Prop} {RI : Int32 → mm_M → Prop} {RV : mm_M → Prop} {cut : Nat → Bool} {n : Nat} {loc : mm_L} {st : List Value} {μ : mm_M} : mm_wp Sh scr rb Cs K RI RV lab_45 cut (n + 1) 22 loc st μ = (if cut 22 = true then K 22 loc st μ else mm_wpB Sh scr rb Cs (mm_wp Sh scr rb Cs K RI RV lab_45 cut n) RI RV [(some (.aload_n 0), 0, 0, [], 0), (some (.getfield 58), 7, 7, [], 0), (some (.iload_n 1), 0, 0, [], 0), (some (.iaload), 0, 0, [], 0), (some (.iload_n 2), 0, 0, [], 0), (some (.iadd), 0, 0, [], 0), (some (.ldc 74), 0, 0, [], 100000), (some (.if_icmp .le 5), 37, 0, [], 0), (some (.iconst (-1)), 0, 0, [], (-1)), (some (.ireturn), 0, 0, [], 0)] loc st μ) := by
  unfold mm_wp
  by_cases h : cut 22 = true
  · rw [if_pos h, if_pos h]
  · rw [if_neg h, if_neg h]; rfl
theorem wl_45_37 {Sh : List mm_C} {scr : Option (Nat × (Nat → Int32))} {rb : Bool} {Cs : Nat → List Value → mm_M → (Int32 → mm_M → Prop) → (mm_M → Prop) → Prop} {K : Nat → mm_L → List Value → mm_M → Prop} {RI : Int32 → mm_M → Prop} {RV : mm_M → Prop} {cut : Nat → Bool} {n : Nat} {loc : mm_L} {st : List Value} {μ : mm_M} : mm_wp Sh scr rb Cs K RI RV lab_45 cut (n + 1) 37 loc st μ = (if cut 37 = true then K 37 loc st μ else mm_wpB Sh scr rb Cs (mm_wp Sh scr rb Cs K RI RV lab_45 cut n) RI RV [(some (.aload_n 0), 0, 0, [], 0), (some (.getfield 58), 7, 7, [], 0), (some (.iload_n 1), 0, 0, [], 0), (some (.dup2), 0, 0, [], 0), (some (.iaload), 0, 0, [], 0), (some (.iload_n 2), 0, 0, [], 0), (some (.iadd), 0, 0, [], 0), (some (.iastore), 0, 0, [], 0), (some (.aload_n 0), 0, 0, [], 0), (some (.getfield 58), 7, 7, [], 0), (some (.iload_n 1), 0, 0, [], 0), (some (.iaload), 0, 0, [], 0), (some (.ireturn), 0, 0, [], 0)] loc st μ) := by
  unfold mm_wp
  by_cases h : cut 37 = true
  · rw [if_pos h, if_pos h]
  · rw [if_neg h, if_neg h]; rfl
theorem wl_46_0 {Sh : List mm_C} {scr : Option (Nat × (Nat → Int32))} {rb : Bool} {Cs : Nat → List Value → mm_M → (Int32 → mm_M → Prop) → (mm_M → Prop) → Prop} {K : Nat → mm_L → List Value → mm_M → Prop} {RI : Int32 → mm_M → Prop} {RV : mm_M → Prop} {cut : Nat → Bool} {n : Nat} {loc : mm_L} {st : List Value} {μ : mm_M} : mm_wp Sh scr rb Cs K RI RV lab_46 cut (n + 1) 0 loc st μ = (if cut 0 = true then K 0 loc st μ else mm_wpB Sh scr rb Cs (mm_wp Sh scr rb Cs K RI RV lab_46 cut n) RI RV [(some (.iload_n 1), 0, 0, [], 0), (some (.iconst 0), 0, 0, [], 0), (some (.iconst 2), 0, 0, [], 2), (some (.invokestatic 62), 65, 3, [], 0), (some (.ifCond .eq 18), 24, 0, [], 0), (some (.aload_n 0), 0, 0, [], 0), (some (.getfield 26), 7, 2, [], 0), (some (.iload_n 1), 0, 0, [], 0), (some (.aload_n 0), 0, 0, [], 0), (some (.getfield 66), 7, 8, [], 0), (some (.invokevirtual 103), 17, 3, [], 0), (some (.ifCond .ne 5), 26, 0, [], 0), (none, 24, 0, [], 0)] loc st μ) := by
  unfold mm_wp
  by_cases h : cut 0 = true
  · rw [if_pos h, if_pos h]
  · rw [if_neg h, if_neg h]; rfl
theorem wl_46_24 {Sh : List mm_C} {scr : Option (Nat × (Nat → Int32))} {rb : Bool} {Cs : Nat → List Value → mm_M → (Int32 → mm_M → Prop) → (mm_M → Prop) → Prop} {K : Nat → mm_L → List Value → mm_M → Prop} {RI : Int32 → mm_M → Prop} {RV : mm_M → Prop} {cut : Nat → Bool} {n : Nat} {loc : mm_L} {st : List Value} {μ : mm_M} : mm_wp Sh scr rb Cs K RI RV lab_46 cut (n + 1) 24 loc st μ = (if cut 24 = true then K 24 loc st μ else mm_wpB Sh scr rb Cs (mm_wp Sh scr rb Cs K RI RV lab_46 cut n) RI RV [(some (.iconst (-1)), 0, 0, [], (-1)), (some (.ireturn), 0, 0, [], 0)] loc st μ) := by
  unfold mm_wp
  by_cases h : cut 24 = true
  · rw [if_pos h, if_pos h]
  · rw [if_neg h, if_neg h]; rfl
theorem wl_46_26 {Sh : List mm_C} {scr : Option (Nat × (Nat → Int32))} {rb : Bool} {Cs : Nat → List Value → mm_M → (Int32 → mm_M → Prop) → (mm_M → Prop) → Prop} {K : Nat → mm_L → List Value → mm_M → Prop} {RI : Int32 → mm_M → Prop} {RV : mm_M → Prop} {cut : Nat → Bool} {n : Nat} {loc : mm_L} {st : List Value} {μ : mm_M} : mm_wp Sh scr rb Cs K RI RV lab_46 cut (n + 1) 26 loc st μ = (if cut 26 = true then K 26 loc st μ else mm_wpB Sh scr rb Cs (mm_wp Sh scr rb Cs K RI RV lab_46 cut n) RI RV [(some (.aload_n 0), 0, 0, [], 0), (some (.getfield 26), 7, 2, [], 0), (some (.getfield 106), 3, 1, [], 0), (some (.iload_n 1), 0, 0, [], 0), (some (.aload_n 0), 0, 0, [], 0), (some (.getfield 66), 7, 8, [], 0), (some (.iconst 3), 0, 0, [], 3), (some (.iadd), 0, 0, [], 0), (some (.iastore), 0, 0, [], 0), (some (.aload_n 0), 0, 0, [], 0), (some (.getfield 26), 7, 2, [], 0), (some (.getfield 109), 3, 0, [], 0), (some (.iload_n 1), 0, 0, [], 0), (some (.iconst 1), 0, 0, [], 1), (some (.bastore), 0, 0, [], 0), (some (.aload_n 0), 0, 0, [], 0), (some (.getfield 26), 7, 2, [], 0), (some (.getfield 106), 3, 1, [], 0), (some (.iload_n 1), 0, 0, [], 0), (some (.iaload), 0, 0, [], 0), (some (.ireturn), 0, 0, [], 0)] loc st μ) := by
  unfold mm_wp
  by_cases h : cut 26 = true
  · rw [if_pos h, if_pos h]
  · rw [if_neg h, if_neg h]; rfl
theorem wl_47_0 {Sh : List mm_C} {scr : Option (Nat × (Nat → Int32))} {rb : Bool} {Cs : Nat → List Value → mm_M → (Int32 → mm_M → Prop) → (mm_M → Prop) → Prop} {K : Nat → mm_L → List Value → mm_M → Prop} {RI : Int32 → mm_M → Prop} {RV : mm_M → Prop} {cut : Nat → Bool} {n : Nat} {loc : mm_L} {st : List Value} {μ : mm_M} : mm_wp Sh scr rb Cs K RI RV lab_47 cut (n + 1) 0 loc st μ = (if cut 0 = true then K 0 loc st μ else mm_wpB Sh scr rb Cs (mm_wp Sh scr rb Cs K RI RV lab_47 cut n) RI RV [(some (.iload_n 1), 0, 0, [], 0), (some (.iconst 0), 0, 0, [], 0), (some (.iconst 2), 0, 0, [], 2), (some (.invokestatic 62), 65, 3, [], 0), (some (.ifCond .eq 14), 20, 0, [], 0), (some (.aload_n 0), 0, 0, [], 0), (some (.getfield 33), 7, 3, [], 0), (some (.iload_n 1), 0, 0, [], 0), (some (.invokevirtual 112), 12, 2, [], 0), (some (.ifCond .ne 5), 22, 0, [], 0), (none, 20, 0, [], 0)] loc st μ) := by
  unfold mm_wp
  by_cases h : cut 0 = true
  · rw [if_pos h, if_pos h]
  · rw [if_neg h, if_neg h]; rfl
theorem wl_47_20 {Sh : List mm_C} {scr : Option (Nat × (Nat → Int32))} {rb : Bool} {Cs : Nat → List Value → mm_M → (Int32 → mm_M → Prop) → (mm_M → Prop) → Prop} {K : Nat → mm_L → List Value → mm_M → Prop} {RI : Int32 → mm_M → Prop} {RV : mm_M → Prop} {cut : Nat → Bool} {n : Nat} {loc : mm_L} {st : List Value} {μ : mm_M} : mm_wp Sh scr rb Cs K RI RV lab_47 cut (n + 1) 20 loc st μ = (if cut 20 = true then K 20 loc st μ else mm_wpB Sh scr rb Cs (mm_wp Sh scr rb Cs K RI RV lab_47 cut n) RI RV [(some (.iconst (-1)), 0, 0, [], (-1)), (some (.ireturn), 0, 0, [], 0)] loc st μ) := by
  unfold mm_wp
  by_cases h : cut 20 = true
  · rw [if_pos h, if_pos h]
  · rw [if_neg h, if_neg h]; rfl
theorem wl_47_22 {Sh : List mm_C} {scr : Option (Nat × (Nat → Int32))} {rb : Bool} {Cs : Nat → List Value → mm_M → (Int32 → mm_M → Prop) → (mm_M → Prop) → Prop} {K : Nat → mm_L → List Value → mm_M → Prop} {RI : Int32 → mm_M → Prop} {RV : mm_M → Prop} {cut : Nat → Bool} {n : Nat} {loc : mm_L} {st : List Value} {μ : mm_M} : mm_wp Sh scr rb Cs K RI RV lab_47 cut (n + 1) 22 loc st μ = (if cut 22 = true then K 22 loc st μ else mm_wpB Sh scr rb Cs (mm_wp Sh scr rb Cs K RI RV lab_47 cut n) RI RV [(some (.aload_n 0), 0, 0, [], 0), (some (.getfield 19), 7, 1, [], 0), (some (.iload_n 2), 0, 0, [], 0), (some (.invokevirtual 115), 24, 2, [], 0), (some (.ifCond .eq 13), 43, 0, [], 0), (some (.iload_n 3), 0, 0, [], 0), (some (.iconst 1), 0, 0, [], 1), (some (.bipush 50), 0, 0, [], 50), (some (.invokestatic 62), 65, 3, [], 0), (some (.ifCond .ne 5), 45, 0, [], 0), (none, 43, 0, [], 0)] loc st μ) := by
  unfold mm_wp
  by_cases h : cut 22 = true
  · rw [if_pos h, if_pos h]
  · rw [if_neg h, if_neg h]; rfl
theorem wl_47_43 {Sh : List mm_C} {scr : Option (Nat × (Nat → Int32))} {rb : Bool} {Cs : Nat → List Value → mm_M → (Int32 → mm_M → Prop) → (mm_M → Prop) → Prop} {K : Nat → mm_L → List Value → mm_M → Prop} {RI : Int32 → mm_M → Prop} {RV : mm_M → Prop} {cut : Nat → Bool} {n : Nat} {loc : mm_L} {st : List Value} {μ : mm_M} : mm_wp Sh scr rb Cs K RI RV lab_47 cut (n + 1) 43 loc st μ = (if cut 43 = true then K 43 loc st μ else mm_wpB Sh scr rb Cs (mm_wp Sh scr rb Cs K RI RV lab_47 cut n) RI RV [(some (.iconst (-1)), 0, 0, [], (-1)), (some (.ireturn), 0, 0, [], 0)] loc st μ) := by
  unfold mm_wp
  by_cases h : cut 43 = true
  · rw [if_pos h, if_pos h]
  · rw [if_neg h, if_neg h]; rfl
theorem wl_47_45 {Sh : List mm_C} {scr : Option (Nat × (Nat → Int32))} {rb : Bool} {Cs : Nat → List Value → mm_M → (Int32 → mm_M → Prop) → (mm_M → Prop) → Prop} {K : Nat → mm_L → List Value → mm_M → Prop} {RI : Int32 → mm_M → Prop} {RV : mm_M → Prop} {cut : Nat → Bool} {n : Nat} {loc : mm_L} {st : List Value} {μ : mm_M} : mm_wp Sh scr rb Cs K RI RV lab_47 cut (n + 1) 45 loc st μ = (if cut 45 = true then K 45 loc st μ else mm_wpB Sh scr rb Cs (mm_wp Sh scr rb Cs K RI RV lab_47 cut n) RI RV [(some (.iload_n 3), 0, 0, [], 0), (some (.aload_n 0), 0, 0, [], 0), (some (.getfield 19), 7, 1, [], 0), (some (.getfield 116), 4, 3, [], 0), (some (.iload_n 2), 0, 0, [], 0), (some (.iaload), 0, 0, [], 0), (some (.imul), 0, 0, [], 0), (some (.istore 4), 0, 0, [], 0), (some (.aload_n 0), 0, 0, [], 0), (some (.getfield 40), 7, 4, [], 0), (some (.getfield 119), 0, 7, [], 0), (some (.aload_n 0), 0, 0, [], 0), (some (.getfield 33), 7, 3, [], 0), (some (.invokevirtual 122), 13, 1, [], 0), (none, 72, 0, [], 0)] loc st μ) := by
  unfold mm_wp
  by_cases h : cut 45 = true
  · rw [if_pos h, if_pos h]
  · rw [if_neg h, if_neg h]; rfl
theorem wl_47_72 {Sh : List mm_C} {scr : Option (Nat × (Nat → Int32))} {rb : Bool} {Cs : Nat → List Value → mm_M → (Int32 → mm_M → Prop) → (mm_M → Prop) → Prop} {K : Nat → mm_L → List Value → mm_M → Prop} {RI : Int32 → mm_M → Prop} {RV : mm_M → Prop} {cut : Nat → Bool} {n : Nat} {loc : mm_L} {st : List Value} {μ : mm_M} : mm_wp Sh scr rb Cs K RI RV lab_47 cut (n + 1) 72 loc st μ = (if cut 72 = true then K 72 loc st μ else mm_wpB Sh scr rb Cs (mm_wp Sh scr rb Cs K RI RV lab_47 cut n) RI RV [(some (.iadd), 0, 0, [], 0), (some (.bipush 100), 0, 0, [], 100), (some (.if_icmp .ge 14), 89, 0, [], 0), (some (.aload_n 0), 0, 0, [], 0), (some (.iload_n 2), 0, 0, [], 0), (some (.iload_n 3), 0, 0, [], 0), (some (.iload 4), 0, 0, [], 0), (some (.invokevirtual 126), 62, 4, [], 0), (some (.ifCond .ne 5), 91, 0, [], 0), (none, 89, 0, [], 0)] loc st μ) := by
  unfold mm_wp
  by_cases h : cut 72 = true
  · rw [if_pos h, if_pos h]
  · rw [if_neg h, if_neg h]; rfl
theorem wl_47_89 {Sh : List mm_C} {scr : Option (Nat × (Nat → Int32))} {rb : Bool} {Cs : Nat → List Value → mm_M → (Int32 → mm_M → Prop) → (mm_M → Prop) → Prop} {K : Nat → mm_L → List Value → mm_M → Prop} {RI : Int32 → mm_M → Prop} {RV : mm_M → Prop} {cut : Nat → Bool} {n : Nat} {loc : mm_L} {st : List Value} {μ : mm_M} : mm_wp Sh scr rb Cs K RI RV lab_47 cut (n + 1) 89 loc st μ = (if cut 89 = true then K 89 loc st μ else mm_wpB Sh scr rb Cs (mm_wp Sh scr rb Cs K RI RV lab_47 cut n) RI RV [(some (.iconst (-1)), 0, 0, [], (-1)), (some (.ireturn), 0, 0, [], 0)] loc st μ) := by
  unfold mm_wp
  by_cases h : cut 89 = true
  · rw [if_pos h, if_pos h]
  · rw [if_neg h, if_neg h]; rfl
theorem wl_47_91 {Sh : List mm_C} {scr : Option (Nat × (Nat → Int32))} {rb : Bool} {Cs : Nat → List Value → mm_M → (Int32 → mm_M → Prop) → (mm_M → Prop) → Prop} {K : Nat → mm_L → List Value → mm_M → Prop} {RI : Int32 → mm_M → Prop} {RV : mm_M → Prop} {cut : Nat → Bool} {n : Nat} {loc : mm_L} {st : List Value} {μ : mm_M} : mm_wp Sh scr rb Cs K RI RV lab_47 cut (n + 1) 91 loc st μ = (if cut 91 = true then K 91 loc st μ else mm_wpB Sh scr rb Cs (mm_wp Sh scr rb Cs K RI RV lab_47 cut n) RI RV [(some (.aload_n 0), 0, 0, [], 0), (some (.getfield 58), 7, 7, [], 0), (some (.aload_n 0), 0, 0, [], 0), (some (.getfield 19), 7, 1, [], 0), (some (.getfield 129), 4, 2, [], 0), (some (.iload_n 2), 0, 0, [], 0), (some (.iaload), 0, 0, [], 0), (some (.dup2), 0, 0, [], 0), (some (.iaload), 0, 0, [], 0), (some (.iload_n 3), 0, 0, [], 0), (some (.isub), 0, 0, [], 0), (some (.iastore), 0, 0, [], 0), (some (.aload_n 0), 0, 0, [], 0), (some (.dup), 0, 0, [], 0), (some (.getfield 132), 7, 10, [], 0), (some (.iload 4), 0, 0, [], 0), (some (.iadd), 0, 0, [], 0), (some (.putfield 132), 7, 10, [], 0), (some (.aload_n 0), 0, 0, [], 0), (some (.getfield 33), 7, 3, [], 0), (some (.iload_n 1), 0, 0, [], 0), (some (.iload_n 2), 0, 0, [], 0), (some (.iload_n 3), 0, 0, [], 0), (some (.iload 4), 0, 0, [], 0), (some (.aload_n 0), 0, 0, [], 0), (some (.getfield 66), 7, 8, [], 0), (some (.aload_n 0), 0, 0, [], 0), (some (.getfield 19), 7, 1, [], 0), (some (.getfield 135), 4, 4, [], 0), (some (.iload_n 2), 0, 0, [], 0), (some (.iaload), 0, 0, [], 0), (some (.iadd), 0, 0, [], 0), (some (.invokevirtual 138), 15, 6, [], 0), (some (.aload_n 0), 0, 0, [], 0), (some (.getfield 10), 7, 0, [], 0), (some (.aload_n 0), 0, 0, [], 0), (some (.getfield 19), 7, 1, [], 0), (some (.getfield 142), 4, 1, [], 0), (some (.iload_n 2), 0, 0, [], 0), (some (.iaload), 0, 0, [], 0), (some (.iload 4), 0, 0, [], 0), (some (.aload_n 0), 0, 0, [], 0), (some (.getfield 33), 7, 3, [], 0), (some (.getfield 145), 2, 4, [], 0), (some (.iload_n 1), 0, 0, [], 0), (some (.bipush 60), 0, 0, [], 60), (some (.imul), 0, 0, [], 0), (some (.invokevirtual 146), 33, 5, [], 0), (some (.iload 4), 0, 0, [], 0), (some (.ireturn), 0, 0, [], 0)] loc st μ) := by
  unfold mm_wp
  by_cases h : cut 91 = true
  · rw [if_pos h, if_pos h]
  · rw [if_neg h, if_neg h]; rfl
theorem wl_48_0 {Sh : List mm_C} {scr : Option (Nat × (Nat → Int32))} {rb : Bool} {Cs : Nat → List Value → mm_M → (Int32 → mm_M → Prop) → (mm_M → Prop) → Prop} {K : Nat → mm_L → List Value → mm_M → Prop} {RI : Int32 → mm_M → Prop} {RV : mm_M → Prop} {cut : Nat → Bool} {n : Nat} {loc : mm_L} {st : List Value} {μ : mm_M} : mm_wp Sh scr rb Cs K RI RV lab_48 cut (n + 1) 0 loc st μ = (if cut 0 = true then K 0 loc st μ else mm_wpB Sh scr rb Cs (mm_wp Sh scr rb Cs K RI RV lab_48 cut n) RI RV [(some (.iload_n 1), 0, 0, [], 0), (some (.iconst 0), 0, 0, [], 0), (some (.iconst 2), 0, 0, [], 2), (some (.invokestatic 62), 65, 3, [], 0), (some (.ifCond .eq 14), 20, 0, [], 0), (some (.aload_n 0), 0, 0, [], 0), (some (.getfield 33), 7, 3, [], 0), (some (.iload_n 1), 0, 0, [], 0), (some (.invokevirtual 112), 12, 2, [], 0), (some (.ifCond .eq 5), 22, 0, [], 0), (none, 20, 0, [], 0)] loc st μ) := by
  unfold mm_wp
  by_cases h : cut 0 = true
  · rw [if_pos h, if_pos h]
  · rw [if_neg h, if_neg h]; rfl
theorem wl_48_20 {Sh : List mm_C} {scr : Option (Nat × (Nat → Int32))} {rb : Bool} {Cs : Nat → List Value → mm_M → (Int32 → mm_M → Prop) → (mm_M → Prop) → Prop} {K : Nat → mm_L → List Value → mm_M → Prop} {RI : Int32 → mm_M → Prop} {RV : mm_M → Prop} {cut : Nat → Bool} {n : Nat} {loc : mm_L} {st : List Value} {μ : mm_M} : mm_wp Sh scr rb Cs K RI RV lab_48 cut (n + 1) 20 loc st μ = (if cut 20 = true then K 20 loc st μ else mm_wpB Sh scr rb Cs (mm_wp Sh scr rb Cs K RI RV lab_48 cut n) RI RV [(some (.iconst (-1)), 0, 0, [], (-1)), (some (.ireturn), 0, 0, [], 0)] loc st μ) := by
  unfold mm_wp
  by_cases h : cut 20 = true
  · rw [if_pos h, if_pos h]
  · rw [if_neg h, if_neg h]; rfl
theorem wl_48_22 {Sh : List mm_C} {scr : Option (Nat × (Nat → Int32))} {rb : Bool} {Cs : Nat → List Value → mm_M → (Int32 → mm_M → Prop) → (mm_M → Prop) → Prop} {K : Nat → mm_L → List Value → mm_M → Prop} {RI : Int32 → mm_M → Prop} {RV : mm_M → Prop} {cut : Nat → Bool} {n : Nat} {loc : mm_L} {st : List Value} {μ : mm_M} : mm_wp Sh scr rb Cs K RI RV lab_48 cut (n + 1) 22 loc st μ = (if cut 22 = true then K 22 loc st μ else mm_wpB Sh scr rb Cs (mm_wp Sh scr rb Cs K RI RV lab_48 cut n) RI RV [(some (.aload_n 0), 0, 0, [], 0), (some (.getfield 33), 7, 3, [], 0), (some (.getfield 150), 2, 3, [], 0), (some (.iload_n 1), 0, 0, [], 0), (some (.iaload), 0, 0, [], 0), (some (.istore_n 2), 0, 0, [], 0), (some (.aload_n 0), 0, 0, [], 0), (some (.dup), 0, 0, [], 0), (some (.getfield 153), 7, 11, [], 0), (some (.iload_n 2), 0, 0, [], 0), (some (.iadd), 0, 0, [], 0), (some (.putfield 153), 7, 11, [], 0), (some (.aload_n 0), 0, 0, [], 0), (some (.getfield 33), 7, 3, [], 0), (some (.iload_n 1), 0, 0, [], 0), (some (.invokevirtual 156), 16, 2, [], 0), (some (.iload_n 2), 0, 0, [], 0), (some (.ireturn), 0, 0, [], 0)] loc st μ) := by
  unfold mm_wp
  by_cases h : cut 22 = true
  · rw [if_pos h, if_pos h]
  · rw [if_neg h, if_neg h]; rfl
theorem wl_49_0 {Sh : List mm_C} {scr : Option (Nat × (Nat → Int32))} {rb : Bool} {Cs : Nat → List Value → mm_M → (Int32 → mm_M → Prop) → (mm_M → Prop) → Prop} {K : Nat → mm_L → List Value → mm_M → Prop} {RI : Int32 → mm_M → Prop} {RV : mm_M → Prop} {cut : Nat → Bool} {n : Nat} {loc : mm_L} {st : List Value} {μ : mm_M} : mm_wp Sh scr rb Cs K RI RV lab_49 cut (n + 1) 0 loc st μ = (if cut 0 = true then K 0 loc st μ else mm_wpB Sh scr rb Cs (mm_wp Sh scr rb Cs K RI RV lab_49 cut n) RI RV [(some (.iload_n 1), 0, 0, [], 0), (some (.iconst 0), 0, 0, [], 0), (some (.sipush 400), 0, 0, [], 400), (some (.invokestatic 62), 65, 3, [], 0), (some (.ifCond .ne 5), 13, 0, [], 0), (some (.iconst (-1)), 0, 0, [], (-1)), (some (.ireturn), 0, 0, [], 0)] loc st μ) := by
  unfold mm_wp
  by_cases h : cut 0 = true
  · rw [if_pos h, if_pos h]
  · rw [if_neg h, if_neg h]; rfl
theorem wl_49_13 {Sh : List mm_C} {scr : Option (Nat × (Nat → Int32))} {rb : Bool} {Cs : Nat → List Value → mm_M → (Int32 → mm_M → Prop) → (mm_M → Prop) → Prop} {K : Nat → mm_L → List Value → mm_M → Prop} {RI : Int32 → mm_M → Prop} {RV : mm_M → Prop} {cut : Nat → Bool} {n : Nat} {loc : mm_L} {st : List Value} {μ : mm_M} : mm_wp Sh scr rb Cs K RI RV lab_49 cut (n + 1) 13 loc st μ = (if cut 13 = true then K 13 loc st μ else mm_wpB Sh scr rb Cs (mm_wp Sh scr rb Cs K RI RV lab_49 cut n) RI RV [(some (.iconst 0), 0, 0, [], 0), (some (.istore_n 2), 0, 0, [], 0), (none, 15, 0, [], 0)] loc st μ) := by
  unfold mm_wp
  by_cases h : cut 13 = true
  · rw [if_pos h, if_pos h]
  · rw [if_neg h, if_neg h]; rfl
theorem wl_49_15 {Sh : List mm_C} {scr : Option (Nat × (Nat → Int32))} {rb : Bool} {Cs : Nat → List Value → mm_M → (Int32 → mm_M → Prop) → (mm_M → Prop) → Prop} {K : Nat → mm_L → List Value → mm_M → Prop} {RI : Int32 → mm_M → Prop} {RV : mm_M → Prop} {cut : Nat → Bool} {n : Nat} {loc : mm_L} {st : List Value} {μ : mm_M} : mm_wp Sh scr rb Cs K RI RV lab_49 cut (n + 1) 15 loc st μ = (if cut 15 = true then K 15 loc st μ else mm_wpB Sh scr rb Cs (mm_wp Sh scr rb Cs K RI RV lab_49 cut n) RI RV [(some (.iload_n 2), 0, 0, [], 0), (some (.iload_n 1), 0, 0, [], 0), (some (.if_icmp .ge 23), 40, 0, [], 0), (some (.aload_n 0), 0, 0, [], 0), (some (.getfield 66), 7, 8, [], 0), (some (.sipush 5000), 0, 0, [], 5000), (some (.if_icmp .ge 13), 40, 0, [], 0), (some (.aload_n 0), 0, 0, [], 0), (some (.invokevirtual 160), 63, 1, [], 0), (some (.iinc 2 1), 0, 0, [], 1), (some (.goto (-22)), 15, 0, [], 0)] loc st μ) := by
  unfold mm_wp
  by_cases h : cut 15 = true
  · rw [if_pos h, if_pos h]
  · rw [if_neg h, if_neg h]; rfl
theorem wl_49_40 {Sh : List mm_C} {scr : Option (Nat × (Nat → Int32))} {rb : Bool} {Cs : Nat → List Value → mm_M → (Int32 → mm_M → Prop) → (mm_M → Prop) → Prop} {K : Nat → mm_L → List Value → mm_M → Prop} {RI : Int32 → mm_M → Prop} {RV : mm_M → Prop} {cut : Nat → Bool} {n : Nat} {loc : mm_L} {st : List Value} {μ : mm_M} : mm_wp Sh scr rb Cs K RI RV lab_49 cut (n + 1) 40 loc st μ = (if cut 40 = true then K 40 loc st μ else mm_wpB Sh scr rb Cs (mm_wp Sh scr rb Cs K RI RV lab_49 cut n) RI RV [(some (.aload_n 0), 0, 0, [], 0), (some (.getfield 66), 7, 8, [], 0), (some (.ireturn), 0, 0, [], 0)] loc st μ) := by
  unfold mm_wp
  by_cases h : cut 40 = true
  · rw [if_pos h, if_pos h]
  · rw [if_neg h, if_neg h]; rfl
theorem wl_50_0 {Sh : List mm_C} {scr : Option (Nat × (Nat → Int32))} {rb : Bool} {Cs : Nat → List Value → mm_M → (Int32 → mm_M → Prop) → (mm_M → Prop) → Prop} {K : Nat → mm_L → List Value → mm_M → Prop} {RI : Int32 → mm_M → Prop} {RV : mm_M → Prop} {cut : Nat → Bool} {n : Nat} {loc : mm_L} {st : List Value} {μ : mm_M} : mm_wp Sh scr rb Cs K RI RV lab_50 cut (n + 1) 0 loc st μ = (if cut 0 = true then K 0 loc st μ else mm_wpB Sh scr rb Cs (mm_wp Sh scr rb Cs K RI RV lab_50 cut n) RI RV [(some (.aload_n 0), 0, 0, [], 0), (some (.getfield 19), 7, 1, [], 0), (some (.iload_n 1), 0, 0, [], 0), (some (.invokevirtual 115), 24, 2, [], 0), (some (.ifCond .ne 5), 13, 0, [], 0), (some (.iconst (-1)), 0, 0, [], (-1)), (some (.ireturn), 0, 0, [], 0)] loc st μ) := by
  unfold mm_wp
  by_cases h : cut 0 = true
  · rw [if_pos h, if_pos h]
  · rw [if_neg h, if_neg h]; rfl
theorem wl_50_13 {Sh : List mm_C} {scr : Option (Nat × (Nat → Int32))} {rb : Bool} {Cs : Nat → List Value → mm_M → (Int32 → mm_M → Prop) → (mm_M → Prop) → Prop} {K : Nat → mm_L → List Value → mm_M → Prop} {RI : Int32 → mm_M → Prop} {RV : mm_M → Prop} {cut : Nat → Bool} {n : Nat} {loc : mm_L} {st : List Value} {μ : mm_M} : mm_wp Sh scr rb Cs K RI RV lab_50 cut (n + 1) 13 loc st μ = (if cut 13 = true then K 13 loc st μ else mm_wpB Sh scr rb Cs (mm_wp Sh scr rb Cs K RI RV lab_50 cut n) RI RV [(some (.aload_n 0), 0, 0, [], 0), (some (.getfield 54), 7, 6, [], 0), (some (.aload_n 0), 0, 0, [], 0), (some (.getfield 19), 7, 1, [], 0), (some (.aload_n 0), 0, 0, [], 0), (some (.getfield 10), 7, 0, [], 0), (some (.aload_n 0), 0, 0, [], 0), (some (.getfield 58), 7, 7, [], 0), (some (.invokevirtual 163), 36, 4, [], 0), (some (.aload_n 0), 0, 0, [], 0), (some (.getfield 54), 7, 6, [], 0), (some (.getfield 167), 6, 5, [], 0), (some (.iload_n 1), 0, 0, [], 0), (some (.iaload), 0, 0, [], 0), (some (.ireturn), 0, 0, [], 0)] loc st μ) := by
  unfold mm_wp
  by_cases h : cut 13 = true
  · rw [if_pos h, if_pos h]
  · rw [if_neg h, if_neg h]; rfl
theorem wl_51_0 {Sh : List mm_C} {scr : Option (Nat × (Nat → Int32))} {rb : Bool} {Cs : Nat → List Value → mm_M → (Int32 → mm_M → Prop) → (mm_M → Prop) → Prop} {K : Nat → mm_L → List Value → mm_M → Prop} {RI : Int32 → mm_M → Prop} {RV : mm_M → Prop} {cut : Nat → Bool} {n : Nat} {loc : mm_L} {st : List Value} {μ : mm_M} : mm_wp Sh scr rb Cs K RI RV lab_51 cut (n + 1) 0 loc st μ = (if cut 0 = true then K 0 loc st μ else mm_wpB Sh scr rb Cs (mm_wp Sh scr rb Cs K RI RV lab_51 cut n) RI RV [(some (.aload_n 0), 0, 0, [], 0), (some (.getfield 54), 7, 6, [], 0), (some (.aload_n 0), 0, 0, [], 0), (some (.getfield 19), 7, 1, [], 0), (some (.aload_n 0), 0, 0, [], 0), (some (.getfield 10), 7, 0, [], 0), (some (.aload_n 0), 0, 0, [], 0), (some (.getfield 58), 7, 7, [], 0), (some (.invokevirtual 163), 36, 4, [], 0), (some (.aload_n 0), 0, 0, [], 0), (some (.getfield 54), 7, 6, [], 0), (some (.getfield 170), 6, 7, [], 0), (some (.ireturn), 0, 0, [], 0)] loc st μ) := by
  unfold mm_wp
  by_cases h : cut 0 = true
  · rw [if_pos h, if_pos h]
  · rw [if_neg h, if_neg h]; rfl
theorem wl_52_0 {Sh : List mm_C} {scr : Option (Nat × (Nat → Int32))} {rb : Bool} {Cs : Nat → List Value → mm_M → (Int32 → mm_M → Prop) → (mm_M → Prop) → Prop} {K : Nat → mm_L → List Value → mm_M → Prop} {RI : Int32 → mm_M → Prop} {RV : mm_M → Prop} {cut : Nat → Bool} {n : Nat} {loc : mm_L} {st : List Value} {μ : mm_M} : mm_wp Sh scr rb Cs K RI RV lab_52 cut (n + 1) 0 loc st μ = (if cut 0 = true then K 0 loc st μ else mm_wpB Sh scr rb Cs (mm_wp Sh scr rb Cs K RI RV lab_52 cut n) RI RV [(some (.iload_n 1), 0, 0, [], 0), (some (.iconst 0), 0, 0, [], 0), (some (.iconst 5), 0, 0, [], 5), (some (.invokestatic 62), 65, 3, [], 0), (some (.ifCond .eq 14), 20, 0, [], 0), (some (.aload_n 0), 0, 0, [], 0), (some (.getfield 19), 7, 1, [], 0), (some (.iload_n 2), 0, 0, [], 0), (some (.invokevirtual 115), 24, 2, [], 0), (some (.ifCond .ne 5), 22, 0, [], 0), (none, 20, 0, [], 0)] loc st μ) := by
  unfold mm_wp
  by_cases h : cut 0 = true
  · rw [if_pos h, if_pos h]
  · rw [if_neg h, if_neg h]; rfl
theorem wl_52_20 {Sh : List mm_C} {scr : Option (Nat × (Nat → Int32))} {rb : Bool} {Cs : Nat → List Value → mm_M → (Int32 → mm_M → Prop) → (mm_M → Prop) → Prop} {K : Nat → mm_L → List Value → mm_M → Prop} {RI : Int32 → mm_M → Prop} {RV : mm_M → Prop} {cut : Nat → Bool} {n : Nat} {loc : mm_L} {st : List Value} {μ : mm_M} : mm_wp Sh scr rb Cs K RI RV lab_52 cut (n + 1) 20 loc st μ = (if cut 20 = true then K 20 loc st μ else mm_wpB Sh scr rb Cs (mm_wp Sh scr rb Cs K RI RV lab_52 cut n) RI RV [(some (.iconst (-1)), 0, 0, [], (-1)), (some (.ireturn), 0, 0, [], 0)] loc st μ) := by
  unfold mm_wp
  by_cases h : cut 20 = true
  · rw [if_pos h, if_pos h]
  · rw [if_neg h, if_neg h]; rfl
theorem wl_52_22 {Sh : List mm_C} {scr : Option (Nat × (Nat → Int32))} {rb : Bool} {Cs : Nat → List Value → mm_M → (Int32 → mm_M → Prop) → (mm_M → Prop) → Prop} {K : Nat → mm_L → List Value → mm_M → Prop} {RI : Int32 → mm_M → Prop} {RV : mm_M → Prop} {cut : Nat → Bool} {n : Nat} {loc : mm_L} {st : List Value} {μ : mm_M} : mm_wp Sh scr rb Cs K RI RV lab_52 cut (n + 1) 22 loc st μ = (if cut 22 = true then K 22 loc st μ else mm_wpB Sh scr rb Cs (mm_wp Sh scr rb Cs K RI RV lab_52 cut n) RI RV [(some (.iload_n 3), 0, 0, [], 0), (some (.iconst 1), 0, 0, [], 1), (some (.aload_n 0), 0, 0, [], 0), (some (.getfield 40), 7, 4, [], 0), (some (.iload_n 2), 0, 0, [], 0), (some (.invokevirtual 173), 3, 2, [], 0), (some (.invokestatic 62), 65, 3, [], 0), (some (.ifCond .ne 5), 40, 0, [], 0), (some (.iconst (-1)), 0, 0, [], (-1)), (some (.ireturn), 0, 0, [], 0)] loc st μ) := by
  unfold mm_wp
  by_cases h : cut 22 = true
  · rw [if_pos h, if_pos h]
  · rw [if_neg h, if_neg h]; rfl
theorem wl_52_40 {Sh : List mm_C} {scr : Option (Nat × (Nat → Int32))} {rb : Bool} {Cs : Nat → List Value → mm_M → (Int32 → mm_M → Prop) → (mm_M → Prop) → Prop} {K : Nat → mm_L → List Value → mm_M → Prop} {RI : Int32 → mm_M → Prop} {RV : mm_M → Prop} {cut : Nat → Bool} {n : Nat} {loc : mm_L} {st : List Value} {μ : mm_M} : mm_wp Sh scr rb Cs K RI RV lab_52 cut (n + 1) 40 loc st μ = (if cut 40 = true then K 40 loc st μ else mm_wpB Sh scr rb Cs (mm_wp Sh scr rb Cs K RI RV lab_52 cut n) RI RV [(some (.aload_n 0), 0, 0, [], 0), (some (.getfield 40), 7, 4, [], 0), (some (.iload_n 1), 0, 0, [], 0), (some (.iload_n 2), 0, 0, [], 0), (some (.iload_n 3), 0, 0, [], 0), (some (.aload_n 0), 0, 0, [], 0), (some (.getfield 19), 7, 1, [], 0), (some (.getfield 177), 4, 5, [], 0), (some (.iload_n 2), 0, 0, [], 0), (some (.iaload), 0, 0, [], 0), (some (.aload_n 0), 0, 0, [], 0), (some (.getfield 66), 7, 8, [], 0), (some (.invokevirtual 180), 5, 6, [], 0), (some (.istore 4), 0, 0, [], 0), (some (.aload_n 0), 0, 0, [], 0), (some (.getfield 47), 7, 5, [], 0), (some (.iload_n 1), 0, 0, [], 0), (some (.iload_n 2), 0, 0, [], 0), (some (.iload_n 3), 0, 0, [], 0), (some (.invokevirtual 184), 9, 4, [], 0), (some (.aload_n 0), 0, 0, [], 0), (some (.dup), 0, 0, [], 0), (some (.getfield 187), 7, 12, [], 0), (some (.iload 4), 0, 0, [], 0), (some (.iadd), 0, 0, [], 0), (some (.putfield 187), 7, 12, [], 0), (some (.iload 4), 0, 0, [], 0), (some (.ireturn), 0, 0, [], 0)] loc st μ) := by
  unfold mm_wp
  by_cases h : cut 40 = true
  · rw [if_pos h, if_pos h]
  · rw [if_neg h, if_neg h]; rfl
theorem wl_53_0 {Sh : List mm_C} {scr : Option (Nat × (Nat → Int32))} {rb : Bool} {Cs : Nat → List Value → mm_M → (Int32 → mm_M → Prop) → (mm_M → Prop) → Prop} {K : Nat → mm_L → List Value → mm_M → Prop} {RI : Int32 → mm_M → Prop} {RV : mm_M → Prop} {cut : Nat → Bool} {n : Nat} {loc : mm_L} {st : List Value} {μ : mm_M} : mm_wp Sh scr rb Cs K RI RV lab_53 cut (n + 1) 0 loc st μ = (if cut 0 = true then K 0 loc st μ else mm_wpB Sh scr rb Cs (mm_wp Sh scr rb Cs K RI RV lab_53 cut n) RI RV [(some (.iload_n 1), 0, 0, [], 0), (some (.iconst 0), 0, 0, [], 0), (some (.iconst 5), 0, 0, [], 5), (some (.invokestatic 62), 65, 3, [], 0), (some (.ifCond .eq 14), 20, 0, [], 0), (some (.aload_n 0), 0, 0, [], 0), (some (.getfield 19), 7, 1, [], 0), (some (.iload_n 2), 0, 0, [], 0), (some (.invokevirtual 115), 24, 2, [], 0), (some (.ifCond .ne 5), 22, 0, [], 0), (none, 20, 0, [], 0)] loc st μ) := by
  unfold mm_wp
  by_cases h : cut 0 = true
  · rw [if_pos h, if_pos h]
  · rw [if_neg h, if_neg h]; rfl
theorem wl_53_20 {Sh : List mm_C} {scr : Option (Nat × (Nat → Int32))} {rb : Bool} {Cs : Nat → List Value → mm_M → (Int32 → mm_M → Prop) → (mm_M → Prop) → Prop} {K : Nat → mm_L → List Value → mm_M → Prop} {RI : Int32 → mm_M → Prop} {RV : mm_M → Prop} {cut : Nat → Bool} {n : Nat} {loc : mm_L} {st : List Value} {μ : mm_M} : mm_wp Sh scr rb Cs K RI RV lab_53 cut (n + 1) 20 loc st μ = (if cut 20 = true then K 20 loc st μ else mm_wpB Sh scr rb Cs (mm_wp Sh scr rb Cs K RI RV lab_53 cut n) RI RV [(some (.iconst (-1)), 0, 0, [], (-1)), (some (.ireturn), 0, 0, [], 0)] loc st μ) := by
  unfold mm_wp
  by_cases h : cut 20 = true
  · rw [if_pos h, if_pos h]
  · rw [if_neg h, if_neg h]; rfl
theorem wl_53_22 {Sh : List mm_C} {scr : Option (Nat × (Nat → Int32))} {rb : Bool} {Cs : Nat → List Value → mm_M → (Int32 → mm_M → Prop) → (mm_M → Prop) → Prop} {K : Nat → mm_L → List Value → mm_M → Prop} {RI : Int32 → mm_M → Prop} {RV : mm_M → Prop} {cut : Nat → Bool} {n : Nat} {loc : mm_L} {st : List Value} {μ : mm_M} : mm_wp Sh scr rb Cs K RI RV lab_53 cut (n + 1) 22 loc st μ = (if cut 22 = true then K 22 loc st μ else mm_wpB Sh scr rb Cs (mm_wp Sh scr rb Cs K RI RV lab_53 cut n) RI RV [(some (.iload_n 3), 0, 0, [], 0), (some (.iconst 1), 0, 0, [], 1), (some (.sipush 500), 0, 0, [], 500), (some (.invokestatic 62), 65, 3, [], 0), (some (.ifCond .eq 21), 51, 0, [], 0), (some (.iload 4), 0, 0, [], 0), (some (.aload_n 0), 0, 0, [], 0), (some (.getfield 66), 7, 8, [], 0), (some (.sipush 168), 0, 0, [], 168), (some (.idiv), 0, 0, [], 0), (some (.bipush 29), 0, 0, [], 29), (some (.invokestatic 62), 65, 3, [], 0), (some (.ifCond .ne 5), 53, 0, [], 0), (none, 51, 0, [], 0)] loc st μ) := by
  unfold mm_wp
  by_cases h : cut 22 = true
  · rw [if_pos h, if_pos h]
  · rw [if_neg h, if_neg h]; rfl
theorem wl_53_51 {Sh : List mm_C} {scr : Option (Nat × (Nat → Int32))} {rb : Bool} {Cs : Nat → List Value → mm_M → (Int32 → mm_M → Prop) → (mm_M → Prop) → Prop} {K : Nat → mm_L → List Value → mm_M → Prop} {RI : Int32 → mm_M → Prop} {RV : mm_M → Prop} {cut : Nat → Bool} {n : Nat} {loc : mm_L} {st : List Value} {μ : mm_M} : mm_wp Sh scr rb Cs K RI RV lab_53 cut (n + 1) 51 loc st μ = (if cut 51 = true then K 51 loc st μ else mm_wpB Sh scr rb Cs (mm_wp Sh scr rb Cs K RI RV lab_53 cut n) RI RV [(some (.iconst (-1)), 0, 0, [], (-1)), (some (.ireturn), 0, 0, [], 0)] loc st μ) := by
  unfold mm_wp
  by_cases h : cut 51 = true
  · rw [if_pos h, if_pos h]
  · rw [if_neg h, if_neg h]; rfl
theorem wl_53_53 {Sh : List mm_C} {scr : Option (Nat × (Nat → Int32))} {rb : Bool} {Cs : Nat → List Value → mm_M → (Int32 → mm_M → Prop) → (mm_M → Prop) → Prop} {K : Nat → mm_L → List Value → mm_M → Prop} {RI : Int32 → mm_M → Prop} {RV : mm_M → Prop} {cut : Nat → Bool} {n : Nat} {loc : mm_L} {st : List Value} {μ : mm_M} : mm_wp Sh scr rb Cs K RI RV lab_53 cut (n + 1) 53 loc st μ = (if cut 53 = true then K 53 loc st μ else mm_wpB Sh scr rb Cs (mm_wp Sh scr rb Cs K RI RV lab_53 cut n) RI RV [(some (.aload_n 0), 0, 0, [], 0), (some (.getfield 47), 7, 5, [], 0), (some (.iload_n 1), 0, 0, [], 0), (some (.iload_n 2), 0, 0, [], 0), (some (.iload_n 3), 0, 0, [], 0), (some (.iload 4), 0, 0, [], 0), (some (.invokevirtual 190), 8, 5, [], 0), (some (.ireturn), 0, 0, [], 0)] loc st μ) := by
  unfold mm_wp
  by_cases h : cut 53 = true
  · rw [if_pos h, if_pos h]
  · rw [if_neg h, if_neg h]; rfl
theorem wl_54_0 {Sh : List mm_C} {scr : Option (Nat × (Nat → Int32))} {rb : Bool} {Cs : Nat → List Value → mm_M → (Int32 → mm_M → Prop) → (mm_M → Prop) → Prop} {K : Nat → mm_L → List Value → mm_M → Prop} {RI : Int32 → mm_M → Prop} {RV : mm_M → Prop} {cut : Nat → Bool} {n : Nat} {loc : mm_L} {st : List Value} {μ : mm_M} : mm_wp Sh scr rb Cs K RI RV lab_54 cut (n + 1) 0 loc st μ = (if cut 0 = true then K 0 loc st μ else mm_wpB Sh scr rb Cs (mm_wp Sh scr rb Cs K RI RV lab_54 cut n) RI RV [(some (.aload_n 0), 0, 0, [], 0), (some (.getfield 47), 7, 5, [], 0), (some (.iload_n 1), 0, 0, [], 0), (some (.invokevirtual 193), 7, 2, [], 0), (some (.ifCond .eq 15), 23, 0, [], 0), (some (.aload_n 0), 0, 0, [], 0), (some (.getfield 47), 7, 5, [], 0), (some (.getfield 194), 1, 5, [], 0), (some (.iload_n 1), 0, 0, [], 0), (some (.baload), 0, 0, [], 0), (some (.ifCond .eq 5), 25, 0, [], 0), (none, 23, 0, [], 0)] loc st μ) := by
  unfold mm_wp
  by_cases h : cut 0 = true
  · rw [if_pos h, if_pos h]
  · rw [if_neg h, if_neg h]; rfl
theorem wl_54_23 {Sh : List mm_C} {scr : Option (Nat × (Nat → Int32))} {rb : Bool} {Cs : Nat → List Value → mm_M → (Int32 → mm_M → Prop) → (mm_M → Prop) → Prop} {K : Nat → mm_L → List Value → mm_M → Prop} {RI : Int32 → mm_M → Prop} {RV : mm_M → Prop} {cut : Nat → Bool} {n : Nat} {loc : mm_L} {st : List Value} {μ : mm_M} : mm_wp Sh scr rb Cs K RI RV lab_54 cut (n + 1) 23 loc st μ = (if cut 23 = true then K 23 loc st μ else mm_wpB Sh scr rb Cs (mm_wp Sh scr rb Cs K RI RV lab_54 cut n) RI RV [(some (.iconst (-1)), 0, 0, [], (-1)), (some (.ireturn), 0, 0, [], 0)] loc st μ) := by
  unfold mm_wp
  by_cases h : cut 23 = true
  · rw [if_pos h, if_pos h]
  · rw [if_neg h, if_neg h]; rfl
theorem wl_54_25 {Sh : List mm_C} {scr : Option (Nat × (Nat → Int32))} {rb : Bool} {Cs : Nat → List Value → mm_M → (Int32 → mm_M → Prop) → (mm_M → Prop) → Prop} {K : Nat → mm_L → List Value → mm_M → Prop} {RI : Int32 → mm_M → Prop} {RV : mm_M → Prop} {cut : Nat → Bool} {n : Nat} {loc : mm_L} {st : List Value} {μ : mm_M} : mm_wp Sh scr rb Cs K RI RV lab_54 cut (n + 1) 25 loc st μ = (if cut 25 = true then K 25 loc st μ else mm_wpB Sh scr rb Cs (mm_wp Sh scr rb Cs K RI RV lab_54 cut n) RI RV [(some (.aload_n 0), 0, 0, [], 0), (some (.getfield 47), 7, 5, [], 0), (some (.iload_n 1), 0, 0, [], 0), (some (.aload_n 0), 0, 0, [], 0), (some (.getfield 40), 7, 4, [], 0), (some (.aload_n 0), 0, 0, [], 0), (some (.getfield 47), 7, 5, [], 0), (some (.getfield 197), 1, 1, [], 0), (some (.iload_n 1), 0, 0, [], 0), (some (.iaload), 0, 0, [], 0), (some (.invokevirtual 173), 3, 2, [], 0), (some (.invokevirtual 200), 10, 3, [], 0), (some (.ireturn), 0, 0, [], 0)] loc st μ) := by
  unfold mm_wp
  by_cases h : cut 25 = true
  · rw [if_pos h, if_pos h]
  · rw [if_neg h, if_neg h]; rfl
theorem wl_55_0 {Sh : List mm_C} {scr : Option (Nat × (Nat → Int32))} {rb : Bool} {Cs : Nat → List Value → mm_M → (Int32 → mm_M → Prop) → (mm_M → Prop) → Prop} {K : Nat → mm_L → List Value → mm_M → Prop} {RI : Int32 → mm_M → Prop} {RV : mm_M → Prop} {cut : Nat → Bool} {n : Nat} {loc : mm_L} {st : List Value} {μ : mm_M} : mm_wp Sh scr rb Cs K RI RV lab_55 cut (n + 1) 0 loc st μ = (if cut 0 = true then K 0 loc st μ else mm_wpB Sh scr rb Cs (mm_wp Sh scr rb Cs K RI RV lab_55 cut n) RI RV [(some (.aload_n 0), 0, 0, [], 0), (some (.getfield 10), 7, 0, [], 0), (some (.iload_n 1), 0, 0, [], 0), (some (.invokevirtual 79), 26, 2, [], 0), (some (.ifCond .eq 15), 23, 0, [], 0), (some (.aload_n 0), 0, 0, [], 0), (some (.getfield 10), 7, 0, [], 0), (some (.getfield 204), 5, 4, [], 0), (some (.iload_n 1), 0, 0, [], 0), (some (.baload), 0, 0, [], 0), (some (.ifCond .eq 5), 25, 0, [], 0), (none, 23, 0, [], 0)] loc st μ) := by
  unfold mm_wp
  by_cases h : cut 0 = true
  · rw [if_pos h, if_pos h]
  · rw [if_neg h, if_neg h]; rfl
theorem wl_55_23 {Sh : List mm_C} {scr : Option (Nat × (Nat → Int32))} {rb : Bool} {Cs : Nat → List Value → mm_M → (Int32 → mm_M → Prop) → (mm_M → Prop) → Prop} {K : Nat → mm_L → List Value → mm_M → Prop} {RI : Int32 → mm_M → Prop} {RV : mm_M → Prop} {cut : Nat → Bool} {n : Nat} {loc : mm_L} {st : List Value} {μ : mm_M} : mm_wp Sh scr rb Cs K RI RV lab_55 cut (n + 1) 23 loc st μ = (if cut 23 = true then K 23 loc st μ else mm_wpB Sh scr rb Cs (mm_wp Sh scr rb Cs K RI RV lab_55 cut n) RI RV [(some (.iconst (-1)), 0, 0, [], (-1)), (some (.ireturn), 0, 0, [], 0)] loc st μ) := by
  unfold mm_wp
  by_cases h : cut 23 = true
  · rw [if_pos h, if_pos h]
  · rw [if_neg h, if_neg h]; rfl
theorem wl_55_25 {Sh : List mm_C} {scr : Option (Nat × (Nat → Int32))} {rb : Bool} {Cs : Nat → List Value → mm_M → (Int32 → mm_M → Prop) → (mm_M → Prop) → Prop} {K : Nat → mm_L → List Value → mm_M → Prop} {RI : Int32 → mm_M → Prop} {RV : mm_M → Prop} {cut : Nat → Bool} {n : Nat} {loc : mm_L} {st : List Value} {μ : mm_M} : mm_wp Sh scr rb Cs K RI RV lab_55 cut (n + 1) 25 loc st μ = (if cut 25 = true then K 25 loc st μ else mm_wpB Sh scr rb Cs (mm_wp Sh scr rb Cs K RI RV lab_55 cut n) RI RV [(some (.aload_n 0), 0, 0, [], 0), (some (.getfield 10), 7, 0, [], 0), (some (.getfield 204), 5, 4, [], 0), (some (.iload_n 1), 0, 0, [], 0), (some (.iconst 1), 0, 0, [], 1), (some (.bastore), 0, 0, [], 0), (some (.aload_n 0), 0, 0, [], 0), (some (.getfield 40), 7, 4, [], 0), (some (.iload_n 1), 0, 0, [], 0), (some (.invokevirtual 207), 6, 2, [], 0), (some (.ireturn), 0, 0, [], 0)] loc st μ) := by
  unfold mm_wp
  by_cases h : cut 25 = true
  · rw [if_pos h, if_pos h]
  · rw [if_neg h, if_neg h]; rfl
theorem wl_56_0 {Sh : List mm_C} {scr : Option (Nat × (Nat → Int32))} {rb : Bool} {Cs : Nat → List Value → mm_M → (Int32 → mm_M → Prop) → (mm_M → Prop) → Prop} {K : Nat → mm_L → List Value → mm_M → Prop} {RI : Int32 → mm_M → Prop} {RV : mm_M → Prop} {cut : Nat → Bool} {n : Nat} {loc : mm_L} {st : List Value} {μ : mm_M} : mm_wp Sh scr rb Cs K RI RV lab_56 cut (n + 1) 0 loc st μ = (if cut 0 = true then K 0 loc st μ else mm_wpB Sh scr rb Cs (mm_wp Sh scr rb Cs K RI RV lab_56 cut n) RI RV [(some (.aload_n 0), 0, 0, [], 0), (some (.getfield 10), 7, 0, [], 0), (some (.iload_n 1), 0, 0, [], 0), (some (.invokevirtual 79), 26, 2, [], 0), (some (.ifCond .ne 5), 13, 0, [], 0), (some (.iconst (-1)), 0, 0, [], (-1)), (some (.ireturn), 0, 0, [], 0)] loc st μ) := by
  unfold mm_wp
  by_cases h : cut 0 = true
  · rw [if_pos h, if_pos h]
  · rw [if_neg h, if_neg h]; rfl
theorem wl_56_13 {Sh : List mm_C} {scr : Option (Nat × (Nat → Int32))} {rb : Bool} {Cs : Nat → List Value → mm_M → (Int32 → mm_M → Prop) → (mm_M → Prop) → Prop} {K : Nat → mm_L → List Value → mm_M → Prop} {RI : Int32 → mm_M → Prop} {RV : mm_M → Prop} {cut : Nat → Bool} {n : Nat} {loc : mm_L} {st : List Value} {μ : mm_M} : mm_wp Sh scr rb Cs K RI RV lab_56 cut (n + 1) 13 loc st μ = (if cut 13 = true then K 13 loc st μ else mm_wpB Sh scr rb Cs (mm_wp Sh scr rb Cs K RI RV lab_56 cut n) RI RV [(some (.iload_n 2), 0, 0, [], 0), (some (.tableswitch 89 0 4 #[34, 44, 54, 63, 76]), 103, 34, [48, 58, 68, 77, 90], 0)] loc st μ) := by
  unfold mm_wp
  by_cases h : cut 13 = true
  · rw [if_pos h, if_pos h]
  · rw [if_neg h, if_neg h]; rfl
theorem wl_56_48 {Sh : List mm_C} {scr : Option (Nat × (Nat → Int32))} {rb : Bool} {Cs : Nat → List Value → mm_M → (Int32 → mm_M → Prop) → (mm_M → Prop) → Prop} {K : Nat → mm_L → List Value → mm_M → Prop} {RI : Int32 → mm_M → Prop} {RV : mm_M → Prop} {cut : Nat → Bool} {n : Nat} {loc : mm_L} {st : List Value} {μ : mm_M} : mm_wp Sh scr rb Cs K RI RV lab_56 cut (n + 1) 48 loc st μ = (if cut 48 = true then K 48 loc st μ else mm_wpB Sh scr rb Cs (mm_wp Sh scr rb Cs K RI RV lab_56 cut n) RI RV [(some (.aload_n 0), 0, 0, [], 0), (some (.getfield 10), 7, 0, [], 0), (some (.getfield 210), 5, 0, [], 0), (some (.iload_n 1), 0, 0, [], 0), (some (.iaload), 0, 0, [], 0), (some (.ireturn), 0, 0, [], 0)] loc st μ) := by
  unfold mm_wp
  by_cases h : cut 48 = true
  · rw [if_pos h, if_pos h]
  · rw [if_neg h, if_neg h]; rfl
theorem wl_56_58 {Sh : List mm_C} {scr : Option (Nat × (Nat → Int32))} {rb : Bool} {Cs : Nat → List Value → mm_M → (Int32 → mm_M → Prop) → (mm_M → Prop) → Prop} {K : Nat → mm_L → List Value → mm_M → Prop} {RI : Int32 → mm_M → Prop} {RV : mm_M → Prop} {cut : Nat → Bool} {n : Nat} {loc : mm_L} {st : List Value} {μ : mm_M} : mm_wp Sh scr rb Cs K RI RV lab_56 cut (n + 1) 58 loc st μ = (if cut 58 = true then K 58 loc st μ else mm_wpB Sh scr rb Cs (mm_wp Sh scr rb Cs K RI RV lab_56 cut n) RI RV [(some (.aload_n 0), 0, 0, [], 0), (some (.getfield 10), 7, 0, [], 0), (some (.getfield 87), 5, 1, [], 0), (some (.iload_n 1), 0, 0, [], 0), (some (.iaload), 0, 0, [], 0), (some (.ireturn), 0, 0, [], 0)] loc st μ) := by
  unfold mm_wp
  by_cases h : cut 58 = true
  · rw [if_pos h, if_pos h]
  · rw [if_neg h, if_neg h]; rfl
theorem wl_56_68 {Sh : List mm_C} {scr : Option (Nat × (Nat → Int32))} {rb : Bool} {Cs : Nat → List Value → mm_M → (Int32 → mm_M → Prop) → (mm_M → Prop) → Prop} {K : Nat → mm_L → List Value → mm_M → Prop} {RI : Int32 → mm_M → Prop} {RV : mm_M → Prop} {cut : Nat → Bool} {n : Nat} {loc : mm_L} {st : List Value} {μ : mm_M} : mm_wp Sh scr rb Cs K RI RV lab_56 cut (n + 1) 68 loc st μ = (if cut 68 = true then K 68 loc st μ else mm_wpB Sh scr rb Cs (mm_wp Sh scr rb Cs K RI RV lab_56 cut n) RI RV [(some (.aload_n 0), 0, 0, [], 0), (some (.getfield 10), 7, 0, [], 0), (some (.iload_n 1), 0, 0, [], 0), (some (.invokevirtual 213), 28, 2, [], 0), (some (.ireturn), 0, 0, [], 0)] loc st μ) := by
  unfold mm_wp
  by_cases h : cut 68 = true
  · rw [if_pos h, if_pos h]
  · rw [if_neg h, if_neg h]; rfl
theorem wl_56_77 {Sh : List mm_C} {scr : Option (Nat × (Nat → Int32))} {rb : Bool} {Cs : Nat → List Value → mm_M → (Int32 → mm_M → Prop) → (mm_M → Prop) → Prop} {K : Nat → mm_L → List Value → mm_M → Prop} {RI : Int32 → mm_M → Prop} {RV : mm_M → Prop} {cut : Nat → Bool} {n : Nat} {loc : mm_L} {st : List Value} {μ : mm_M} : mm_wp Sh scr rb Cs K RI RV lab_56 cut (n + 1) 77 loc st μ = (if cut 77 = true then K 77 loc st μ else mm_wpB Sh scr rb Cs (mm_wp Sh scr rb Cs K RI RV lab_56 cut n) RI RV [(some (.aload_n 0), 0, 0, [], 0), (some (.getfield 10), 7, 0, [], 0), (some (.getfield 90), 5, 3, [], 0), (some (.iload_n 1), 0, 0, [], 0), (some (.baload), 0, 0, [], 0), (some (.invokestatic 216), 66, 1, [], 0), (some (.ireturn), 0, 0, [], 0)] loc st μ) := by
  unfold mm_wp
  by_cases h : cut 77 = true
  · rw [if_pos h, if_pos h]
  · rw [if_neg h, if_neg h]; rfl
theorem wl_56_90 {Sh : List mm_C} {scr : Option (Nat × (Nat → Int32))} {rb : Bool} {Cs : Nat → List Value → mm_M → (Int32 → mm_M → Prop) → (mm_M → Prop) → Prop} {K : Nat → mm_L → List Value → mm_M → Prop} {RI : Int32 → mm_M → Prop} {RV : mm_M → Prop} {cut : Nat → Bool} {n : Nat} {loc : mm_L} {st : List Value} {μ : mm_M} : mm_wp Sh scr rb Cs K RI RV lab_56 cut (n + 1) 90 loc st μ = (if cut 90 = true then K 90 loc st μ else mm_wpB Sh scr rb Cs (mm_wp Sh scr rb Cs K RI RV lab_56 cut n) RI RV [(some (.aload_n 0), 0, 0, [], 0), (some (.getfield 10), 7, 0, [], 0), (some (.getfield 204), 5, 4, [], 0), (some (.iload_n 1), 0, 0, [], 0), (some (.baload), 0, 0, [], 0), (some (.invokestatic 216), 66, 1, [], 0), (some (.ireturn), 0, 0, [], 0)] loc st μ) := by
  unfold mm_wp
  by_cases h : cut 90 = true
  · rw [if_pos h, if_pos h]
  · rw [if_neg h, if_neg h]; rfl
theorem wl_56_103 {Sh : List mm_C} {scr : Option (Nat × (Nat → Int32))} {rb : Bool} {Cs : Nat → List Value → mm_M → (Int32 → mm_M → Prop) → (mm_M → Prop) → Prop} {K : Nat → mm_L → List Value → mm_M → Prop} {RI : Int32 → mm_M → Prop} {RV : mm_M → Prop} {cut : Nat → Bool} {n : Nat} {loc : mm_L} {st : List Value} {μ : mm_M} : mm_wp Sh scr rb Cs K RI RV lab_56 cut (n + 1) 103 loc st μ = (if cut 103 = true then K 103 loc st μ else mm_wpB Sh scr rb Cs (mm_wp Sh scr rb Cs K RI RV lab_56 cut n) RI RV [(some (.iconst (-1)), 0, 0, [], (-1)), (some (.ireturn), 0, 0, [], 0)] loc st μ) := by
  unfold mm_wp
  by_cases h : cut 103 = true
  · rw [if_pos h, if_pos h]
  · rw [if_neg h, if_neg h]; rfl
theorem wl_57_0 {Sh : List mm_C} {scr : Option (Nat × (Nat → Int32))} {rb : Bool} {Cs : Nat → List Value → mm_M → (Int32 → mm_M → Prop) → (mm_M → Prop) → Prop} {K : Nat → mm_L → List Value → mm_M → Prop} {RI : Int32 → mm_M → Prop} {RV : mm_M → Prop} {cut : Nat → Bool} {n : Nat} {loc : mm_L} {st : List Value} {μ : mm_M} : mm_wp Sh scr rb Cs K RI RV lab_57 cut (n + 1) 0 loc st μ = (if cut 0 = true then K 0 loc st μ else mm_wpB Sh scr rb Cs (mm_wp Sh scr rb Cs K RI RV lab_57 cut n) RI RV [(some (.aload_n 0), 0, 0, [], 0), (some (.getfield 40), 7, 4, [], 0), (some (.iload_n 1), 0, 0, [], 0), (some (.invokevirtual 220), 0, 2, [], 0), (some (.ifCond .ne 5), 13, 0, [], 0), (some (.iconst (-1)), 0, 0, [], (-1)), (some (.ireturn), 0, 0, [], 0)] loc st μ) := by
  unfold mm_wp
  by_cases h : cut 0 = true
  · rw [if_pos h, if_pos h]
  · rw [if_neg h, if_neg h]; rfl
theorem wl_57_13 {Sh : List mm_C} {scr : Option (Nat × (Nat → Int32))} {rb : Bool} {Cs : Nat → List Value → mm_M → (Int32 → mm_M → Prop) → (mm_M → Prop) → Prop} {K : Nat → mm_L → List Value → mm_M → Prop} {RI : Int32 → mm_M → Prop} {RV : mm_M → Prop} {cut : Nat → Bool} {n : Nat} {loc : mm_L} {st : List Value} {μ : mm_M} : mm_wp Sh scr rb Cs K RI RV lab_57 cut (n + 1) 13 loc st μ = (if cut 13 = true then K 13 loc st μ else mm_wpB Sh scr rb Cs (mm_wp Sh scr rb Cs K RI RV lab_57 cut n) RI RV [(some (.iload_n 2), 0, 0, [], 0), (some (.tableswitch 121 0 5 #[38, 48, 58, 68, 81, 91]), 135, 38, [52, 62, 72, 82, 95, 105], 0)] loc st μ) := by
  unfold mm_wp
  by_cases h : cut 13 = true
  · rw [if_pos h, if_pos h]
  · rw [if_neg h, if_neg h]; rfl
theorem wl_57_52 {Sh : List mm_C} {scr : Option (Nat × (Nat → Int32))} {rb : Bool} {Cs : Nat → List Value → mm_M → (Int32 → mm_M → Prop) → (mm_M → Prop) → Prop} {K : Nat → mm_L → List Value → mm_M → Prop} {RI : Int32 → mm_M → Prop} {RV : mm_M → Prop} {cut : Nat → Bool} {n : Nat} {loc : mm_L} {st : List Value} {μ : mm_M} : mm_wp Sh scr rb Cs K RI RV lab_57 cut (n + 1) 52 loc st μ = (if cut 52 = true then K 52 loc st μ else mm_wpB Sh scr rb Cs (mm_wp Sh scr rb Cs K RI RV lab_57 cut n) RI RV [(some (.aload_n 0), 0, 0, [], 0), (some (.getfield 40), 7, 4, [], 0), (some (.getfield 221), 0, 0, [], 0), (some (.iload_n 1), 0, 0, [], 0), (some (.iaload), 0, 0, [], 0), (some (.ireturn), 0, 0, [], 0)] loc st μ) := by
  unfold mm_wp
  by_cases h : cut 52 = true
  · rw [if_pos h, if_pos h]
  · rw [if_neg h, if_neg h]; rfl
theorem wl_57_62 {Sh : List mm_C} {scr : Option (Nat × (Nat → Int32))} {rb : Bool} {Cs : Nat → List Value → mm_M → (Int32 → mm_M → Prop) → (mm_M → Prop) → Prop} {K : Nat → mm_L → List Value → mm_M → Prop} {RI : Int32 → mm_M → Prop} {RV : mm_M → Prop} {cut : Nat → Bool} {n : Nat} {loc : mm_L} {st : List Value} {μ : mm_M} : mm_wp Sh scr rb Cs K RI RV lab_57 cut (n + 1) 62 loc st μ = (if cut 62 = true then K 62 loc st μ else mm_wpB Sh scr rb Cs (mm_wp Sh scr rb Cs K RI RV lab_57 cut n) RI RV [(some (.aload_n 0), 0, 0, [], 0), (some (.getfield 40), 7, 4, [], 0), (some (.getfield 222), 0, 2, [], 0), (some (.iload_n 1), 0, 0, [], 0), (some (.iaload), 0, 0, [], 0), (some (.ireturn), 0, 0, [], 0)] loc st μ) := by
  unfold mm_wp
  by_cases h : cut 62 = true
  · rw [if_pos h, if_pos h]
  · rw [if_neg h, if_neg h]; rfl
theorem wl_57_72 {Sh : List mm_C} {scr : Option (Nat × (Nat → Int32))} {rb : Bool} {Cs : Nat → List Value → mm_M → (Int32 → mm_M → Prop) → (mm_M → Prop) → Prop} {K : Nat → mm_L → List Value → mm_M → Prop} {RI : Int32 → mm_M → Prop} {RV : mm_M → Prop} {cut : Nat → Bool} {n : Nat} {loc : mm_L} {st : List Value} {μ : mm_M} : mm_wp Sh scr rb Cs K RI RV lab_57 cut (n + 1) 72 loc st μ = (if cut 72 = true then K 72 loc st μ else mm_wpB Sh scr rb Cs (mm_wp Sh scr rb Cs K RI RV lab_57 cut n) RI RV [(some (.aload_n 0), 0, 0, [], 0), (some (.getfield 40), 7, 4, [], 0), (some (.getfield 223), 0, 3, [], 0), (some (.iload_n 1), 0, 0, [], 0), (some (.iaload), 0, 0, [], 0), (some (.ireturn), 0, 0, [], 0)] loc st μ) := by
  unfold mm_wp
  by_cases h : cut 72 = true
  · rw [if_pos h, if_pos h]
  · rw [if_neg h, if_neg h]; rfl
theorem wl_57_82 {Sh : List mm_C} {scr : Option (Nat × (Nat → Int32))} {rb : Bool} {Cs : Nat → List Value → mm_M → (Int32 → mm_M → Prop) → (mm_M → Prop) → Prop} {K : Nat → mm_L → List Value → mm_M → Prop} {RI : Int32 → mm_M → Prop} {RV : mm_M → Prop} {cut : Nat → Bool} {n : Nat} {loc : mm_L} {st : List Value} {μ : mm_M} : mm_wp Sh scr rb Cs K RI RV lab_57 cut (n + 1) 82 loc st μ = (if cut 82 = true then K 82 loc st μ else mm_wpB Sh scr rb Cs (mm_wp Sh scr rb Cs K RI RV lab_57 cut n) RI RV [(some (.aload_n 0), 0, 0, [], 0), (some (.getfield 40), 7, 4, [], 0), (some (.getfield 226), 0, 5, [], 0), (some (.iload_n 1), 0, 0, [], 0), (some (.baload), 0, 0, [], 0), (some (.invokestatic 216), 66, 1, [], 0), (some (.ireturn), 0, 0, [], 0)] loc st μ) := by
  unfold mm_wp
  by_cases h : cut 82 = true
  · rw [if_pos h, if_pos h]
  · rw [if_neg h, if_neg h]; rfl
theorem wl_57_95 {Sh : List mm_C} {scr : Option (Nat × (Nat → Int32))} {rb : Bool} {Cs : Nat → List Value → mm_M → (Int32 → mm_M → Prop) → (mm_M → Prop) → Prop} {K : Nat → mm_L → List Value → mm_M → Prop} {RI : Int32 → mm_M → Prop} {RV : mm_M → Prop} {cut : Nat → Bool} {n : Nat} {loc : mm_L} {st : List Value} {μ : mm_M} : mm_wp Sh scr rb Cs K RI RV lab_57 cut (n + 1) 95 loc st μ = (if cut 95 = true then K 95 loc st μ else mm_wpB Sh scr rb Cs (mm_wp Sh scr rb Cs K RI RV lab_57 cut n) RI RV [(some (.aload_n 0), 0, 0, [], 0), (some (.getfield 40), 7, 4, [], 0), (some (.getfield 229), 0, 1, [], 0), (some (.iload_n 1), 0, 0, [], 0), (some (.iaload), 0, 0, [], 0), (some (.ireturn), 0, 0, [], 0)] loc st μ) := by
  unfold mm_wp
  by_cases h : cut 95 = true
  · rw [if_pos h, if_pos h]
  · rw [if_neg h, if_neg h]; rfl
theorem wl_57_105 {Sh : List mm_C} {scr : Option (Nat × (Nat → Int32))} {rb : Bool} {Cs : Nat → List Value → mm_M → (Int32 → mm_M → Prop) → (mm_M → Prop) → Prop} {K : Nat → mm_L → List Value → mm_M → Prop} {RI : Int32 → mm_M → Prop} {RV : mm_M → Prop} {cut : Nat → Bool} {n : Nat} {loc : mm_L} {st : List Value} {μ : mm_M} : mm_wp Sh scr rb Cs K RI RV lab_57 cut (n + 1) 105 loc st μ = (if cut 105 = true then K 105 loc st μ else mm_wpB Sh scr rb Cs (mm_wp Sh scr rb Cs K RI RV lab_57 cut n) RI RV [(some (.aload_n 0), 0, 0, [], 0), (some (.getfield 40), 7, 4, [], 0), (some (.iload_n 1), 0, 0, [], 0), (some (.aload_n 0), 0, 0, [], 0), (some (.getfield 19), 7, 1, [], 0), (some (.getfield 177), 4, 5, [], 0), (some (.aload_n 0), 0, 0, [], 0), (some (.getfield 40), 7, 4, [], 0), (some (.getfield 221), 0, 0, [], 0), (some (.iload_n 1), 0, 0, [], 0), (some (.iaload), 0, 0, [], 0), (some (.iaload), 0, 0, [], 0), (some (.aload_n 0), 0, 0, [], 0), (some (.getfield 66), 7, 8, [], 0), (some (.invokevirtual 232), 4, 4, [], 0), (some (.ireturn), 0, 0, [], 0)] loc st μ) := by
  unfold mm_wp
  by_cases h : cut 105 = true
  · rw [if_pos h, if_pos h]
  · rw [if_neg h, if_neg h]; rfl
theorem wl_57_135 {Sh : List mm_C} {scr : Option (Nat × (Nat → Int32))} {rb : Bool} {Cs : Nat → List Value → mm_M → (Int32 → mm_M → Prop) → (mm_M → Prop) → Prop} {K : Nat → mm_L → List Value → mm_M → Prop} {RI : Int32 → mm_M → Prop} {RV : mm_M → Prop} {cut : Nat → Bool} {n : Nat} {loc : mm_L} {st : List Value} {μ : mm_M} : mm_wp Sh scr rb Cs K RI RV lab_57 cut (n + 1) 135 loc st μ = (if cut 135 = true then K 135 loc st μ else mm_wpB Sh scr rb Cs (mm_wp Sh scr rb Cs K RI RV lab_57 cut n) RI RV [(some (.iconst (-1)), 0, 0, [], (-1)), (some (.ireturn), 0, 0, [], 0)] loc st μ) := by
  unfold mm_wp
  by_cases h : cut 135 = true
  · rw [if_pos h, if_pos h]
  · rw [if_neg h, if_neg h]; rfl
theorem wl_58_0 {Sh : List mm_C} {scr : Option (Nat × (Nat → Int32))} {rb : Bool} {Cs : Nat → List Value → mm_M → (Int32 → mm_M → Prop) → (mm_M → Prop) → Prop} {K : Nat → mm_L → List Value → mm_M → Prop} {RI : Int32 → mm_M → Prop} {RV : mm_M → Prop} {cut : Nat → Bool} {n : Nat} {loc : mm_L} {st : List Value} {μ : mm_M} : mm_wp Sh scr rb Cs K RI RV lab_58 cut (n + 1) 0 loc st μ = (if cut 0 = true then K 0 loc st μ else mm_wpB Sh scr rb Cs (mm_wp Sh scr rb Cs K RI RV lab_58 cut n) RI RV [(some (.aload_n 0), 0, 0, [], 0), (some (.getfield 40), 7, 4, [], 0), (some (.iload_n 1), 0, 0, [], 0), (some (.invokevirtual 220), 0, 2, [], 0), (some (.ifCond .eq 14), 22, 0, [], 0), (some (.aload_n 0), 0, 0, [], 0), (some (.getfield 10), 7, 0, [], 0), (some (.iload_n 2), 0, 0, [], 0), (some (.invokevirtual 79), 26, 2, [], 0), (some (.ifCond .ne 5), 24, 0, [], 0), (none, 22, 0, [], 0)] loc st μ) := by
  unfold mm_wp
  by_cases h : cut 0 = true
  · rw [if_pos h, if_pos h]
  · rw [if_neg h, if_neg h]; rfl
theorem wl_58_22 {Sh : List mm_C} {scr : Option (Nat × (Nat → Int32))} {rb : Bool} {Cs : Nat → List Value → mm_M → (Int32 → mm_M → Prop) → (mm_M → Prop) → Prop} {K : Nat → mm_L → List Value → mm_M → Prop} {RI : Int32 → mm_M → Prop} {RV : mm_M → Prop} {cut : Nat → Bool} {n : Nat} {loc : mm_L} {st : List Value} {μ : mm_M} : mm_wp Sh scr rb Cs K RI RV lab_58 cut (n + 1) 22 loc st μ = (if cut 22 = true then K 22 loc st μ else mm_wpB Sh scr rb Cs (mm_wp Sh scr rb Cs K RI RV lab_58 cut n) RI RV [(some (.iconst (-1)), 0, 0, [], (-1)), (some (.ireturn), 0, 0, [], 0)] loc st μ) := by
  unfold mm_wp
  by_cases h : cut 22 = true
  · rw [if_pos h, if_pos h]
  · rw [if_neg h, if_neg h]; rfl
theorem wl_58_24 {Sh : List mm_C} {scr : Option (Nat × (Nat → Int32))} {rb : Bool} {Cs : Nat → List Value → mm_M → (Int32 → mm_M → Prop) → (mm_M → Prop) → Prop} {K : Nat → mm_L → List Value → mm_M → Prop} {RI : Int32 → mm_M → Prop} {RV : mm_M → Prop} {cut : Nat → Bool} {n : Nat} {loc : mm_L} {st : List Value} {μ : mm_M} : mm_wp Sh scr rb Cs K RI RV lab_58 cut (n + 1) 24 loc st μ = (if cut 24 = true then K 24 loc st μ else mm_wpB Sh scr rb Cs (mm_wp Sh scr rb Cs K RI RV lab_58 cut n) RI RV [(some (.aload_n 0), 0, 0, [], 0), (some (.getfield 40), 7, 4, [], 0), (some (.getfield 235), 0, 6, [], 0), (some (.iload_n 1), 0, 0, [], 0), (some (.bipush 60), 0, 0, [], 60), (some (.imul), 0, 0, [], 0), (some (.iload_n 2), 0, 0, [], 0), (some (.iadd), 0, 0, [], 0), (some (.iaload), 0, 0, [], 0), (some (.ireturn), 0, 0, [], 0)] loc st μ) := by
  unfold mm_wp
  by_cases h : cut 24 = true
  · rw [if_pos h, if_pos h]
  · rw [if_neg h, if_neg h]; rfl
theorem wl_59_0 {Sh : List mm_C} {scr : Option (Nat × (Nat → Int32))} {rb : Bool} {Cs : Nat → List Value → mm_M → (Int32 → mm_M → Prop) → (mm_M → Prop) → Prop} {K : Nat → mm_L → List Value → mm_M → Prop} {RI : Int32 → mm_M → Prop} {RV : mm_M → Prop} {cut : Nat → Bool} {n : Nat} {loc : mm_L} {st : List Value} {μ : mm_M} : mm_wp Sh scr rb Cs K RI RV lab_59 cut (n + 1) 0 loc st μ = (if cut 0 = true then K 0 loc st μ else mm_wpB Sh scr rb Cs (mm_wp Sh scr rb Cs K RI RV lab_59 cut n) RI RV [(some (.iload_n 1), 0, 0, [], 0), (some (.iconst 0), 0, 0, [], 0), (some (.iconst 2), 0, 0, [], 2), (some (.invokestatic 62), 65, 3, [], 0), (some (.ifCond .ne 5), 11, 0, [], 0), (some (.iconst (-1)), 0, 0, [], (-1)), (some (.ireturn), 0, 0, [], 0)] loc st μ) := by
  unfold mm_wp
  by_cases h : cut 0 = true
  · rw [if_pos h, if_pos h]
  · rw [if_neg h, if_neg h]; rfl
theorem wl_59_11 {Sh : List mm_C} {scr : Option (Nat × (Nat → Int32))} {rb : Bool} {Cs : Nat → List Value → mm_M → (Int32 → mm_M → Prop) → (mm_M → Prop) → Prop} {K : Nat → mm_L → List Value → mm_M → Prop} {RI : Int32 → mm_M → Prop} {RV : mm_M → Prop} {cut : Nat → Bool} {n : Nat} {loc : mm_L} {st : List Value} {μ : mm_M} : mm_wp Sh scr rb Cs K RI RV lab_59 cut (n + 1) 11 loc st μ = (if cut 11 = true then K 11 loc st μ else mm_wpB Sh scr rb Cs (mm_wp Sh scr rb Cs K RI RV lab_59 cut n) RI RV [(some (.iload_n 2), 0, 0, [], 0), (some (.tableswitch 58 0 2 #[28, 38, 48]), 70, 28, [40, 50, 60], 0)] loc st μ) := by
  unfold mm_wp
  by_cases h : cut 11 = true
  · rw [if_pos h, if_pos h]
  · rw [if_neg h, if_neg h]; rfl
theorem wl_59_40 {Sh : List mm_C} {scr : Option (Nat × (Nat → Int32))} {rb : Bool} {Cs : Nat → List Value → mm_M → (Int32 → mm_M → Prop) → (mm_M → Prop) → Prop} {K : Nat → mm_L → List Value → mm_M → Prop} {RI : Int32 → mm_M → Prop} {RV : mm_M → Prop} {cut : Nat → Bool} {n : Nat} {loc : mm_L} {st : List Value} {μ : mm_M} : mm_wp Sh scr rb Cs K RI RV lab_59 cut (n + 1) 40 loc st μ = (if cut 40 = true then K 40 loc st μ else mm_wpB Sh scr rb Cs (mm_wp Sh scr rb Cs K RI RV lab_59 cut n) RI RV [(some (.aload_n 0), 0, 0, [], 0), (some (.getfield 33), 7, 3, [], 0), (some (.getfield 236), 2, 0, [], 0), (some (.iload_n 1), 0, 0, [], 0), (some (.iaload), 0, 0, [], 0), (some (.ireturn), 0, 0, [], 0)] loc st μ) := by
  unfold mm_wp
  by_cases h : cut 40 = true
  · rw [if_pos h, if_pos h]
  · rw [if_neg h, if_neg h]; rfl
theorem wl_59_50 {Sh : List mm_C} {scr : Option (Nat × (Nat → Int32))} {rb : Bool} {Cs : Nat → List Value → mm_M → (Int32 → mm_M → Prop) → (mm_M → Prop) → Prop} {K : Nat → mm_L → List Value → mm_M → Prop} {RI : Int32 → mm_M → Prop} {RV : mm_M → Prop} {cut : Nat → Bool} {n : Nat} {loc : mm_L} {st : List Value} {μ : mm_M} : mm_wp Sh scr rb Cs K RI RV lab_59 cut (n + 1) 50 loc st μ = (if cut 50 = true then K 50 loc st μ else mm_wpB Sh scr rb Cs (mm_wp Sh scr rb Cs K RI RV lab_59 cut n) RI RV [(some (.aload_n 0), 0, 0, [], 0), (some (.getfield 33), 7, 3, [], 0), (some (.getfield 237), 2, 1, [], 0), (some (.iload_n 1), 0, 0, [], 0), (some (.iaload), 0, 0, [], 0), (some (.ireturn), 0, 0, [], 0)] loc st μ) := by
  unfold mm_wp
  by_cases h : cut 50 = true
  · rw [if_pos h, if_pos h]
  · rw [if_neg h, if_neg h]; rfl
theorem wl_59_60 {Sh : List mm_C} {scr : Option (Nat × (Nat → Int32))} {rb : Bool} {Cs : Nat → List Value → mm_M → (Int32 → mm_M → Prop) → (mm_M → Prop) → Prop} {K : Nat → mm_L → List Value → mm_M → Prop} {RI : Int32 → mm_M → Prop} {RV : mm_M → Prop} {cut : Nat → Bool} {n : Nat} {loc : mm_L} {st : List Value} {μ : mm_M} : mm_wp Sh scr rb Cs K RI RV lab_59 cut (n + 1) 60 loc st μ = (if cut 60 = true then K 60 loc st μ else mm_wpB Sh scr rb Cs (mm_wp Sh scr rb Cs K RI RV lab_59 cut n) RI RV [(some (.aload_n 0), 0, 0, [], 0), (some (.getfield 33), 7, 3, [], 0), (some (.getfield 238), 2, 2, [], 0), (some (.iload_n 1), 0, 0, [], 0), (some (.iaload), 0, 0, [], 0), (some (.ireturn), 0, 0, [], 0)] loc st μ) := by
  unfold mm_wp
  by_cases h : cut 60 = true
  · rw [if_pos h, if_pos h]
  · rw [if_neg h, if_neg h]; rfl
theorem wl_59_70 {Sh : List mm_C} {scr : Option (Nat × (Nat → Int32))} {rb : Bool} {Cs : Nat → List Value → mm_M → (Int32 → mm_M → Prop) → (mm_M → Prop) → Prop} {K : Nat → mm_L → List Value → mm_M → Prop} {RI : Int32 → mm_M → Prop} {RV : mm_M → Prop} {cut : Nat → Bool} {n : Nat} {loc : mm_L} {st : List Value} {μ : mm_M} : mm_wp Sh scr rb Cs K RI RV lab_59 cut (n + 1) 70 loc st μ = (if cut 70 = true then K 70 loc st μ else mm_wpB Sh scr rb Cs (mm_wp Sh scr rb Cs K RI RV lab_59 cut n) RI RV [(some (.iconst (-1)), 0, 0, [], (-1)), (some (.ireturn), 0, 0, [], 0)] loc st μ) := by
  unfold mm_wp
  by_cases h : cut 70 = true
  · rw [if_pos h, if_pos h]
  · rw [if_neg h, if_neg h]; rfl
theorem wl_60_0 {Sh : List mm_C} {scr : Option (Nat × (Nat → Int32))} {rb : Bool} {Cs : Nat → List Value → mm_M → (Int32 → mm_M → Prop) → (mm_M → Prop) → Prop} {K : Nat → mm_L → List Value → mm_M → Prop} {RI : Int32 → mm_M → Prop} {RV : mm_M → Prop} {cut : Nat → Bool} {n : Nat} {loc : mm_L} {st : List Value} {μ : mm_M} : mm_wp Sh scr rb Cs K RI RV lab_60 cut (n + 1) 0 loc st μ = (if cut 0 = true then K 0 loc st μ else mm_wpB Sh scr rb Cs (mm_wp Sh scr rb Cs K RI RV lab_60 cut n) RI RV [(some (.aload_n 0), 0, 0, [], 0), (some (.getfield 47), 7, 5, [], 0), (some (.iload_n 1), 0, 0, [], 0), (some (.invokevirtual 193), 7, 2, [], 0), (some (.ifCond .ne 5), 13, 0, [], 0), (some (.iconst (-1)), 0, 0, [], (-1)), (some (.ireturn), 0, 0, [], 0)] loc st μ) := by
  unfold mm_wp
  by_cases h : cut 0 = true
  · rw [if_pos h, if_pos h]
  · rw [if_neg h, if_neg h]; rfl
theorem wl_60_13 {Sh : List mm_C} {scr : Option (Nat × (Nat → Int32))} {rb : Bool} {Cs : Nat → List Value → mm_M → (Int32 → mm_M → Prop) → (mm_M → Prop) → Prop} {K : Nat → mm_L → List Value → mm_M → Prop} {RI : Int32 → mm_M → Prop} {RV : mm_M → Prop} {cut : Nat → Bool} {n : Nat} {loc : mm_L} {st : List Value} {μ : mm_M} : mm_wp Sh scr rb Cs K RI RV lab_60 cut (n + 1) 13 loc st μ = (if cut 13 = true then K 13 loc st μ else mm_wpB Sh scr rb Cs (mm_wp Sh scr rb Cs K RI RV lab_60 cut n) RI RV [(some (.iload_n 2), 0, 0, [], 0), (some (.tableswitch 101 0 5 #[38, 48, 58, 68, 78, 88]), 115, 38, [52, 62, 72, 82, 92, 102], 0)] loc st μ) := by
  unfold mm_wp
  by_cases h : cut 13 = true
  · rw [if_pos h, if_pos h]
  · rw [if_neg h, if_neg h]; rfl
theorem wl_60_52 {Sh : List mm_C} {scr : Option (Nat × (Nat → Int32))} {rb : Bool} {Cs : Nat → List Value → mm_M → (Int32 → mm_M → Prop) → (mm_M → Prop) → Prop} {K : Nat → mm_L → List Value → mm_M → Prop} {RI : Int32 → mm_M → Prop} {RV : mm_M → Prop} {cut : Nat → Bool} {n : Nat} {loc : mm_L} {st : List Value} {μ : mm_M} : mm_wp Sh scr rb Cs K RI RV lab_60 cut (n + 1) 52 loc st μ = (if cut 52 = true then K 52 loc st μ else mm_wpB Sh scr rb Cs (mm_wp Sh scr rb Cs K RI RV lab_60 cut n) RI RV [(some (.aload_n 0), 0, 0, [], 0), (some (.getfield 47), 7, 5, [], 0), (some (.getfield 239), 1, 0, [], 0), (some (.iload_n 1), 0, 0, [], 0), (some (.iaload), 0, 0, [], 0), (some (.ireturn), 0, 0, [], 0)] loc st μ) := by
  unfold mm_wp
  by_cases h : cut 52 = true
  · rw [if_pos h, if_pos h]
  · rw [if_neg h, if_neg h]; rfl
theorem wl_60_62 {Sh : List mm_C} {scr : Option (Nat × (Nat → Int32))} {rb : Bool} {Cs : Nat → List Value → mm_M → (Int32 → mm_M → Prop) → (mm_M → Prop) → Prop} {K : Nat → mm_L → List Value → mm_M → Prop} {RI : Int32 → mm_M → Prop} {RV : mm_M → Prop} {cut : Nat → Bool} {n : Nat} {loc : mm_L} {st : List Value} {μ : mm_M} : mm_wp Sh scr rb Cs K RI RV lab_60 cut (n + 1) 62 loc st μ = (if cut 62 = true then K 62 loc st μ else mm_wpB Sh scr rb Cs (mm_wp Sh scr rb Cs K RI RV lab_60 cut n) RI RV [(some (.aload_n 0), 0, 0, [], 0), (some (.getfield 47), 7, 5, [], 0), (some (.getfield 197), 1, 1, [], 0), (some (.iload_n 1), 0, 0, [], 0), (some (.iaload), 0, 0, [], 0), (some (.ireturn), 0, 0, [], 0)] loc st μ) := by
  unfold mm_wp
  by_cases h : cut 62 = true
  · rw [if_pos h, if_pos h]
  · rw [if_neg h, if_neg h]; rfl
theorem wl_60_72 {Sh : List mm_C} {scr : Option (Nat × (Nat → Int32))} {rb : Bool} {Cs : Nat → List Value → mm_M → (Int32 → mm_M → Prop) → (mm_M → Prop) → Prop} {K : Nat → mm_L → List Value → mm_M → Prop} {RI : Int32 → mm_M → Prop} {RV : mm_M → Prop} {cut : Nat → Bool} {n : Nat} {loc : mm_L} {st : List Value} {μ : mm_M} : mm_wp Sh scr rb Cs K RI RV lab_60 cut (n + 1) 72 loc st μ = (if cut 72 = true then K 72 loc st μ else mm_wpB Sh scr rb Cs (mm_wp Sh scr rb Cs K RI RV lab_60 cut n) RI RV [(some (.aload_n 0), 0, 0, [], 0), (some (.getfield 47), 7, 5, [], 0), (some (.getfield 242), 1, 2, [], 0), (some (.iload_n 1), 0, 0, [], 0), (some (.iaload), 0, 0, [], 0), (some (.ireturn), 0, 0, [], 0)] loc st μ) := by
  unfold mm_wp
  by_cases h : cut 72 = true
  · rw [if_pos h, if_pos h]
  · rw [if_neg h, if_neg h]; rfl
theorem wl_60_82 {Sh : List mm_C} {scr : Option (Nat × (Nat → Int32))} {rb : Bool} {Cs : Nat → List Value → mm_M → (Int32 → mm_M → Prop) → (mm_M → Prop) → Prop} {K : Nat → mm_L → List Value → mm_M → Prop} {RI : Int32 → mm_M → Prop} {RV : mm_M → Prop} {cut : Nat → Bool} {n : Nat} {loc : mm_L} {st : List Value} {μ : mm_M} : mm_wp Sh scr rb Cs K RI RV lab_60 cut (n + 1) 82 loc st μ = (if cut 82 = true then K 82 loc st μ else mm_wpB Sh scr rb Cs (mm_wp Sh scr rb Cs K RI RV lab_60 cut n) RI RV [(some (.aload_n 0), 0, 0, [], 0), (some (.getfield 47), 7, 5, [], 0), (some (.getfield 245), 1, 3, [], 0), (some (.iload_n 1), 0, 0, [], 0), (some (.iaload), 0, 0, [], 0), (some (.ireturn), 0, 0, [], 0)] loc st μ) := by
  unfold mm_wp
  by_cases h : cut 82 = true
  · rw [if_pos h, if_pos h]
  · rw [if_neg h, if_neg h]; rfl
theorem wl_60_92 {Sh : List mm_C} {scr : Option (Nat × (Nat → Int32))} {rb : Bool} {Cs : Nat → List Value → mm_M → (Int32 → mm_M → Prop) → (mm_M → Prop) → Prop} {K : Nat → mm_L → List Value → mm_M → Prop} {RI : Int32 → mm_M → Prop} {RV : mm_M → Prop} {cut : Nat → Bool} {n : Nat} {loc : mm_L} {st : List Value} {μ : mm_M} : mm_wp Sh scr rb Cs K RI RV lab_60 cut (n + 1) 92 loc st μ = (if cut 92 = true then K 92 loc st μ else mm_wpB Sh scr rb Cs (mm_wp Sh scr rb Cs K RI RV lab_60 cut n) RI RV [(some (.aload_n 0), 0, 0, [], 0), (some (.getfield 47), 7, 5, [], 0), (some (.getfield 248), 1, 4, [], 0), (some (.iload_n 1), 0, 0, [], 0), (some (.iaload), 0, 0, [], 0), (some (.ireturn), 0, 0, [], 0)] loc st μ) := by
  unfold mm_wp
  by_cases h : cut 92 = true
  · rw [if_pos h, if_pos h]
  · rw [if_neg h, if_neg h]; rfl
theorem wl_60_102 {Sh : List mm_C} {scr : Option (Nat × (Nat → Int32))} {rb : Bool} {Cs : Nat → List Value → mm_M → (Int32 → mm_M → Prop) → (mm_M → Prop) → Prop} {K : Nat → mm_L → List Value → mm_M → Prop} {RI : Int32 → mm_M → Prop} {RV : mm_M → Prop} {cut : Nat → Bool} {n : Nat} {loc : mm_L} {st : List Value} {μ : mm_M} : mm_wp Sh scr rb Cs K RI RV lab_60 cut (n + 1) 102 loc st μ = (if cut 102 = true then K 102 loc st μ else mm_wpB Sh scr rb Cs (mm_wp Sh scr rb Cs K RI RV lab_60 cut n) RI RV [(some (.aload_n 0), 0, 0, [], 0), (some (.getfield 47), 7, 5, [], 0), (some (.getfield 194), 1, 5, [], 0), (some (.iload_n 1), 0, 0, [], 0), (some (.baload), 0, 0, [], 0), (some (.invokestatic 216), 66, 1, [], 0), (some (.ireturn), 0, 0, [], 0)] loc st μ) := by
  unfold mm_wp
  by_cases h : cut 102 = true
  · rw [if_pos h, if_pos h]
  · rw [if_neg h, if_neg h]; rfl
theorem wl_60_115 {Sh : List mm_C} {scr : Option (Nat × (Nat → Int32))} {rb : Bool} {Cs : Nat → List Value → mm_M → (Int32 → mm_M → Prop) → (mm_M → Prop) → Prop} {K : Nat → mm_L → List Value → mm_M → Prop} {RI : Int32 → mm_M → Prop} {RV : mm_M → Prop} {cut : Nat → Bool} {n : Nat} {loc : mm_L} {st : List Value} {μ : mm_M} : mm_wp Sh scr rb Cs K RI RV lab_60 cut (n + 1) 115 loc st μ = (if cut 115 = true then K 115 loc st μ else mm_wpB Sh scr rb Cs (mm_wp Sh scr rb Cs K RI RV lab_60 cut n) RI RV [(some (.iconst (-1)), 0, 0, [], (-1)), (some (.ireturn), 0, 0, [], 0)] loc st μ) := by
  unfold mm_wp
  by_cases h : cut 115 = true
  · rw [if_pos h, if_pos h]
  · rw [if_neg h, if_neg h]; rfl
theorem wl_61_0 {Sh : List mm_C} {scr : Option (Nat × (Nat → Int32))} {rb : Bool} {Cs : Nat → List Value → mm_M → (Int32 → mm_M → Prop) → (mm_M → Prop) → Prop} {K : Nat → mm_L → List Value → mm_M → Prop} {RI : Int32 → mm_M → Prop} {RV : mm_M → Prop} {cut : Nat → Bool} {n : Nat} {loc : mm_L} {st : List Value} {μ : mm_M} : mm_wp Sh scr rb Cs K RI RV lab_61 cut (n + 1) 0 loc st μ = (if cut 0 = true then K 0 loc st μ else mm_wpB Sh scr rb Cs (mm_wp Sh scr rb Cs K RI RV lab_61 cut n) RI RV [(some (.iload_n 1), 0, 0, [], 0), (some (.tableswitch 167 0 13 #[71, 76, 84, 92, 100, 108, 113, 121, 133, 138, 143, 148, 153, 160]), 168, 71, [72, 77, 85, 93, 101, 109, 114, 122, 134, 139, 144, 149, 154, 161], 0)] loc st μ) := by
  unfold mm_wp
  by_cases h : cut 0 = true
  · rw [if_pos h, if_pos h]
  · rw [if_neg h, if_neg h]; rfl
theorem wl_61_72 {Sh : List mm_C} {scr : Option (Nat × (Nat → Int32))} {rb : Bool} {Cs : Nat → List Value → mm_M → (Int32 → mm_M → Prop) → (mm_M → Prop) → Prop} {K : Nat → mm_L → List Value → mm_M → Prop} {RI : Int32 → mm_M → Prop} {RV : mm_M → Prop} {cut : Nat → Bool} {n : Nat} {loc : mm_L} {st : List Value} {μ : mm_M} : mm_wp Sh scr rb Cs K RI RV lab_61 cut (n + 1) 72 loc st μ = (if cut 72 = true then K 72 loc st μ else mm_wpB Sh scr rb Cs (mm_wp Sh scr rb Cs K RI RV lab_61 cut n) RI RV [(some (.aload_n 0), 0, 0, [], 0), (some (.getfield 66), 7, 8, [], 0), (some (.ireturn), 0, 0, [], 0)] loc st μ) := by
  unfold mm_wp
  by_cases h : cut 72 = true
  · rw [if_pos h, if_pos h]
  · rw [if_neg h, if_neg h]; rfl
theorem wl_61_77 {Sh : List mm_C} {scr : Option (Nat × (Nat → Int32))} {rb : Bool} {Cs : Nat → List Value → mm_M → (Int32 → mm_M → Prop) → (mm_M → Prop) → Prop} {K : Nat → mm_L → List Value → mm_M → Prop} {RI : Int32 → mm_M → Prop} {RV : mm_M → Prop} {cut : Nat → Bool} {n : Nat} {loc : mm_L} {st : List Value} {μ : mm_M} : mm_wp Sh scr rb Cs K RI RV lab_61 cut (n + 1) 77 loc st μ = (if cut 77 = true then K 77 loc st μ else mm_wpB Sh scr rb Cs (mm_wp Sh scr rb Cs K RI RV lab_61 cut n) RI RV [(some (.aload_n 0), 0, 0, [], 0), (some (.getfield 10), 7, 0, [], 0), (some (.getfield 251), 5, 6, [], 0), (some (.ireturn), 0, 0, [], 0)] loc st μ) := by
  unfold mm_wp
  by_cases h : cut 77 = true
  · rw [if_pos h, if_pos h]
  · rw [if_neg h, if_neg h]; rfl
theorem wl_61_85 {Sh : List mm_C} {scr : Option (Nat × (Nat → Int32))} {rb : Bool} {Cs : Nat → List Value → mm_M → (Int32 → mm_M → Prop) → (mm_M → Prop) → Prop} {K : Nat → mm_L → List Value → mm_M → Prop} {RI : Int32 → mm_M → Prop} {RV : mm_M → Prop} {cut : Nat → Bool} {n : Nat} {loc : mm_L} {st : List Value} {μ : mm_M} : mm_wp Sh scr rb Cs K RI RV lab_61 cut (n + 1) 85 loc st μ = (if cut 85 = true then K 85 loc st μ else mm_wpB Sh scr rb Cs (mm_wp Sh scr rb Cs K RI RV lab_61 cut n) RI RV [(some (.aload_n 0), 0, 0, [], 0), (some (.getfield 10), 7, 0, [], 0), (some (.invokevirtual 252), 30, 1, [], 0), (some (.ireturn), 0, 0, [], 0)] loc st μ) := by
  unfold mm_wp
  by_cases h : cut 85 = true
  · rw [if_pos h, if_pos h]
  · rw [if_neg h, if_neg h]; rfl
theorem wl_61_93 {Sh : List mm_C} {scr : Option (Nat × (Nat → Int32))} {rb : Bool} {Cs : Nat → List Value → mm_M → (Int32 → mm_M → Prop) → (mm_M → Prop) → Prop} {K : Nat → mm_L → List Value → mm_M → Prop} {RI : Int32 → mm_M → Prop} {RV : mm_M → Prop} {cut : Nat → Bool} {n : Nat} {loc : mm_L} {st : List Value} {μ : mm_M} : mm_wp Sh scr rb Cs K RI RV lab_61 cut (n + 1) 93 loc st μ = (if cut 93 = true then K 93 loc st μ else mm_wpB Sh scr rb Cs (mm_wp Sh scr rb Cs K RI RV lab_61 cut n) RI RV [(some (.aload_n 0), 0, 0, [], 0), (some (.getfield 33), 7, 3, [], 0), (some (.invokevirtual 254), 14, 1, [], 0), (some (.ireturn), 0, 0, [], 0)] loc st μ) := by
  unfold mm_wp
  by_cases h : cut 93 = true
  · rw [if_pos h, if_pos h]
  · rw [if_neg h, if_neg h]; rfl
theorem wl_61_101 {Sh : List mm_C} {scr : Option (Nat × (Nat → Int32))} {rb : Bool} {Cs : Nat → List Value → mm_M → (Int32 → mm_M → Prop) → (mm_M → Prop) → Prop} {K : Nat → mm_L → List Value → mm_M → Prop} {RI : Int32 → mm_M → Prop} {RV : mm_M → Prop} {cut : Nat → Bool} {n : Nat} {loc : mm_L} {st : List Value} {μ : mm_M} : mm_wp Sh scr rb Cs K RI RV lab_61 cut (n + 1) 101 loc st μ = (if cut 101 = true then K 101 loc st μ else mm_wpB Sh scr rb Cs (mm_wp Sh scr rb Cs K RI RV lab_61 cut n) RI RV [(some (.aload_n 0), 0, 0, [], 0), (some (.getfield 40), 7, 4, [], 0), (some (.getfield 257), 0, 8, [], 0), (some (.ireturn), 0, 0, [], 0)] loc st μ) := by
  unfold mm_wp
  by_cases h : cut 101 = true
  · rw [if_pos h, if_pos h]
  · rw [if_neg h, if_neg h]; rfl
theorem wl_61_109 {Sh : List mm_C} {scr : Option (Nat × (Nat → Int32))} {rb : Bool} {Cs : Nat → List Value → mm_M → (Int32 → mm_M → Prop) → (mm_M → Prop) → Prop} {K : Nat → mm_L → List Value → mm_M → Prop} {RI : Int32 → mm_M → Prop} {RV : mm_M → Prop} {cut : Nat → Bool} {n : Nat} {loc : mm_L} {st : List Value} {μ : mm_M} : mm_wp Sh scr rb Cs K RI RV lab_61 cut (n + 1) 109 loc st μ = (if cut 109 = true then K 109 loc st μ else mm_wpB Sh scr rb Cs (mm_wp Sh scr rb Cs K RI RV lab_61 cut n) RI RV [(some (.aload_n 0), 0, 0, [], 0), (some (.getfield 153), 7, 11, [], 0), (some (.ireturn), 0, 0, [], 0)] loc st μ) := by
  unfold mm_wp
  by_cases h : cut 109 = true
  · rw [if_pos h, if_pos h]
  · rw [if_neg h, if_neg h]; rfl
theorem wl_61_114 {Sh : List mm_C} {scr : Option (Nat × (Nat → Int32))} {rb : Bool} {Cs : Nat → List Value → mm_M → (Int32 → mm_M → Prop) → (mm_M → Prop) → Prop} {K : Nat → mm_L → List Value → mm_M → Prop} {RI : Int32 → mm_M → Prop} {RV : mm_M → Prop} {cut : Nat → Bool} {n : Nat} {loc : mm_L} {st : List Value} {μ : mm_M} : mm_wp Sh scr rb Cs K RI RV lab_61 cut (n + 1) 114 loc st μ = (if cut 114 = true then K 114 loc st μ else mm_wpB Sh scr rb Cs (mm_wp Sh scr rb Cs K RI RV lab_61 cut n) RI RV [(some (.aload_n 0), 0, 0, [], 0), (some (.getfield 40), 7, 4, [], 0), (some (.getfield 119), 0, 7, [], 0), (some (.ireturn), 0, 0, [], 0)] loc st μ) := by
  unfold mm_wp
  by_cases h : cut 114 = true
  · rw [if_pos h, if_pos h]
  · rw [if_neg h, if_neg h]; rfl
theorem wl_61_122 {Sh : List mm_C} {scr : Option (Nat × (Nat → Int32))} {rb : Bool} {Cs : Nat → List Value → mm_M → (Int32 → mm_M → Prop) → (mm_M → Prop) → Prop} {K : Nat → mm_L → List Value → mm_M → Prop} {RI : Int32 → mm_M → Prop} {RV : mm_M → Prop} {cut : Nat → Bool} {n : Nat} {loc : mm_L} {st : List Value} {μ : mm_M} : mm_wp Sh scr rb Cs K RI RV lab_61 cut (n + 1) 122 loc st μ = (if cut 122 = true then K 122 loc st μ else mm_wpB Sh scr rb Cs (mm_wp Sh scr rb Cs K RI RV lab_61 cut n) RI RV [(some (.aload_n 0), 0, 0, [], 0), (some (.getfield 26), 7, 2, [], 0), (some (.aload_n 0), 0, 0, [], 0), (some (.getfield 66), 7, 8, [], 0), (some (.invokevirtual 259), 18, 2, [], 0), (some (.ireturn), 0, 0, [], 0)] loc st μ) := by
  unfold mm_wp
  by_cases h : cut 122 = true
  · rw [if_pos h, if_pos h]
  · rw [if_neg h, if_neg h]; rfl
theorem wl_61_134 {Sh : List mm_C} {scr : Option (Nat × (Nat → Int32))} {rb : Bool} {Cs : Nat → List Value → mm_M → (Int32 → mm_M → Prop) → (mm_M → Prop) → Prop} {K : Nat → mm_L → List Value → mm_M → Prop} {RI : Int32 → mm_M → Prop} {RV : mm_M → Prop} {cut : Nat → Bool} {n : Nat} {loc : mm_L} {st : List Value} {μ : mm_M} : mm_wp Sh scr rb Cs K RI RV lab_61 cut (n + 1) 134 loc st μ = (if cut 134 = true then K 134 loc st μ else mm_wpB Sh scr rb Cs (mm_wp Sh scr rb Cs K RI RV lab_61 cut n) RI RV [(some (.aload_n 0), 0, 0, [], 0), (some (.getfield 132), 7, 10, [], 0), (some (.ireturn), 0, 0, [], 0)] loc st μ) := by
  unfold mm_wp
  by_cases h : cut 134 = true
  · rw [if_pos h, if_pos h]
  · rw [if_neg h, if_neg h]; rfl
theorem wl_61_139 {Sh : List mm_C} {scr : Option (Nat × (Nat → Int32))} {rb : Bool} {Cs : Nat → List Value → mm_M → (Int32 → mm_M → Prop) → (mm_M → Prop) → Prop} {K : Nat → mm_L → List Value → mm_M → Prop} {RI : Int32 → mm_M → Prop} {RV : mm_M → Prop} {cut : Nat → Bool} {n : Nat} {loc : mm_L} {st : List Value} {μ : mm_M} : mm_wp Sh scr rb Cs K RI RV lab_61 cut (n + 1) 139 loc st μ = (if cut 139 = true then K 139 loc st μ else mm_wpB Sh scr rb Cs (mm_wp Sh scr rb Cs K RI RV lab_61 cut n) RI RV [(some (.aload_n 0), 0, 0, [], 0), (some (.getfield 187), 7, 12, [], 0), (some (.ireturn), 0, 0, [], 0)] loc st μ) := by
  unfold mm_wp
  by_cases h : cut 139 = true
  · rw [if_pos h, if_pos h]
  · rw [if_neg h, if_neg h]; rfl
theorem wl_61_144 {Sh : List mm_C} {scr : Option (Nat × (Nat → Int32))} {rb : Bool} {Cs : Nat → List Value → mm_M → (Int32 → mm_M → Prop) → (mm_M → Prop) → Prop} {K : Nat → mm_L → List Value → mm_M → Prop} {RI : Int32 → mm_M → Prop} {RV : mm_M → Prop} {cut : Nat → Bool} {n : Nat} {loc : mm_L} {st : List Value} {μ : mm_M} : mm_wp Sh scr rb Cs K RI RV lab_61 cut (n + 1) 144 loc st μ = (if cut 144 = true then K 144 loc st μ else mm_wpB Sh scr rb Cs (mm_wp Sh scr rb Cs K RI RV lab_61 cut n) RI RV [(some (.aload_n 0), 0, 0, [], 0), (some (.getfield 262), 7, 13, [], 0), (some (.ireturn), 0, 0, [], 0)] loc st μ) := by
  unfold mm_wp
  by_cases h : cut 144 = true
  · rw [if_pos h, if_pos h]
  · rw [if_neg h, if_neg h]; rfl
theorem wl_61_149 {Sh : List mm_C} {scr : Option (Nat × (Nat → Int32))} {rb : Bool} {Cs : Nat → List Value → mm_M → (Int32 → mm_M → Prop) → (mm_M → Prop) → Prop} {K : Nat → mm_L → List Value → mm_M → Prop} {RI : Int32 → mm_M → Prop} {RV : mm_M → Prop} {cut : Nat → Bool} {n : Nat} {loc : mm_L} {st : List Value} {μ : mm_M} : mm_wp Sh scr rb Cs K RI RV lab_61 cut (n + 1) 149 loc st μ = (if cut 149 = true then K 149 loc st μ else mm_wpB Sh scr rb Cs (mm_wp Sh scr rb Cs K RI RV lab_61 cut n) RI RV [(some (.aload_n 0), 0, 0, [], 0), (some (.getfield 75), 7, 9, [], 0), (some (.ireturn), 0, 0, [], 0)] loc st μ) := by
  unfold mm_wp
  by_cases h : cut 149 = true
  · rw [if_pos h, if_pos h]
  · rw [if_neg h, if_neg h]; rfl
theorem wl_61_154 {Sh : List mm_C} {scr : Option (Nat × (Nat → Int32))} {rb : Bool} {Cs : Nat → List Value → mm_M → (Int32 → mm_M → Prop) → (mm_M → Prop) → Prop} {K : Nat → mm_L → List Value → mm_M → Prop} {RI : Int32 → mm_M → Prop} {RV : mm_M → Prop} {cut : Nat → Bool} {n : Nat} {loc : mm_L} {st : List Value} {μ : mm_M} : mm_wp Sh scr rb Cs K RI RV lab_61 cut (n + 1) 154 loc st μ = (if cut 154 = true then K 154 loc st μ else mm_wpB Sh scr rb Cs (mm_wp Sh scr rb Cs K RI RV lab_61 cut n) RI RV [(some (.aload_n 0), 0, 0, [], 0), (some (.getfield 58), 7, 7, [], 0), (some (.iconst 0), 0, 0, [], 0), (some (.iaload), 0, 0, [], 0), (some (.ireturn), 0, 0, [], 0)] loc st μ) := by
  unfold mm_wp
  by_cases h : cut 154 = true
  · rw [if_pos h, if_pos h]
  · rw [if_neg h, if_neg h]; rfl
theorem wl_61_161 {Sh : List mm_C} {scr : Option (Nat × (Nat → Int32))} {rb : Bool} {Cs : Nat → List Value → mm_M → (Int32 → mm_M → Prop) → (mm_M → Prop) → Prop} {K : Nat → mm_L → List Value → mm_M → Prop} {RI : Int32 → mm_M → Prop} {RV : mm_M → Prop} {cut : Nat → Bool} {n : Nat} {loc : mm_L} {st : List Value} {μ : mm_M} : mm_wp Sh scr rb Cs K RI RV lab_61 cut (n + 1) 161 loc st μ = (if cut 161 = true then K 161 loc st μ else mm_wpB Sh scr rb Cs (mm_wp Sh scr rb Cs K RI RV lab_61 cut n) RI RV [(some (.aload_n 0), 0, 0, [], 0), (some (.getfield 58), 7, 7, [], 0), (some (.iconst 1), 0, 0, [], 1), (some (.iaload), 0, 0, [], 0), (some (.ireturn), 0, 0, [], 0)] loc st μ) := by
  unfold mm_wp
  by_cases h : cut 161 = true
  · rw [if_pos h, if_pos h]
  · rw [if_neg h, if_neg h]; rfl
theorem wl_61_168 {Sh : List mm_C} {scr : Option (Nat × (Nat → Int32))} {rb : Bool} {Cs : Nat → List Value → mm_M → (Int32 → mm_M → Prop) → (mm_M → Prop) → Prop} {K : Nat → mm_L → List Value → mm_M → Prop} {RI : Int32 → mm_M → Prop} {RV : mm_M → Prop} {cut : Nat → Bool} {n : Nat} {loc : mm_L} {st : List Value} {μ : mm_M} : mm_wp Sh scr rb Cs K RI RV lab_61 cut (n + 1) 168 loc st μ = (if cut 168 = true then K 168 loc st μ else mm_wpB Sh scr rb Cs (mm_wp Sh scr rb Cs K RI RV lab_61 cut n) RI RV [(some (.iconst (-1)), 0, 0, [], (-1)), (some (.ireturn), 0, 0, [], 0)] loc st μ) := by
  unfold mm_wp
  by_cases h : cut 168 = true
  · rw [if_pos h, if_pos h]
  · rw [if_neg h, if_neg h]; rfl
theorem wl_62_0 {Sh : List mm_C} {scr : Option (Nat × (Nat → Int32))} {rb : Bool} {Cs : Nat → List Value → mm_M → (Int32 → mm_M → Prop) → (mm_M → Prop) → Prop} {K : Nat → mm_L → List Value → mm_M → Prop} {RI : Int32 → mm_M → Prop} {RV : mm_M → Prop} {cut : Nat → Bool} {n : Nat} {loc : mm_L} {st : List Value} {μ : mm_M} : mm_wp Sh scr rb Cs K RI RV lab_62 cut (n + 1) 0 loc st μ = (if cut 0 = true then K 0 loc st μ else mm_wpB Sh scr rb Cs (mm_wp Sh scr rb Cs K RI RV lab_62 cut n) RI RV [(some (.aload_n 0), 0, 0, [], 0), (some (.getfield 58), 7, 7, [], 0), (some (.aload_n 0), 0, 0, [], 0), (some (.getfield 19), 7, 1, [], 0), (some (.getfield 129), 4, 2, [], 0), (some (.iload_n 1), 0, 0, [], 0), (some (.iaload), 0, 0, [], 0), (some (.iaload), 0, 0, [], 0), (some (.iload_n 2), 0, 0, [], 0), (some (.if_icmp .lt 50), 65, 0, [], 0), (some (.aload_n 0), 0, 0, [], 0), (some (.getfield 10), 7, 0, [], 0), (some (.aload_n 0), 0, 0, [], 0), (some (.getfield 19), 7, 1, [], 0), (some (.getfield 142), 4, 1, [], 0), (some (.iload_n 1), 0, 0, [], 0), (some (.iaload), 0, 0, [], 0), (some (.invokevirtual 265), 32, 2, [], 0), (some (.iload_n 3), 0, 0, [], 0), (some (.if_icmp .lt 30), 65, 0, [], 0), (some (.aload_n 0), 0, 0, [], 0), (some (.getfield 26), 7, 2, [], 0), (some (.aload_n 0), 0, 0, [], 0), (some (.getfield 66), 7, 8, [], 0), (some (.invokevirtual 259), 18, 2, [], 0), (some (.bipush 100), 0, 0, [], 100), (some (.imul), 0, 0, [], 0), (some (.aload_n 0), 0, 0, [], 0), (some (.getfield 132), 7, 10, [], 0), (some (.isub), 0, 0, [], 0), (some (.iload_n 3), 0, 0, [], 0), (some (.if_icmp .lt 7), 65, 0, [], 0), (some (.iconst 1), 0, 0, [], 1), (some (.goto 4), 66, 0, [], 0)] loc st μ) := by
  unfold mm_wp
  by_cases h : cut 0 = true
  · rw [if_pos h, if_pos h]
  · rw [if_neg h, if_neg h]; rfl
theorem wl_62_65 {Sh : List mm_C} {scr : Option (Nat × (Nat → Int32))} {rb : Bool} {Cs : Nat → List Value → mm_M → (Int32 → mm_M → Prop) → (mm_M → Prop) → Prop} {K : Nat → mm_L → List Value → mm_M → Prop} {RI : Int32 → mm_M → Prop} {RV : mm_M → Prop} {cut : Nat → Bool} {n : Nat} {loc : mm_L} {st : List Value} {μ : mm_M} : mm_wp Sh scr rb Cs K RI RV lab_62 cut (n + 1) 65 loc st μ = (if cut 65 = true then K 65 loc st μ else mm_wpB Sh scr rb Cs (mm_wp Sh scr rb Cs K RI RV lab_62 cut n) RI RV [(some (.iconst 0), 0, 0, [], 0), (none, 66, 0, [], 0)] loc st μ) := by
  unfold mm_wp
  by_cases h : cut 65 = true
  · rw [if_pos h, if_pos h]
  · rw [if_neg h, if_neg h]; rfl
theorem wl_62_66 {Sh : List mm_C} {scr : Option (Nat × (Nat → Int32))} {rb : Bool} {Cs : Nat → List Value → mm_M → (Int32 → mm_M → Prop) → (mm_M → Prop) → Prop} {K : Nat → mm_L → List Value → mm_M → Prop} {RI : Int32 → mm_M → Prop} {RV : mm_M → Prop} {cut : Nat → Bool} {n : Nat} {loc : mm_L} {st : List Value} {μ : mm_M} : mm_wp Sh scr rb Cs K RI RV lab_62 cut (n + 1) 66 loc st μ = (if cut 66 = true then K 66 loc st μ else mm_wpB Sh scr rb Cs (mm_wp Sh scr rb Cs K RI RV lab_62 cut n) RI RV [(some (.ireturn), 0, 0, [], 0)] loc st μ) := by
  unfold mm_wp
  by_cases h : cut 66 = true
  · rw [if_pos h, if_pos h]
  · rw [if_neg h, if_neg h]; rfl
theorem wl_63_0 {Sh : List mm_C} {scr : Option (Nat × (Nat → Int32))} {rb : Bool} {Cs : Nat → List Value → mm_M → (Int32 → mm_M → Prop) → (mm_M → Prop) → Prop} {K : Nat → mm_L → List Value → mm_M → Prop} {RI : Int32 → mm_M → Prop} {RV : mm_M → Prop} {cut : Nat → Bool} {n : Nat} {loc : mm_L} {st : List Value} {μ : mm_M} : mm_wp Sh scr rb Cs K RI RV lab_63 cut (n + 1) 0 loc st μ = (if cut 0 = true then K 0 loc st μ else mm_wpB Sh scr rb Cs (mm_wp Sh scr rb Cs K RI RV lab_63 cut n) RI RV [(some (.aload_n 0), 0, 0, [], 0), (some (.dup), 0, 0, [], 0), (some (.getfield 66), 7, 8, [], 0), (some (.iconst 1), 0, 0, [], 1), (some (.iadd), 0, 0, [], 0), (some (.putfield 66), 7, 8, [], 0), (some (.aload_n 0), 0, 0, [], 0), (some (.iconst 0), 0, 0, [], 0), (some (.putfield 132), 7, 10, [], 0), (some (.aload_n 0), 0, 0, [], 0), (some (.invokevirtual 268), 64, 1, [], 0), (some (.aload_n 0), 0, 0, [], 0), (some (.dup), 0, 0, [], 0), (some (.getfield 153), 7, 11, [], 0), (some (.aload_n 0), 0, 0, [], 0), (some (.getfield 10), 7, 0, [], 0), (some (.aload_n 0), 0, 0, [], 0), (some (.getfield 66), 7, 8, [], 0), (some (.invokevirtual 271), 35, 2, [], 0), (some (.iadd), 0, 0, [], 0), (some (.putfield 153), 7, 11, [], 0), (some (.aload_n 0), 0, 0, [], 0), (some (.getfield 66), 7, 8, [], 0), (some (.sipush 168), 0, 0, [], 168), (some (.irem), 0, 0, [], 0), (some (.ifCond .ne 36), 83, 0, [], 0), (some (.aload_n 0), 0, 0, [], 0), (some (.dup), 0, 0, [], 0), (some (.getfield 262), 7, 13, [], 0), (some (.aload_n 0), 0, 0, [], 0), (some (.getfield 47), 7, 5, [], 0), (some (.aload_n 0), 0, 0, [], 0), (some (.getfield 66), 7, 8, [], 0), (some (.sipush 168), 0, 0, [], 168), (some (.idiv), 0, 0, [], 0), (some (.iconst 1), 0, 0, [], 1), (some (.isub), 0, 0, [], 0), (some (.aload_n 0), 0, 0, [], 0), (some (.getfield 19), 7, 1, [], 0), (some (.getfield 177), 4, 5, [], 0), (some (.invokevirtual 274), 11, 3, [], 0), (some (.iadd), 0, 0, [], 0), (some (.putfield 262), 7, 13, [], 0), (none, 83, 0, [], 0)] loc st μ) := by
  unfold mm_wp
  by_cases h : cut 0 = true
  · rw [if_pos h, if_pos h]
  · rw [if_neg h, if_neg h]; rfl
theorem wl_63_83 {Sh : List mm_C} {scr : Option (Nat × (Nat → Int32))} {rb : Bool} {Cs : Nat → List Value → mm_M → (Int32 → mm_M → Prop) → (mm_M → Prop) → Prop} {K : Nat → mm_L → List Value → mm_M → Prop} {RI : Int32 → mm_M → Prop} {RV : mm_M → Prop} {cut : Nat → Bool} {n : Nat} {loc : mm_L} {st : List Value} {μ : mm_M} : mm_wp Sh scr rb Cs K RI RV lab_63 cut (n + 1) 83 loc st μ = (if cut 83 = true then K 83 loc st μ else mm_wpB Sh scr rb Cs (mm_wp Sh scr rb Cs K RI RV lab_63 cut n) RI RV [(some (.return_), 0, 0, [], 0)] loc st μ) := by
  unfold mm_wp
  by_cases h : cut 83 = true
  · rw [if_pos h, if_pos h]
  · rw [if_neg h, if_neg h]; rfl
theorem wl_64_0 {Sh : List mm_C} {scr : Option (Nat × (Nat → Int32))} {rb : Bool} {Cs : Nat → List Value → mm_M → (Int32 → mm_M → Prop) → (mm_M → Prop) → Prop} {K : Nat → mm_L → List Value → mm_M → Prop} {RI : Int32 → mm_M → Prop} {RV : mm_M → Prop} {cut : Nat → Bool} {n : Nat} {loc : mm_L} {st : List Value} {μ : mm_M} : mm_wp Sh scr rb Cs K RI RV lab_64 cut (n + 1) 0 loc st μ = (if cut 0 = true then K 0 loc st μ else mm_wpB Sh scr rb Cs (mm_wp Sh scr rb Cs K RI RV lab_64 cut n) RI RV [(some (.iconst 0), 0, 0, [], 0), (some (.istore_n 1), 0, 0, [], 0), (none, 2, 0, [], 0)] loc st μ) := by
  unfold mm_wp
  by_cases h : cut 0 = true
  · rw [if_pos h, if_pos h]
  · rw [if_neg h, if_neg h]; rfl
theorem wl_64_2 {Sh : List mm_C} {scr : Option (Nat × (Nat → Int32))} {rb : Bool} {Cs : Nat → List Value → mm_M → (Int32 → mm_M → Prop) → (mm_M → Prop) → Prop} {K : Nat → mm_L → List Value → mm_M → Prop} {RI : Int32 → mm_M → Prop} {RV : mm_M → Prop} {cut : Nat → Bool} {n : Nat} {loc : mm_L} {st : List Value} {μ : mm_M} : mm_wp Sh scr rb Cs K RI RV lab_64 cut (n + 1) 2 loc st μ = (if cut 2 = true then K 2 loc st μ else mm_wpB Sh scr rb Cs (mm_wp Sh scr rb Cs K RI RV lab_64 cut n) RI RV [(some (.iload_n 1), 0, 0, [], 0), (some (.iconst 3), 0, 0, [], 3), (some (.if_icmp .ge 89), 93, 0, [], 0), (some (.aload_n 0), 0, 0, [], 0), (some (.getfield 33), 7, 3, [], 0), (some (.iload_n 1), 0, 0, [], 0), (some (.invokevirtual 112), 12, 2, [], 0), (some (.ifCond .ne 72), 87, 0, [], 0), (some (.aload_n 0), 0, 0, [], 0), (some (.getfield 33), 7, 3, [], 0), (some (.getfield 238), 2, 2, [], 0), (some (.iload_n 1), 0, 0, [], 0), (some (.iaload), 0, 0, [], 0), (some (.aload_n 0), 0, 0, [], 0), (some (.getfield 66), 7, 8, [], 0), (some (.if_icmp .gt 56), 87, 0, [], 0), (some (.aload_n 0), 0, 0, [], 0), (some (.getfield 40), 7, 4, [], 0), (some (.aload_n 0), 0, 0, [], 0), (some (.getfield 33), 7, 3, [], 0), (some (.iload_n 1), 0, 0, [], 0), (some (.invokevirtual 278), 1, 3, [], 0), (some (.istore_n 2), 0, 0, [], 0), (some (.iload_n 2), 0, 0, [], 0), (some (.iconst (-1)), 0, 0, [], (-1)), (some (.if_icmp .eq 30), 79, 0, [], 0), (some (.aload_n 0), 0, 0, [], 0), (some (.getfield 40), 7, 4, [], 0), (some (.getfield 226), 0, 5, [], 0), (some (.iload_n 2), 0, 0, [], 0), (some (.aload_n 0), 0, 0, [], 0), (some (.getfield 10), 7, 0, [], 0), (some (.aload_n 0), 0, 0, [], 0), (some (.getfield 40), 7, 4, [], 0), (some (.getfield 235), 0, 6, [], 0), (some (.iload_n 2), 0, 0, [], 0), (some (.bipush 60), 0, 0, [], 60), (some (.imul), 0, 0, [], 0), (some (.invokevirtual 281), 34, 3, [], 0), (some (.bastore), 0, 0, [], 0), (none, 79, 0, [], 0)] loc st μ) := by
  unfold mm_wp
  by_cases h : cut 2 = true
  · rw [if_pos h, if_pos h]
  · rw [if_neg h, if_neg h]; rfl
theorem wl_64_79 {Sh : List mm_C} {scr : Option (Nat × (Nat → Int32))} {rb : Bool} {Cs : Nat → List Value → mm_M → (Int32 → mm_M → Prop) → (mm_M → Prop) → Prop} {K : Nat → mm_L → List Value → mm_M → Prop} {RI : Int32 → mm_M → Prop} {RV : mm_M → Prop} {cut : Nat → Bool} {n : Nat} {loc : mm_L} {st : List Value} {μ : mm_M} : mm_wp Sh scr rb Cs K RI RV lab_64 cut (n + 1) 79 loc st μ = (if cut 79 = true then K 79 loc st μ else mm_wpB Sh scr rb Cs (mm_wp Sh scr rb Cs K RI RV lab_64 cut n) RI RV [(some (.aload_n 0), 0, 0, [], 0), (some (.getfield 33), 7, 3, [], 0), (some (.iload_n 1), 0, 0, [], 0), (some (.invokevirtual 156), 16, 2, [], 0), (none, 87, 0, [], 0)] loc st μ) := by
  unfold mm_wp
  by_cases h : cut 79 = true
  · rw [if_pos h, if_pos h]
  · rw [if_neg h, if_neg h]; rfl
theorem wl_64_87 {Sh : List mm_C} {scr : Option (Nat × (Nat → Int32))} {rb : Bool} {Cs : Nat → List Value → mm_M → (Int32 → mm_M → Prop) → (mm_M → Prop) → Prop} {K : Nat → mm_L → List Value → mm_M → Prop} {RI : Int32 → mm_M → Prop} {RV : mm_M → Prop} {cut : Nat → Bool} {n : Nat} {loc : mm_L} {st : List Value} {μ : mm_M} : mm_wp Sh scr rb Cs K RI RV lab_64 cut (n + 1) 87 loc st μ = (if cut 87 = true then K 87 loc st μ else mm_wpB Sh scr rb Cs (mm_wp Sh scr rb Cs K RI RV lab_64 cut n) RI RV [(some (.iinc 1 1), 0, 0, [], 1), (some (.goto (-88)), 2, 0, [], 0)] loc st μ) := by
  unfold mm_wp
  by_cases h : cut 87 = true
  · rw [if_pos h, if_pos h]
  · rw [if_neg h, if_neg h]; rfl
theorem wl_64_93 {Sh : List mm_C} {scr : Option (Nat × (Nat → Int32))} {rb : Bool} {Cs : Nat → List Value → mm_M → (Int32 → mm_M → Prop) → (mm_M → Prop) → Prop} {K : Nat → mm_L → List Value → mm_M → Prop} {RI : Int32 → mm_M → Prop} {RV : mm_M → Prop} {cut : Nat → Bool} {n : Nat} {loc : mm_L} {st : List Value} {μ : mm_M} : mm_wp Sh scr rb Cs K RI RV lab_64 cut (n + 1) 93 loc st μ = (if cut 93 = true then K 93 loc st μ else mm_wpB Sh scr rb Cs (mm_wp Sh scr rb Cs K RI RV lab_64 cut n) RI RV [(some (.return_), 0, 0, [], 0)] loc st μ) := by
  unfold mm_wp
  by_cases h : cut 93 = true
  · rw [if_pos h, if_pos h]
  · rw [if_neg h, if_neg h]; rfl
theorem wl_65_0 {Sh : List mm_C} {scr : Option (Nat × (Nat → Int32))} {rb : Bool} {Cs : Nat → List Value → mm_M → (Int32 → mm_M → Prop) → (mm_M → Prop) → Prop} {K : Nat → mm_L → List Value → mm_M → Prop} {RI : Int32 → mm_M → Prop} {RV : mm_M → Prop} {cut : Nat → Bool} {n : Nat} {loc : mm_L} {st : List Value} {μ : mm_M} : mm_wp Sh scr rb Cs K RI RV lab_65 cut (n + 1) 0 loc st μ = (if cut 0 = true then K 0 loc st μ else mm_wpB Sh scr rb Cs (mm_wp Sh scr rb Cs K RI RV lab_65 cut n) RI RV [(some (.iload_n 0), 0, 0, [], 0), (some (.iload_n 1), 0, 0, [], 0), (some (.if_icmp .lt 12), 14, 0, [], 0), (some (.iload_n 0), 0, 0, [], 0), (some (.iload_n 2), 0, 0, [], 0), (some (.if_icmp .gt 7), 14, 0, [], 0), (some (.iconst 1), 0, 0, [], 1), (some (.goto 4), 15, 0, [], 0)] loc st μ) := by
  unfold mm_wp
  by_cases h : cut 0 = true
  · rw [if_pos h, if_pos h]
  · rw [if_neg h, if_neg h]; rfl
theorem wl_65_14 {Sh : List mm_C} {scr : Option (Nat × (Nat → Int32))} {rb : Bool} {Cs : Nat → List Value → mm_M → (Int32 → mm_M → Prop) → (mm_M → Prop) → Prop} {K : Nat → mm_L → List Value → mm_M → Prop} {RI : Int32 → mm_M → Prop} {RV : mm_M → Prop} {cut : Nat → Bool} {n : Nat} {loc : mm_L} {st : List Value} {μ : mm_M} : mm_wp Sh scr rb Cs K RI RV lab_65 cut (n + 1) 14 loc st μ = (if cut 14 = true then K 14 loc st μ else mm_wpB Sh scr rb Cs (mm_wp Sh scr rb Cs K RI RV lab_65 cut n) RI RV [(some (.iconst 0), 0, 0, [], 0), (none, 15, 0, [], 0)] loc st μ) := by
  unfold mm_wp
  by_cases h : cut 14 = true
  · rw [if_pos h, if_pos h]
  · rw [if_neg h, if_neg h]; rfl
theorem wl_65_15 {Sh : List mm_C} {scr : Option (Nat × (Nat → Int32))} {rb : Bool} {Cs : Nat → List Value → mm_M → (Int32 → mm_M → Prop) → (mm_M → Prop) → Prop} {K : Nat → mm_L → List Value → mm_M → Prop} {RI : Int32 → mm_M → Prop} {RV : mm_M → Prop} {cut : Nat → Bool} {n : Nat} {loc : mm_L} {st : List Value} {μ : mm_M} : mm_wp Sh scr rb Cs K RI RV lab_65 cut (n + 1) 15 loc st μ = (if cut 15 = true then K 15 loc st μ else mm_wpB Sh scr rb Cs (mm_wp Sh scr rb Cs K RI RV lab_65 cut n) RI RV [(some (.ireturn), 0, 0, [], 0)] loc st μ) := by
  unfold mm_wp
  by_cases h : cut 15 = true
  · rw [if_pos h, if_pos h]
  · rw [if_neg h, if_neg h]; rfl
theorem wl_66_0 {Sh : List mm_C} {scr : Option (Nat × (Nat → Int32))} {rb : Bool} {Cs : Nat → List Value → mm_M → (Int32 → mm_M → Prop) → (mm_M → Prop) → Prop} {K : Nat → mm_L → List Value → mm_M → Prop} {RI : Int32 → mm_M → Prop} {RV : mm_M → Prop} {cut : Nat → Bool} {n : Nat} {loc : mm_L} {st : List Value} {μ : mm_M} : mm_wp Sh scr rb Cs K RI RV lab_66 cut (n + 1) 0 loc st μ = (if cut 0 = true then K 0 loc st μ else mm_wpB Sh scr rb Cs (mm_wp Sh scr rb Cs K RI RV lab_66 cut n) RI RV [(some (.iload_n 0), 0, 0, [], 0), (some (.ifCond .eq 7), 8, 0, [], 0), (some (.iconst 1), 0, 0, [], 1), (some (.goto 4), 9, 0, [], 0)] loc st μ) := by
  unfold mm_wp
  by_cases h : cut 0 = true
  · rw [if_pos h, if_pos h]
  · rw [if_neg h, if_neg h]; rfl
theorem wl_66_8 {Sh : List mm_C} {scr : Option (Nat × (Nat → Int32))} {rb : Bool} {Cs : Nat → List Value → mm_M → (Int32 → mm_M → Prop) → (mm_M → Prop) → Prop} {K : Nat → mm_L → List Value → mm_M → Prop} {RI : Int32 → mm_M → Prop} {RV : mm_M → Prop} {cut : Nat → Bool} {n : Nat} {loc : mm_L} {st : List Value} {μ : mm_M} : mm_wp Sh scr rb Cs K RI RV lab_66 cut (n + 1) 8 loc st μ = (if cut 8 = true then K 8 loc st μ else mm_wpB Sh scr rb Cs (mm_wp Sh scr rb Cs K RI RV lab_66 cut n) RI RV [(some (.iconst 0), 0, 0, [], 0), (none, 9, 0, [], 0)] loc st μ) := by
  unfold mm_wp
  by_cases h : cut 8 = true
  · rw [if_pos h, if_pos h]
  · rw [if_neg h, if_neg h]; rfl
theorem wl_66_9 {Sh : List mm_C} {scr : Option (Nat × (Nat → Int32))} {rb : Bool} {Cs : Nat → List Value → mm_M → (Int32 → mm_M → Prop) → (mm_M → Prop) → Prop} {K : Nat → mm_L → List Value → mm_M → Prop} {RI : Int32 → mm_M → Prop} {RV : mm_M → Prop} {cut : Nat → Bool} {n : Nat} {loc : mm_L} {st : List Value} {μ : mm_M} : mm_wp Sh scr rb Cs K RI RV lab_66 cut (n + 1) 9 loc st μ = (if cut 9 = true then K 9 loc st μ else mm_wpB Sh scr rb Cs (mm_wp Sh scr rb Cs K RI RV lab_66 cut n) RI RV [(some (.ireturn), 0, 0, [], 0)] loc st μ) := by
  unfold mm_wp
  by_cases h : cut 9 = true
  · rw [if_pos h, if_pos h]
  · rw [if_neg h, if_neg h]; rfl
theorem wl_67_0 {Sh : List mm_C} {scr : Option (Nat × (Nat → Int32))} {rb : Bool} {Cs : Nat → List Value → mm_M → (Int32 → mm_M → Prop) → (mm_M → Prop) → Prop} {K : Nat → mm_L → List Value → mm_M → Prop} {RI : Int32 → mm_M → Prop} {RV : mm_M → Prop} {cut : Nat → Bool} {n : Nat} {loc : mm_L} {st : List Value} {μ : mm_M} : mm_wp Sh scr rb Cs K RI RV lab_67 cut (n + 1) 0 loc st μ = (if cut 0 = true then K 0 loc st μ else mm_wpB Sh scr rb Cs (mm_wp Sh scr rb Cs K RI RV lab_67 cut n) RI RV [(some (.iload_n 2), 0, 0, [], 0), (some (.istore_n 3), 0, 0, [], 0), (none, 2, 0, [], 0)] loc st μ) := by
  unfold mm_wp
  by_cases h : cut 0 = true
  · rw [if_pos h, if_pos h]
  · rw [if_neg h, if_neg h]; rfl
theorem wl_67_2 {Sh : List mm_C} {scr : Option (Nat × (Nat → Int32))} {rb : Bool} {Cs : Nat → List Value → mm_M → (Int32 → mm_M → Prop) → (mm_M → Prop) → Prop} {K : Nat → mm_L → List Value → mm_M → Prop} {RI : Int32 → mm_M → Prop} {RV : mm_M → Prop} {cut : Nat → Bool} {n : Nat} {loc : mm_L} {st : List Value} {μ : mm_M} : mm_wp Sh scr rb Cs K RI RV lab_67 cut (n + 1) 2 loc st μ = (if cut 2 = true then K 2 loc st μ else mm_wpB Sh scr rb Cs (mm_wp Sh scr rb Cs K RI RV lab_67 cut n) RI RV [(some (.iload_n 3), 0, 0, [], 0), (some (.ifCond .le 30), 33, 0, [], 0), (some (.aload_n 1), 0, 0, [], 0), (some (.aload_n 0), 0, 0, [], 0), (some (.iload_n 3), 0, 0, [], 0), (some (.iconst 1), 0, 0, [], 1), (some (.isub), 0, 0, [], 0), (some (.iaload), 0, 0, [], 0), (some (.iaload), 0, 0, [], 0), (some (.aload_n 1), 0, 0, [], 0), (some (.iload_n 2), 0, 0, [], 0), (some (.iaload), 0, 0, [], 0), (some (.if_icmp .le 17), 33, 0, [], 0), (some (.aload_n 0), 0, 0, [], 0), (some (.iload_n 3), 0, 0, [], 0), (some (.aload_n 0), 0, 0, [], 0), (some (.iload_n 3), 0, 0, [], 0), (some (.iconst 1), 0, 0, [], 1), (some (.isub), 0, 0, [], 0), (some (.iaload), 0, 0, [], 0), (some (.iastore), 0, 0, [], 0), (some (.iinc 3 (-1)), 0, 0, [], (-1)), (some (.goto (-28)), 2, 0, [], 0)] loc st μ) := by
  unfold mm_wp
  by_cases h : cut 2 = true
  · rw [if_pos h, if_pos h]
  · rw [if_neg h, if_neg h]; rfl
theorem wl_67_33 {Sh : List mm_C} {scr : Option (Nat × (Nat → Int32))} {rb : Bool} {Cs : Nat → List Value → mm_M → (Int32 → mm_M → Prop) → (mm_M → Prop) → Prop} {K : Nat → mm_L → List Value → mm_M → Prop} {RI : Int32 → mm_M → Prop} {RV : mm_M → Prop} {cut : Nat → Bool} {n : Nat} {loc : mm_L} {st : List Value} {μ : mm_M} : mm_wp Sh scr rb Cs K RI RV lab_67 cut (n + 1) 33 loc st μ = (if cut 33 = true then K 33 loc st μ else mm_wpB Sh scr rb Cs (mm_wp Sh scr rb Cs K RI RV lab_67 cut n) RI RV [(some (.aload_n 0), 0, 0, [], 0), (some (.iload_n 3), 0, 0, [], 0), (some (.iload_n 2), 0, 0, [], 0), (some (.iastore), 0, 0, [], 0), (some (.return_), 0, 0, [], 0)] loc st μ) := by
  unfold mm_wp
  by_cases h : cut 33 = true
  · rw [if_pos h, if_pos h]
  · rw [if_neg h, if_neg h]; rfl
theorem wl_68_0 {Sh : List mm_C} {scr : Option (Nat × (Nat → Int32))} {rb : Bool} {Cs : Nat → List Value → mm_M → (Int32 → mm_M → Prop) → (mm_M → Prop) → Prop} {K : Nat → mm_L → List Value → mm_M → Prop} {RI : Int32 → mm_M → Prop} {RV : mm_M → Prop} {cut : Nat → Bool} {n : Nat} {loc : mm_L} {st : List Value} {μ : mm_M} : mm_wp Sh scr rb Cs K RI RV lab_68 cut (n + 1) 0 loc st μ = (if cut 0 = true then K 0 loc st μ else mm_wpB Sh scr rb Cs (mm_wp Sh scr rb Cs K RI RV lab_68 cut n) RI RV [(some (.iload_n 0), 0, 0, [], 0), (some (.iload_n 1), 0, 0, [], 0), (some (.if_icmp .lt 12), 14, 0, [], 0), (some (.iload_n 0), 0, 0, [], 0), (some (.iload_n 2), 0, 0, [], 0), (some (.if_icmp .gt 7), 14, 0, [], 0), (some (.iconst 1), 0, 0, [], 1), (some (.goto 4), 15, 0, [], 0)] loc st μ) := by
  unfold mm_wp
  by_cases h : cut 0 = true
  · rw [if_pos h, if_pos h]
  · rw [if_neg h, if_neg h]; rfl
theorem wl_68_14 {Sh : List mm_C} {scr : Option (Nat × (Nat → Int32))} {rb : Bool} {Cs : Nat → List Value → mm_M → (Int32 → mm_M → Prop) → (mm_M → Prop) → Prop} {K : Nat → mm_L → List Value → mm_M → Prop} {RI : Int32 → mm_M → Prop} {RV : mm_M → Prop} {cut : Nat → Bool} {n : Nat} {loc : mm_L} {st : List Value} {μ : mm_M} : mm_wp Sh scr rb Cs K RI RV lab_68 cut (n + 1) 14 loc st μ = (if cut 14 = true then K 14 loc st μ else mm_wpB Sh scr rb Cs (mm_wp Sh scr rb Cs K RI RV lab_68 cut n) RI RV [(some (.iconst 0), 0, 0, [], 0), (none, 15, 0, [], 0)] loc st μ) := by
  unfold mm_wp
  by_cases h : cut 14 = true
  · rw [if_pos h, if_pos h]
  · rw [if_neg h, if_neg h]; rfl
theorem wl_68_15 {Sh : List mm_C} {scr : Option (Nat × (Nat → Int32))} {rb : Bool} {Cs : Nat → List Value → mm_M → (Int32 → mm_M → Prop) → (mm_M → Prop) → Prop} {K : Nat → mm_L → List Value → mm_M → Prop} {RI : Int32 → mm_M → Prop} {RV : mm_M → Prop} {cut : Nat → Bool} {n : Nat} {loc : mm_L} {st : List Value} {μ : mm_M} : mm_wp Sh scr rb Cs K RI RV lab_68 cut (n + 1) 15 loc st μ = (if cut 15 = true then K 15 loc st μ else mm_wpB Sh scr rb Cs (mm_wp Sh scr rb Cs K RI RV lab_68 cut n) RI RV [(some (.ireturn), 0, 0, [], 0)] loc st μ) := by
  unfold mm_wp
  by_cases h : cut 15 = true
  · rw [if_pos h, if_pos h]
  · rw [if_neg h, if_neg h]; rfl
theorem wl_69_0 {Sh : List mm_C} {scr : Option (Nat × (Nat → Int32))} {rb : Bool} {Cs : Nat → List Value → mm_M → (Int32 → mm_M → Prop) → (mm_M → Prop) → Prop} {K : Nat → mm_L → List Value → mm_M → Prop} {RI : Int32 → mm_M → Prop} {RV : mm_M → Prop} {cut : Nat → Bool} {n : Nat} {loc : mm_L} {st : List Value} {μ : mm_M} : mm_wp Sh scr rb Cs K RI RV lab_69 cut (n + 1) 0 loc st μ = (if cut 0 = true then K 0 loc st μ else mm_wpB Sh scr rb Cs (mm_wp Sh scr rb Cs K RI RV lab_69 cut n) RI RV [(some (.iload_n 1), 0, 0, [], 0), (some (.iconst 0), 0, 0, [], 0), (some (.aload_n 0), 0, 0, [], 0), (some (.getfield 98), 8, 1, [], 0), (some (.iconst 1), 0, 0, [], 1), (some (.isub), 0, 0, [], 0), (some (.invokestatic 102), 68, 3, [], 0), (some (.ireturn), 0, 0, [], 0)] loc st μ) := by
  unfold mm_wp
  by_cases h : cut 0 = true
  · rw [if_pos h, if_pos h]
  · rw [if_neg h, if_neg h]; rfl
theorem wl_70_0 {Sh : List mm_C} {scr : Option (Nat × (Nat → Int32))} {rb : Bool} {Cs : Nat → List Value → mm_M → (Int32 → mm_M → Prop) → (mm_M → Prop) → Prop} {K : Nat → mm_L → List Value → mm_M → Prop} {RI : Int32 → mm_M → Prop} {RV : mm_M → Prop} {cut : Nat → Bool} {n : Nat} {loc : mm_L} {st : List Value} {μ : mm_M} : mm_wp Sh scr rb Cs K RI RV lab_70 cut (n + 1) 0 loc st μ = (if cut 0 = true then K 0 loc st μ else mm_wpB Sh scr rb Cs (mm_wp Sh scr rb Cs K RI RV lab_70 cut n) RI RV [(some (.aload_n 0), 0, 0, [], 0), (some (.getfield 16), 8, 4, [], 0), (some (.iload_n 1), 0, 0, [], 0), (some (.iaload), 0, 0, [], 0), (some (.aload_n 0), 0, 0, [], 0), (some (.getfield 19), 8, 5, [], 0), (some (.iload_n 1), 0, 0, [], 0), (some (.baload), 0, 0, [], 0), (some (.ifCond .eq 8), 20, 0, [], 0), (some (.bipush 40), 0, 0, [], 40), (some (.goto 5), 22, 0, [], 0)] loc st μ) := by
  unfold mm_wp
  by_cases h : cut 0 = true
  · rw [if_pos h, if_pos h]
  · rw [if_neg h, if_neg h]; rfl
theorem wl_70_20 {Sh : List mm_C} {scr : Option (Nat × (Nat → Int32))} {rb : Bool} {Cs : Nat → List Value → mm_M → (Int32 → mm_M → Prop) → (mm_M → Prop) → Prop} {K : Nat → mm_L → List Value → mm_M → Prop} {RI : Int32 → mm_M → Prop} {RV : mm_M → Prop} {cut : Nat → Bool} {n : Nat} {loc : mm_L} {st : List Value} {μ : mm_M} : mm_wp Sh scr rb Cs K RI RV lab_70 cut (n + 1) 20 loc st μ = (if cut 20 = true then K 20 loc st μ else mm_wpB Sh scr rb Cs (mm_wp Sh scr rb Cs K RI RV lab_70 cut n) RI RV [(some (.bipush 20), 0, 0, [], 20), (none, 22, 0, [], 0)] loc st μ) := by
  unfold mm_wp
  by_cases h : cut 20 = true
  · rw [if_pos h, if_pos h]
  · rw [if_neg h, if_neg h]; rfl
theorem wl_70_22 {Sh : List mm_C} {scr : Option (Nat × (Nat → Int32))} {rb : Bool} {Cs : Nat → List Value → mm_M → (Int32 → mm_M → Prop) → (mm_M → Prop) → Prop} {K : Nat → mm_L → List Value → mm_M → Prop} {RI : Int32 → mm_M → Prop} {RV : mm_M → Prop} {cut : Nat → Bool} {n : Nat} {loc : mm_L} {st : List Value} {μ : mm_M} : mm_wp Sh scr rb Cs K RI RV lab_70 cut (n + 1) 22 loc st μ = (if cut 22 = true then K 22 loc st μ else mm_wpB Sh scr rb Cs (mm_wp Sh scr rb Cs K RI RV lab_70 cut n) RI RV [(some (.iadd), 0, 0, [], 0), (some (.ireturn), 0, 0, [], 0)] loc st μ) := by
  unfold mm_wp
  by_cases h : cut 22 = true
  · rw [if_pos h, if_pos h]
  · rw [if_neg h, if_neg h]; rfl
theorem wl_71_0 {Sh : List mm_C} {scr : Option (Nat × (Nat → Int32))} {rb : Bool} {Cs : Nat → List Value → mm_M → (Int32 → mm_M → Prop) → (mm_M → Prop) → Prop} {K : Nat → mm_L → List Value → mm_M → Prop} {RI : Int32 → mm_M → Prop} {RV : mm_M → Prop} {cut : Nat → Bool} {n : Nat} {loc : mm_L} {st : List Value} {μ : mm_M} : mm_wp Sh scr rb Cs K RI RV lab_71 cut (n + 1) 0 loc st μ = (if cut 0 = true then K 0 loc st μ else mm_wpB Sh scr rb Cs (mm_wp Sh scr rb Cs K RI RV lab_71 cut n) RI RV [(some (.aload_n 0), 0, 0, [], 0), (some (.getfield 106), 8, 0, [], 0), (some (.aload_n 0), 0, 0, [], 0), (some (.iload_n 1), 0, 0, [], 0), (some (.invokevirtual 109), 70, 2, [], 0), (some (.if_icmp .ge 16), 25, 0, [], 0), (some (.aload_n 0), 0, 0, [], 0), (some (.getfield 13), 8, 3, [], 0), (some (.iload_n 1), 0, 0, [], 0), (some (.iaload), 0, 0, [], 0), (some (.ifCond .le 7), 25, 0, [], 0), (some (.iconst 1), 0, 0, [], 1), (some (.goto 4), 26, 0, [], 0)] loc st μ) := by
  unfold mm_wp
  by_cases h : cut 0 = true
  · rw [if_pos h, if_pos h]
  · rw [if_neg h, if_neg h]; rfl
theorem wl_71_25 {Sh : List mm_C} {scr : Option (Nat × (Nat → Int32))} {rb : Bool} {Cs : Nat → List Value → mm_M → (Int32 → mm_M → Prop) → (mm_M → Prop) → Prop} {K : Nat → mm_L → List Value → mm_M → Prop} {RI : Int32 → mm_M → Prop} {RV : mm_M → Prop} {cut : Nat → Bool} {n : Nat} {loc : mm_L} {st : List Value} {μ : mm_M} : mm_wp Sh scr rb Cs K RI RV lab_71 cut (n + 1) 25 loc st μ = (if cut 25 = true then K 25 loc st μ else mm_wpB Sh scr rb Cs (mm_wp Sh scr rb Cs K RI RV lab_71 cut n) RI RV [(some (.iconst 0), 0, 0, [], 0), (none, 26, 0, [], 0)] loc st μ) := by
  unfold mm_wp
  by_cases h : cut 25 = true
  · rw [if_pos h, if_pos h]
  · rw [if_neg h, if_neg h]; rfl
theorem wl_71_26 {Sh : List mm_C} {scr : Option (Nat × (Nat → Int32))} {rb : Bool} {Cs : Nat → List Value → mm_M → (Int32 → mm_M → Prop) → (mm_M → Prop) → Prop} {K : Nat → mm_L → List Value → mm_M → Prop} {RI : Int32 → mm_M → Prop} {RV : mm_M → Prop} {cut : Nat → Bool} {n : Nat} {loc : mm_L} {st : List Value} {μ : mm_M} : mm_wp Sh scr rb Cs K RI RV lab_71 cut (n + 1) 26 loc st μ = (if cut 26 = true then K 26 loc st μ else mm_wpB Sh scr rb Cs (mm_wp Sh scr rb Cs K RI RV lab_71 cut n) RI RV [(some (.ireturn), 0, 0, [], 0)] loc st μ) := by
  unfold mm_wp
  by_cases h : cut 26 = true
  · rw [if_pos h, if_pos h]
  · rw [if_neg h, if_neg h]; rfl
theorem wl_72_0 {Sh : List mm_C} {scr : Option (Nat × (Nat → Int32))} {rb : Bool} {Cs : Nat → List Value → mm_M → (Int32 → mm_M → Prop) → (mm_M → Prop) → Prop} {K : Nat → mm_L → List Value → mm_M → Prop} {RI : Int32 → mm_M → Prop} {RV : mm_M → Prop} {cut : Nat → Bool} {n : Nat} {loc : mm_L} {st : List Value} {μ : mm_M} : mm_wp Sh scr rb Cs K RI RV lab_72 cut (n + 1) 0 loc st μ = (if cut 0 = true then K 0 loc st μ else mm_wpB Sh scr rb Cs (mm_wp Sh scr rb Cs K RI RV lab_72 cut n) RI RV [(some (.iload_n 1), 0, 0, [], 0), (some (.iconst 0), 0, 0, [], 0), (some (.iconst 2), 0, 0, [], 2), (some (.invokestatic 102), 68, 3, [], 0), (some (.ifCond .eq 33), 39, 0, [], 0), (some (.iload_n 2), 0, 0, [], 0), (some (.iconst 1), 0, 0, [], 1), (some (.sipush 5000), 0, 0, [], 5000), (some (.invokestatic 102), 68, 3, [], 0), (some (.ifCond .eq 22), 39, 0, [], 0), (some (.iload_n 3), 0, 0, [], 0), (some (.iconst 0), 0, 0, [], 0), (some (.bipush 19), 0, 0, [], 19), (some (.invokestatic 102), 68, 3, [], 0), (some (.ifCond .eq 12), 39, 0, [], 0), (some (.aload_n 0), 0, 0, [], 0), (some (.getfield 98), 8, 1, [], 0), (some (.bipush 60), 0, 0, [], 60), (some (.if_icmp .ne 5), 41, 0, [], 0), (none, 39, 0, [], 0)] loc st μ) := by
  unfold mm_wp
  by_cases h : cut 0 = true
  · rw [if_pos h, if_pos h]
  · rw [if_neg h, if_neg h]; rfl
theorem wl_72_39 {Sh : List mm_C} {scr : Option (Nat × (Nat → Int32))} {rb : Bool} {Cs : Nat → List Value → mm_M → (Int32 → mm_M → Prop) → (mm_M → Prop) → Prop} {K : Nat → mm_L → List Value → mm_M → Prop} {RI : Int32 → mm_M → Prop} {RV : mm_M → Prop} {cut : Nat → Bool} {n : Nat} {loc : mm_L} {st : List Value} {μ : mm_M} : mm_wp Sh scr rb Cs K RI RV lab_72 cut (n + 1) 39 loc st μ = (if cut 39 = true then K 39 loc st μ else mm_wpB Sh scr rb Cs (mm_wp Sh scr rb Cs K RI RV lab_72 cut n) RI RV [(some (.iconst (-1)), 0, 0, [], (-1)), (some (.ireturn), 0, 0, [], 0)] loc st μ) := by
  unfold mm_wp
  by_cases h : cut 39 = true
  · rw [if_pos h, if_pos h]
  · rw [if_neg h, if_neg h]; rfl
theorem wl_72_41 {Sh : List mm_C} {scr : Option (Nat × (Nat → Int32))} {rb : Bool} {Cs : Nat → List Value → mm_M → (Int32 → mm_M → Prop) → (mm_M → Prop) → Prop} {K : Nat → mm_L → List Value → mm_M → Prop} {RI : Int32 → mm_M → Prop} {RV : mm_M → Prop} {cut : Nat → Bool} {n : Nat} {loc : mm_L} {st : List Value} {μ : mm_M} : mm_wp Sh scr rb Cs K RI RV lab_72 cut (n + 1) 41 loc st μ = (if cut 41 = true then K 41 loc st μ else mm_wpB Sh scr rb Cs (mm_wp Sh scr rb Cs K RI RV lab_72 cut n) RI RV [(some (.aload_n 0), 0, 0, [], 0), (some (.getfield 9), 8, 2, [], 0), (some (.aload_n 0), 0, 0, [], 0), (some (.getfield 98), 8, 1, [], 0), (some (.iload_n 1), 0, 0, [], 0), (some (.iastore), 0, 0, [], 0), (some (.aload_n 0), 0, 0, [], 0), (some (.getfield 13), 8, 3, [], 0), (some (.aload_n 0), 0, 0, [], 0), (some (.getfield 98), 8, 1, [], 0), (some (.iload_n 2), 0, 0, [], 0), (some (.iastore), 0, 0, [], 0), (some (.aload_n 0), 0, 0, [], 0), (some (.getfield 16), 8, 4, [], 0), (some (.aload_n 0), 0, 0, [], 0), (some (.getfield 98), 8, 1, [], 0), (some (.aload_n 0), 0, 0, [], 0), (some (.getfield 106), 8, 0, [], 0), (some (.iload_n 3), 0, 0, [], 0), (some (.isub), 0, 0, [], 0), (some (.iastore), 0, 0, [], 0), (some (.aload_n 0), 0, 0, [], 0), (some (.dup), 0, 0, [], 0), (some (.getfield 98), 8, 1, [], 0), (some (.iconst 1), 0, 0, [], 1), (some (.iadd), 0, 0, [], 0), (some (.putfield 98), 8, 1, [], 0), (some (.aload_n 0), 0, 0, [], 0), (some (.getfield 98), 8, 1, [], 0), (some (.iconst 1), 0, 0, [], 1), (some (.isub), 0, 0, [], 0), (some (.ireturn), 0, 0, [], 0)] loc st μ) := by
  unfold mm_wp
  by_cases h : cut 41 = true
  · rw [if_pos h, if_pos h]
  · rw [if_neg h, if_neg h]; rfl
theorem wl_73_0 {Sh : List mm_C} {scr : Option (Nat × (Nat → Int32))} {rb : Bool} {Cs : Nat → List Value → mm_M → (Int32 → mm_M → Prop) → (mm_M → Prop) → Prop} {K : Nat → mm_L → List Value → mm_M → Prop} {RI : Int32 → mm_M → Prop} {RV : mm_M → Prop} {cut : Nat → Bool} {n : Nat} {loc : mm_L} {st : List Value} {μ : mm_M} : mm_wp Sh scr rb Cs K RI RV lab_73 cut (n + 1) 0 loc st μ = (if cut 0 = true then K 0 loc st μ else mm_wpB Sh scr rb Cs (mm_wp Sh scr rb Cs K RI RV lab_73 cut n) RI RV [(some (.iload_n 1), 0, 0, [], 0), (some (.iconst 1), 0, 0, [], 1), (some (.ldc 113), 0, 0, [], 100000), (some (.invokestatic 102), 68, 3, [], 0), (some (.ifCond .eq 14), 21, 0, [], 0), (some (.aload_n 0), 0, 0, [], 0), (some (.getfield 114), 8, 7, [], 0), (some (.iload_n 1), 0, 0, [], 0), (some (.iadd), 0, 0, [], 0), (some (.ldc 117), 0, 0, [], 1000000), (some (.if_icmp .le 5), 23, 0, [], 0), (none, 21, 0, [], 0)] loc st μ) := by
  unfold mm_wp
  by_cases h : cut 0 = true
  · rw [if_pos h, if_pos h]
  · rw [if_neg h, if_neg h]; rfl
theorem wl_73_21 {Sh : List mm_C} {scr : Option (Nat × (Nat → Int32))} {rb : Bool} {Cs : Nat → List Value → mm_M → (Int32 → mm_M → Prop) → (mm_M → Prop) → Prop} {K : Nat → mm_L → List Value → mm_M → Prop} {RI : Int32 → mm_M → Prop} {RV : mm_M → Prop} {cut : Nat → Bool} {n : Nat} {loc : mm_L} {st : List Value} {μ : mm_M} : mm_wp Sh scr rb Cs K RI RV lab_73 cut (n + 1) 21 loc st μ = (if cut 21 = true then K 21 loc st μ else mm_wpB Sh scr rb Cs (mm_wp Sh scr rb Cs K RI RV lab_73 cut n) RI RV [(some (.iconst (-1)), 0, 0, [], (-1)), (some (.ireturn), 0, 0, [], 0)] loc st μ) := by
  unfold mm_wp
  by_cases h : cut 21 = true
  · rw [if_pos h, if_pos h]
  · rw [if_neg h, if_neg h]; rfl
theorem wl_73_23 {Sh : List mm_C} {scr : Option (Nat × (Nat → Int32))} {rb : Bool} {Cs : Nat → List Value → mm_M → (Int32 → mm_M → Prop) → (mm_M → Prop) → Prop} {K : Nat → mm_L → List Value → mm_M → Prop} {RI : Int32 → mm_M → Prop} {RV : mm_M → Prop} {cut : Nat → Bool} {n : Nat} {loc : mm_L} {st : List Value} {μ : mm_M} : mm_wp Sh scr rb Cs K RI RV lab_73 cut (n + 1) 23 loc st μ = (if cut 23 = true then K 23 loc st μ else mm_wpB Sh scr rb Cs (mm_wp Sh scr rb Cs K RI RV lab_73 cut n) RI RV [(some (.aload_n 0), 0, 0, [], 0), (some (.dup), 0, 0, [], 0), (some (.getfield 114), 8, 7, [], 0), (some (.iload_n 1), 0, 0, [], 0), (some (.iadd), 0, 0, [], 0), (some (.putfield 114), 8, 7, [], 0), (some (.aload_n 0), 0, 0, [], 0), (some (.getfield 114), 8, 7, [], 0), (some (.ireturn), 0, 0, [], 0)] loc st μ) := by
  unfold mm_wp
  by_cases h : cut 23 = true
  · rw [if_pos h, if_pos h]
  · rw [if_neg h, if_neg h]; rfl
theorem wl_74_0 {Sh : List mm_C} {scr : Option (Nat × (Nat → Int32))} {rb : Bool} {Cs : Nat → List Value → mm_M → (Int32 → mm_M → Prop) → (mm_M → Prop) → Prop} {K : Nat → mm_L → List Value → mm_M → Prop} {RI : Int32 → mm_M → Prop} {RV : mm_M → Prop} {cut : Nat → Bool} {n : Nat} {loc : mm_L} {st : List Value} {μ : mm_M} : mm_wp Sh scr rb Cs K RI RV lab_74 cut (n + 1) 0 loc st μ = (if cut 0 = true then K 0 loc st μ else mm_wpB Sh scr rb Cs (mm_wp Sh scr rb Cs K RI RV lab_74 cut n) RI RV [(some (.aload_n 0), 0, 0, [], 0), (some (.iload_n 1), 0, 0, [], 0), (some (.invokevirtual 118), 69, 2, [], 0), (some (.ifCond .eq 33), 38, 0, [], 0), (some (.aload_n 0), 0, 0, [], 0), (some (.iload_n 1), 0, 0, [], 0), (some (.invokevirtual 122), 71, 2, [], 0), (some (.ifCond .eq 25), 38, 0, [], 0), (some (.aload_n 0), 0, 0, [], 0), (some (.getfield 19), 8, 5, [], 0), (some (.iload_n 1), 0, 0, [], 0), (some (.baload), 0, 0, [], 0), (some (.ifCond .ne 16), 38, 0, [], 0), (some (.aload_n 0), 0, 0, [], 0), (some (.getfield 114), 8, 7, [], 0), (some (.aload_n 0), 0, 0, [], 0), (some (.getfield 13), 8, 3, [], 0), (some (.iload_n 1), 0, 0, [], 0), (some (.iaload), 0, 0, [], 0), (some (.if_icmp .ge 5), 40, 0, [], 0), (none, 38, 0, [], 0)] loc st μ) := by
  unfold mm_wp
  by_cases h : cut 0 = true
  · rw [if_pos h, if_pos h]
  · rw [if_neg h, if_neg h]; rfl
theorem wl_74_38 {Sh : List mm_C} {scr : Option (Nat × (Nat → Int32))} {rb : Bool} {Cs : Nat → List Value → mm_M → (Int32 → mm_M → Prop) → (mm_M → Prop) → Prop} {K : Nat → mm_L → List Value → mm_M → Prop} {RI : Int32 → mm_M → Prop} {RV : mm_M → Prop} {cut : Nat → Bool} {n : Nat} {loc : mm_L} {st : List Value} {μ : mm_M} : mm_wp Sh scr rb Cs K RI RV lab_74 cut (n + 1) 38 loc st μ = (if cut 38 = true then K 38 loc st μ else mm_wpB Sh scr rb Cs (mm_wp Sh scr rb Cs K RI RV lab_74 cut n) RI RV [(some (.iconst 0), 0, 0, [], 0), (some (.ireturn), 0, 0, [], 0)] loc st μ) := by
  unfold mm_wp
  by_cases h : cut 38 = true
  · rw [if_pos h, if_pos h]
  · rw [if_neg h, if_neg h]; rfl
theorem wl_74_40 {Sh : List mm_C} {scr : Option (Nat × (Nat → Int32))} {rb : Bool} {Cs : Nat → List Value → mm_M → (Int32 → mm_M → Prop) → (mm_M → Prop) → Prop} {K : Nat → mm_L → List Value → mm_M → Prop} {RI : Int32 → mm_M → Prop} {RV : mm_M → Prop} {cut : Nat → Bool} {n : Nat} {loc : mm_L} {st : List Value} {μ : mm_M} : mm_wp Sh scr rb Cs K RI RV lab_74 cut (n + 1) 40 loc st μ = (if cut 40 = true then K 40 loc st μ else mm_wpB Sh scr rb Cs (mm_wp Sh scr rb Cs K RI RV lab_74 cut n) RI RV [(some (.aload_n 0), 0, 0, [], 0), (some (.dup), 0, 0, [], 0), (some (.getfield 114), 8, 7, [], 0), (some (.aload_n 0), 0, 0, [], 0), (some (.getfield 13), 8, 3, [], 0), (some (.iload_n 1), 0, 0, [], 0), (some (.iaload), 0, 0, [], 0), (some (.isub), 0, 0, [], 0), (some (.putfield 114), 8, 7, [], 0), (some (.aload_n 0), 0, 0, [], 0), (some (.getfield 19), 8, 5, [], 0), (some (.iload_n 1), 0, 0, [], 0), (some (.iconst 1), 0, 0, [], 1), (some (.bastore), 0, 0, [], 0), (some (.iconst 1), 0, 0, [], 1), (some (.ireturn), 0, 0, [], 0)] loc st μ) := by
  unfold mm_wp
  by_cases h : cut 40 = true
  · rw [if_pos h, if_pos h]
  · rw [if_neg h, if_neg h]; rfl
theorem wl_75_0 {Sh : List mm_C} {scr : Option (Nat × (Nat → Int32))} {rb : Bool} {Cs : Nat → List Value → mm_M → (Int32 → mm_M → Prop) → (mm_M → Prop) → Prop} {K : Nat → mm_L → List Value → mm_M → Prop} {RI : Int32 → mm_M → Prop} {RV : mm_M → Prop} {cut : Nat → Bool} {n : Nat} {loc : mm_L} {st : List Value} {μ : mm_M} : mm_wp Sh scr rb Cs K RI RV lab_75 cut (n + 1) 0 loc st μ = (if cut 0 = true then K 0 loc st μ else mm_wpB Sh scr rb Cs (mm_wp Sh scr rb Cs K RI RV lab_75 cut n) RI RV [(some (.iload_n 0), 0, 0, [], 0), (some (.iconst 0), 0, 0, [], 0), (some (.iconst 3), 0, 0, [], 3), (some (.invokestatic 102), 68, 3, [], 0), (some (.ireturn), 0, 0, [], 0)] loc st μ) := by
  unfold mm_wp
  by_cases h : cut 0 = true
  · rw [if_pos h, if_pos h]
  · rw [if_neg h, if_neg h]; rfl
theorem wl_76_0 {Sh : List mm_C} {scr : Option (Nat × (Nat → Int32))} {rb : Bool} {Cs : Nat → List Value → mm_M → (Int32 → mm_M → Prop) → (mm_M → Prop) → Prop} {K : Nat → mm_L → List Value → mm_M → Prop} {RI : Int32 → mm_M → Prop} {RV : mm_M → Prop} {cut : Nat → Bool} {n : Nat} {loc : mm_L} {st : List Value} {μ : mm_M} : mm_wp Sh scr rb Cs K RI RV lab_76 cut (n + 1) 0 loc st μ = (if cut 0 = true then K 0 loc st μ else mm_wpB Sh scr rb Cs (mm_wp Sh scr rb Cs K RI RV lab_76 cut n) RI RV [(some (.iload_n 1), 0, 0, [], 0), (some (.invokestatic 125), 75, 1, [], 0), (some (.ifCond .eq 73), 77, 0, [], 0), (some (.aload_n 0), 0, 0, [], 0), (some (.getfield 29), 8, 9, [], 0), (some (.iload_n 1), 0, 0, [], 0), (some (.iaload), 0, 0, [], 0), (some (.ifCond .gt 64), 77, 0, [], 0), (some (.iload_n 2), 0, 0, [], 0), (some (.ifCond .lt 60), 77, 0, [], 0), (some (.iload_n 2), 0, 0, [], 0), (some (.sipush 1000), 0, 0, [], 1000), (some (.idiv), 0, 0, [], 0), (some (.iconst 1), 0, 0, [], 1), (some (.bipush 7), 0, 0, [], 7), (some (.invokestatic 102), 68, 3, [], 0), (some (.ifCond .eq 46), 77, 0, [], 0), (some (.iload_n 2), 0, 0, [], 0), (some (.bipush 100), 0, 0, [], 100), (some (.idiv), 0, 0, [], 0), (some (.bipush 10), 0, 0, [], 10), (some (.irem), 0, 0, [], 0), (some (.iconst 1), 0, 0, [], 1), (some (.if_icmp .gt 35), 77, 0, [], 0), (some (.iload_n 2), 0, 0, [], 0), (some (.bipush 10), 0, 0, [], 10), (some (.idiv), 0, 0, [], 0), (some (.bipush 10), 0, 0, [], 10), (some (.irem), 0, 0, [], 0), (some (.ifCond .eq 25), 77, 0, [], 0), (some (.iload_n 2), 0, 0, [], 0), (some (.bipush 10), 0, 0, [], 10), (some (.irem), 0, 0, [], 0), (some (.iconst 1), 0, 0, [], 1), (some (.iconst 5), 0, 0, [], 5), (some (.invokestatic 102), 68, 3, [], 0), (some (.ifCond .eq 13), 77, 0, [], 0), (some (.iload_n 3), 0, 0, [], 0), (some (.iconst 1), 0, 0, [], 1), (some (.bipush 99), 0, 0, [], 99), (some (.invokestatic 102), 68, 3, [], 0), (some (.ifCond .ne 5), 79, 0, [], 0), (none, 77, 0, [], 0)] loc st μ) := by
  unfold mm_wp
  by_cases h : cut 0 = true
  · rw [if_pos h, if_pos h]
  · rw [if_neg h, if_neg h]; rfl
theorem wl_76_77 {Sh : List mm_C} {scr : Option (Nat × (Nat → Int32))} {rb : Bool} {Cs : Nat → List Value → mm_M → (Int32 → mm_M → Prop) → (mm_M → Prop) → Prop} {K : Nat → mm_L → List Value → mm_M → Prop} {RI : Int32 → mm_M → Prop} {RV : mm_M → Prop} {cut : Nat → Bool} {n : Nat} {loc : mm_L} {st : List Value} {μ : mm_M} : mm_wp Sh scr rb Cs K RI RV lab_76 cut (n + 1) 77 loc st μ = (if cut 77 = true then K 77 loc st μ else mm_wpB Sh scr rb Cs (mm_wp Sh scr rb Cs K RI RV lab_76 cut n) RI RV [(some (.iconst 0), 0, 0, [], 0), (some (.ireturn), 0, 0, [], 0)] loc st μ) := by
  unfold mm_wp
  by_cases h : cut 77 = true
  · rw [if_pos h, if_pos h]
  · rw [if_neg h, if_neg h]; rfl
theorem wl_76_79 {Sh : List mm_C} {scr : Option (Nat × (Nat → Int32))} {rb : Bool} {Cs : Nat → List Value → mm_M → (Int32 → mm_M → Prop) → (mm_M → Prop) → Prop} {K : Nat → mm_L → List Value → mm_M → Prop} {RI : Int32 → mm_M → Prop} {RV : mm_M → Prop} {cut : Nat → Bool} {n : Nat} {loc : mm_L} {st : List Value} {μ : mm_M} : mm_wp Sh scr rb Cs K RI RV lab_76 cut (n + 1) 79 loc st μ = (if cut 79 = true then K 79 loc st μ else mm_wpB Sh scr rb Cs (mm_wp Sh scr rb Cs K RI RV lab_76 cut n) RI RV [(some (.aload_n 0), 0, 0, [], 0), (some (.getfield 26), 8, 8, [], 0), (some (.iload_n 1), 0, 0, [], 0), (some (.iload_n 2), 0, 0, [], 0), (some (.iastore), 0, 0, [], 0), (some (.aload_n 0), 0, 0, [], 0), (some (.getfield 29), 8, 9, [], 0), (some (.iload_n 1), 0, 0, [], 0), (some (.iload_n 3), 0, 0, [], 0), (some (.iastore), 0, 0, [], 0), (some (.iconst 1), 0, 0, [], 1), (some (.ireturn), 0, 0, [], 0)] loc st μ) := by
  unfold mm_wp
  by_cases h : cut 79 = true
  · rw [if_pos h, if_pos h]
  · rw [if_neg h, if_neg h]; rfl
theorem wl_77_0 {Sh : List mm_C} {scr : Option (Nat × (Nat → Int32))} {rb : Bool} {Cs : Nat → List Value → mm_M → (Int32 → mm_M → Prop) → (mm_M → Prop) → Prop} {K : Nat → mm_L → List Value → mm_M → Prop} {RI : Int32 → mm_M → Prop} {RV : mm_M → Prop} {cut : Nat → Bool} {n : Nat} {loc : mm_L} {st : List Value} {μ : mm_M} : mm_wp Sh scr rb Cs K RI RV lab_77 cut (n + 1) 0 loc st μ = (if cut 0 = true then K 0 loc st μ else mm_wpB Sh scr rb Cs (mm_wp Sh scr rb Cs K RI RV lab_77 cut n) RI RV [(some (.iload_n 1), 0, 0, [], 0), (some (.invokestatic 125), 75, 1, [], 0), (some (.ifCond .eq 16), 20, 0, [], 0), (some (.aload_n 0), 0, 0, [], 0), (some (.getfield 29), 8, 9, [], 0), (some (.iload_n 1), 0, 0, [], 0), (some (.iaload), 0, 0, [], 0), (some (.ifCond .le 7), 20, 0, [], 0), (some (.iconst 1), 0, 0, [], 1), (some (.goto 4), 21, 0, [], 0)] loc st μ) := by
  unfold mm_wp
  by_cases h : cut 0 = true
  · rw [if_pos h, if_pos h]
  · rw [if_neg h, if_neg h]; rfl
theorem wl_77_20 {Sh : List mm_C} {scr : Option (Nat × (Nat → Int32))} {rb : Bool} {Cs : Nat → List Value → mm_M → (Int32 → mm_M → Prop) → (mm_M → Prop) → Prop} {K : Nat → mm_L → List Value → mm_M → Prop} {RI : Int32 → mm_M → Prop} {RV : mm_M → Prop} {cut : Nat → Bool} {n : Nat} {loc : mm_L} {st : List Value} {μ : mm_M} : mm_wp Sh scr rb Cs K RI RV lab_77 cut (n + 1) 20 loc st μ = (if cut 20 = true then K 20 loc st μ else mm_wpB Sh scr rb Cs (mm_wp Sh scr rb Cs K RI RV lab_77 cut n) RI RV [(some (.iconst 0), 0, 0, [], 0), (none, 21, 0, [], 0)] loc st μ) := by
  unfold mm_wp
  by_cases h : cut 20 = true
  · rw [if_pos h, if_pos h]
  · rw [if_neg h, if_neg h]; rfl
theorem wl_77_21 {Sh : List mm_C} {scr : Option (Nat × (Nat → Int32))} {rb : Bool} {Cs : Nat → List Value → mm_M → (Int32 → mm_M → Prop) → (mm_M → Prop) → Prop} {K : Nat → mm_L → List Value → mm_M → Prop} {RI : Int32 → mm_M → Prop} {RV : mm_M → Prop} {cut : Nat → Bool} {n : Nat} {loc : mm_L} {st : List Value} {μ : mm_M} : mm_wp Sh scr rb Cs K RI RV lab_77 cut (n + 1) 21 loc st μ = (if cut 21 = true then K 21 loc st μ else mm_wpB Sh scr rb Cs (mm_wp Sh scr rb Cs K RI RV lab_77 cut n) RI RV [(some (.ireturn), 0, 0, [], 0)] loc st μ) := by
  unfold mm_wp
  by_cases h : cut 21 = true
  · rw [if_pos h, if_pos h]
  · rw [if_neg h, if_neg h]; rfl
theorem wl_78_0 {Sh : List mm_C} {scr : Option (Nat × (Nat → Int32))} {rb : Bool} {Cs : Nat → List Value → mm_M → (Int32 → mm_M → Prop) → (mm_M → Prop) → Prop} {K : Nat → mm_L → List Value → mm_M → Prop} {RI : Int32 → mm_M → Prop} {RV : mm_M → Prop} {cut : Nat → Bool} {n : Nat} {loc : mm_L} {st : List Value} {μ : mm_M} : mm_wp Sh scr rb Cs K RI RV lab_78 cut (n + 1) 0 loc st μ = (if cut 0 = true then K 0 loc st μ else mm_wpB Sh scr rb Cs (mm_wp Sh scr rb Cs K RI RV lab_78 cut n) RI RV [(some (.aload_n 0), 0, 0, [], 0), (some (.getfield 26), 8, 8, [], 0), (some (.iload_n 1), 0, 0, [], 0), (some (.iaload), 0, 0, [], 0), (some (.sipush 1000), 0, 0, [], 1000), (some (.idiv), 0, 0, [], 0), (some (.iload_n 2), 0, 0, [], 0), (some (.ishr), 0, 0, [], 0), (some (.iconst 1), 0, 0, [], 1), (some (.iand), 0, 0, [], 0), (some (.iconst 1), 0, 0, [], 1), (some (.if_icmp .ne 7), 22, 0, [], 0), (some (.iconst 1), 0, 0, [], 1), (some (.goto 4), 23, 0, [], 0)] loc st μ) := by
  unfold mm_wp
  by_cases h : cut 0 = true
  · rw [if_pos h, if_pos h]
  · rw [if_neg h, if_neg h]; rfl
theorem wl_78_22 {Sh : List mm_C} {scr : Option (Nat × (Nat → Int32))} {rb : Bool} {Cs : Nat → List Value → mm_M → (Int32 → mm_M → Prop) → (mm_M → Prop) → Prop} {K : Nat → mm_L → List Value → mm_M → Prop} {RI : Int32 → mm_M → Prop} {RV : mm_M → Prop} {cut : Nat → Bool} {n : Nat} {loc : mm_L} {st : List Value} {μ : mm_M} : mm_wp Sh scr rb Cs K RI RV lab_78 cut (n + 1) 22 loc st μ = (if cut 22 = true then K 22 loc st μ else mm_wpB Sh scr rb Cs (mm_wp Sh scr rb Cs K RI RV lab_78 cut n) RI RV [(some (.iconst 0), 0, 0, [], 0), (none, 23, 0, [], 0)] loc st μ) := by
  unfold mm_wp
  by_cases h : cut 22 = true
  · rw [if_pos h, if_pos h]
  · rw [if_neg h, if_neg h]; rfl
theorem wl_78_23 {Sh : List mm_C} {scr : Option (Nat × (Nat → Int32))} {rb : Bool} {Cs : Nat → List Value → mm_M → (Int32 → mm_M → Prop) → (mm_M → Prop) → Prop} {K : Nat → mm_L → List Value → mm_M → Prop} {RI : Int32 → mm_M → Prop} {RV : mm_M → Prop} {cut : Nat → Bool} {n : Nat} {loc : mm_L} {st : List Value} {μ : mm_M} : mm_wp Sh scr rb Cs K RI RV lab_78 cut (n + 1) 23 loc st μ = (if cut 23 = true then K 23 loc st μ else mm_wpB Sh scr rb Cs (mm_wp Sh scr rb Cs K RI RV lab_78 cut n) RI RV [(some (.ireturn), 0, 0, [], 0)] loc st μ) := by
  unfold mm_wp
  by_cases h : cut 23 = true
  · rw [if_pos h, if_pos h]
  · rw [if_neg h, if_neg h]; rfl
theorem wl_79_0 {Sh : List mm_C} {scr : Option (Nat × (Nat → Int32))} {rb : Bool} {Cs : Nat → List Value → mm_M → (Int32 → mm_M → Prop) → (mm_M → Prop) → Prop} {K : Nat → mm_L → List Value → mm_M → Prop} {RI : Int32 → mm_M → Prop} {RV : mm_M → Prop} {cut : Nat → Bool} {n : Nat} {loc : mm_L} {st : List Value} {μ : mm_M} : mm_wp Sh scr rb Cs K RI RV lab_79 cut (n + 1) 0 loc st μ = (if cut 0 = true then K 0 loc st μ else mm_wpB Sh scr rb Cs (mm_wp Sh scr rb Cs K RI RV lab_79 cut n) RI RV [(some (.aload_n 0), 0, 0, [], 0), (some (.getfield 26), 8, 8, [], 0), (some (.iload_n 1), 0, 0, [], 0), (some (.iaload), 0, 0, [], 0), (some (.bipush 10), 0, 0, [], 10), (some (.idiv), 0, 0, [], 0), (some (.bipush 10), 0, 0, [], 10), (some (.irem), 0, 0, [], 0), (some (.ireturn), 0, 0, [], 0)] loc st μ) := by
  unfold mm_wp
  by_cases h : cut 0 = true
  · rw [if_pos h, if_pos h]
  · rw [if_neg h, if_neg h]; rfl
theorem wl_80_0 {Sh : List mm_C} {scr : Option (Nat × (Nat → Int32))} {rb : Bool} {Cs : Nat → List Value → mm_M → (Int32 → mm_M → Prop) → (mm_M → Prop) → Prop} {K : Nat → mm_L → List Value → mm_M → Prop} {RI : Int32 → mm_M → Prop} {RV : mm_M → Prop} {cut : Nat → Bool} {n : Nat} {loc : mm_L} {st : List Value} {μ : mm_M} : mm_wp Sh scr rb Cs K RI RV lab_80 cut (n + 1) 0 loc st μ = (if cut 0 = true then K 0 loc st μ else mm_wpB Sh scr rb Cs (mm_wp Sh scr rb Cs K RI RV lab_80 cut n) RI RV [(some (.aload_n 0), 0, 0, [], 0), (some (.getfield 26), 8, 8, [], 0), (some (.iload_n 1), 0, 0, [], 0), (some (.iaload), 0, 0, [], 0), (some (.bipush 100), 0, 0, [], 100), (some (.idiv), 0, 0, [], 0), (some (.bipush 10), 0, 0, [], 10), (some (.irem), 0, 0, [], 0), (some (.ireturn), 0, 0, [], 0)] loc st μ) := by
  unfold mm_wp
  by_cases h : cut 0 = true
  · rw [if_pos h, if_pos h]
  · rw [if_neg h, if_neg h]; rfl
theorem wl_81_0 {Sh : List mm_C} {scr : Option (Nat × (Nat → Int32))} {rb : Bool} {Cs : Nat → List Value → mm_M → (Int32 → mm_M → Prop) → (mm_M → Prop) → Prop} {K : Nat → mm_L → List Value → mm_M → Prop} {RI : Int32 → mm_M → Prop} {RV : mm_M → Prop} {cut : Nat → Bool} {n : Nat} {loc : mm_L} {st : List Value} {μ : mm_M} : mm_wp Sh scr rb Cs K RI RV lab_81 cut (n + 1) 0 loc st μ = (if cut 0 = true then K 0 loc st μ else mm_wpB Sh scr rb Cs (mm_wp Sh scr rb Cs K RI RV lab_81 cut n) RI RV [(some (.iload_n 1), 0, 0, [], 0), (some (.iconst 0), 0, 0, [], 0), (some (.iconst 1), 0, 0, [], 1), (some (.invokestatic 102), 68, 3, [], 0), (some (.ifCond .eq 27), 33, 0, [], 0), (some (.iload_n 2), 0, 0, [], 0), (some (.iconst 1), 0, 0, [], 1), (some (.sipush 10000), 0, 0, [], 10000), (some (.invokestatic 102), 68, 3, [], 0), (some (.ifCond .eq 16), 33, 0, [], 0), (some (.aload_n 0), 0, 0, [], 0), (some (.getfield 32), 8, 10, [], 0), (some (.iload_n 1), 0, 0, [], 0), (some (.iaload), 0, 0, [], 0), (some (.iload_n 2), 0, 0, [], 0), (some (.iadd), 0, 0, [], 0), (some (.ldc 113), 0, 0, [], 100000), (some (.if_icmp .le 5), 35, 0, [], 0), (none, 33, 0, [], 0)] loc st μ) := by
  unfold mm_wp
  by_cases h : cut 0 = true
  · rw [if_pos h, if_pos h]
  · rw [if_neg h, if_neg h]; rfl
theorem wl_81_33 {Sh : List mm_C} {scr : Option (Nat × (Nat → Int32))} {rb : Bool} {Cs : Nat → List Value → mm_M → (Int32 → mm_M → Prop) → (mm_M → Prop) → Prop} {K : Nat → mm_L → List Value → mm_M → Prop} {RI : Int32 → mm_M → Prop} {RV : mm_M → Prop} {cut : Nat → Bool} {n : Nat} {loc : mm_L} {st : List Value} {μ : mm_M} : mm_wp Sh scr rb Cs K RI RV lab_81 cut (n + 1) 33 loc st μ = (if cut 33 = true then K 33 loc st μ else mm_wpB Sh scr rb Cs (mm_wp Sh scr rb Cs K RI RV lab_81 cut n) RI RV [(some (.iconst (-1)), 0, 0, [], (-1)), (some (.ireturn), 0, 0, [], 0)] loc st μ) := by
  unfold mm_wp
  by_cases h : cut 33 = true
  · rw [if_pos h, if_pos h]
  · rw [if_neg h, if_neg h]; rfl
theorem wl_81_35 {Sh : List mm_C} {scr : Option (Nat × (Nat → Int32))} {rb : Bool} {Cs : Nat → List Value → mm_M → (Int32 → mm_M → Prop) → (mm_M → Prop) → Prop} {K : Nat → mm_L → List Value → mm_M → Prop} {RI : Int32 → mm_M → Prop} {RV : mm_M → Prop} {cut : Nat → Bool} {n : Nat} {loc : mm_L} {st : List Value} {μ : mm_M} : mm_wp Sh scr rb Cs K RI RV lab_81 cut (n + 1) 35 loc st μ = (if cut 35 = true then K 35 loc st μ else mm_wpB Sh scr rb Cs (mm_wp Sh scr rb Cs K RI RV lab_81 cut n) RI RV [(some (.aload_n 0), 0, 0, [], 0), (some (.getfield 32), 8, 10, [], 0), (some (.iload_n 1), 0, 0, [], 0), (some (.dup2), 0, 0, [], 0), (some (.iaload), 0, 0, [], 0), (some (.iload_n 2), 0, 0, [], 0), (some (.iadd), 0, 0, [], 0), (some (.iastore), 0, 0, [], 0), (some (.aload_n 0), 0, 0, [], 0), (some (.getfield 32), 8, 10, [], 0), (some (.iload_n 1), 0, 0, [], 0), (some (.iaload), 0, 0, [], 0), (some (.ireturn), 0, 0, [], 0)] loc st μ) := by
  unfold mm_wp
  by_cases h : cut 35 = true
  · rw [if_pos h, if_pos h]
  · rw [if_neg h, if_neg h]; rfl
theorem wl_82_0 {Sh : List mm_C} {scr : Option (Nat × (Nat → Int32))} {rb : Bool} {Cs : Nat → List Value → mm_M → (Int32 → mm_M → Prop) → (mm_M → Prop) → Prop} {K : Nat → mm_L → List Value → mm_M → Prop} {RI : Int32 → mm_M → Prop} {RV : mm_M → Prop} {cut : Nat → Bool} {n : Nat} {loc : mm_L} {st : List Value} {μ : mm_M} : mm_wp Sh scr rb Cs K RI RV lab_82 cut (n + 1) 0 loc st μ = (if cut 0 = true then K 0 loc st μ else mm_wpB Sh scr rb Cs (mm_wp Sh scr rb Cs K RI RV lab_82 cut n) RI RV [(some (.iload_n 1), 0, 0, [], 0), (some (.iconst 0), 0, 0, [], 0), (some (.iconst 2), 0, 0, [], 2), (some (.invokestatic 102), 68, 3, [], 0), (some (.ifCond .eq 19), 25, 0, [], 0), (some (.aload_n 0), 0, 0, [], 0), (some (.getfield 106), 8, 0, [], 0), (some (.aload_n 0), 0, 0, [], 0), (some (.getfield 35), 8, 11, [], 0), (some (.iload_n 1), 0, 0, [], 0), (some (.iaload), 0, 0, [], 0), (some (.bipush 8), 0, 0, [], 8), (some (.iadd), 0, 0, [], 0), (some (.if_icmp .ge 5), 27, 0, [], 0), (none, 25, 0, [], 0)] loc st μ) := by
  unfold mm_wp
  by_cases h : cut 0 = true
  · rw [if_pos h, if_pos h]
  · rw [if_neg h, if_neg h]; rfl
theorem wl_82_25 {Sh : List mm_C} {scr : Option (Nat × (Nat → Int32))} {rb : Bool} {Cs : Nat → List Value → mm_M → (Int32 → mm_M → Prop) → (mm_M → Prop) → Prop} {K : Nat → mm_L → List Value → mm_M → Prop} {RI : Int32 → mm_M → Prop} {RV : mm_M → Prop} {cut : Nat → Bool} {n : Nat} {loc : mm_L} {st : List Value} {μ : mm_M} : mm_wp Sh scr rb Cs K RI RV lab_82 cut (n + 1) 25 loc st μ = (if cut 25 = true then K 25 loc st μ else mm_wpB Sh scr rb Cs (mm_wp Sh scr rb Cs K RI RV lab_82 cut n) RI RV [(some (.iconst (-1)), 0, 0, [], (-1)), (some (.ireturn), 0, 0, [], 0)] loc st μ) := by
  unfold mm_wp
  by_cases h : cut 25 = true
  · rw [if_pos h, if_pos h]
  · rw [if_neg h, if_neg h]; rfl
theorem wl_82_27 {Sh : List mm_C} {scr : Option (Nat × (Nat → Int32))} {rb : Bool} {Cs : Nat → List Value → mm_M → (Int32 → mm_M → Prop) → (mm_M → Prop) → Prop} {K : Nat → mm_L → List Value → mm_M → Prop} {RI : Int32 → mm_M → Prop} {RV : mm_M → Prop} {cut : Nat → Bool} {n : Nat} {loc : mm_L} {st : List Value} {μ : mm_M} : mm_wp Sh scr rb Cs K RI RV lab_82 cut (n + 1) 27 loc st μ = (if cut 27 = true then K 27 loc st μ else mm_wpB Sh scr rb Cs (mm_wp Sh scr rb Cs K RI RV lab_82 cut n) RI RV [(some (.aload_n 0), 0, 0, [], 0), (some (.getfield 35), 8, 11, [], 0), (some (.iload_n 1), 0, 0, [], 0), (some (.aload_n 0), 0, 0, [], 0), (some (.getfield 106), 8, 0, [], 0), (some (.iconst 3), 0, 0, [], 3), (some (.iadd), 0, 0, [], 0), (some (.iastore), 0, 0, [], 0), (some (.aload_n 0), 0, 0, [], 0), (some (.getfield 35), 8, 11, [], 0), (some (.iload_n 1), 0, 0, [], 0), (some (.iaload), 0, 0, [], 0), (some (.ireturn), 0, 0, [], 0)] loc st μ) := by
  unfold mm_wp
  by_cases h : cut 27 = true
  · rw [if_pos h, if_pos h]
  · rw [if_neg h, if_neg h]; rfl
theorem wl_83_0 {Sh : List mm_C} {scr : Option (Nat × (Nat → Int32))} {rb : Bool} {Cs : Nat → List Value → mm_M → (Int32 → mm_M → Prop) → (mm_M → Prop) → Prop} {K : Nat → mm_L → List Value → mm_M → Prop} {RI : Int32 → mm_M → Prop} {RV : mm_M → Prop} {cut : Nat → Bool} {n : Nat} {loc : mm_L} {st : List Value} {μ : mm_M} : mm_wp Sh scr rb Cs K RI RV lab_83 cut (n + 1) 0 loc st μ = (if cut 0 = true then K 0 loc st μ else mm_wpB Sh scr rb Cs (mm_wp Sh scr rb Cs K RI RV lab_83 cut n) RI RV [(some (.iconst 0), 0, 0, [], 0), (some (.istore_n 1), 0, 0, [], 0), (some (.iconst 0), 0, 0, [], 0), (some (.istore_n 2), 0, 0, [], 0), (none, 4, 0, [], 0)] loc st μ) := by
  unfold mm_wp
  by_cases h : cut 0 = true
  · rw [if_pos h, if_pos h]
  · rw [if_neg h, if_neg h]; rfl
theorem wl_83_4 {Sh : List mm_C} {scr : Option (Nat × (Nat → Int32))} {rb : Bool} {Cs : Nat → List Value → mm_M → (Int32 → mm_M → Prop) → (mm_M → Prop) → Prop} {K : Nat → mm_L → List Value → mm_M → Prop} {RI : Int32 → mm_M → Prop} {RV : mm_M → Prop} {cut : Nat → Bool} {n : Nat} {loc : mm_L} {st : List Value} {μ : mm_M} : mm_wp Sh scr rb Cs K RI RV lab_83 cut (n + 1) 4 loc st μ = (if cut 4 = true then K 4 loc st μ else mm_wpB Sh scr rb Cs (mm_wp Sh scr rb Cs K RI RV lab_83 cut n) RI RV [(some (.iload_n 2), 0, 0, [], 0), (some (.iconst 3), 0, 0, [], 3), (some (.if_icmp .ge 42), 48, 0, [], 0), (some (.iload_n 1), 0, 0, [], 0), (some (.aload_n 0), 0, 0, [], 0), (some (.getfield 106), 8, 0, [], 0), (some (.aload_n 0), 0, 0, [], 0), (some (.getfield 35), 8, 11, [], 0), (some (.iload_n 2), 0, 0, [], 0), (some (.iaload), 0, 0, [], 0), (some (.aload_n 0), 0, 0, [], 0), (some (.getfield 35), 8, 11, [], 0), (some (.iload_n 2), 0, 0, [], 0), (some (.iaload), 0, 0, [], 0), (some (.bipush 7), 0, 0, [], 7), (some (.iadd), 0, 0, [], 0), (some (.invokestatic 102), 68, 3, [], 0), (some (.ifCond .eq 7), 39, 0, [], 0), (some (.iconst 1), 0, 0, [], 1), (some (.goto 4), 40, 0, [], 0)] loc st μ) := by
  unfold mm_wp
  by_cases h : cut 4 = true
  · rw [if_pos h, if_pos h]
  · rw [if_neg h, if_neg h]; rfl
theorem wl_83_39 {Sh : List mm_C} {scr : Option (Nat × (Nat → Int32))} {rb : Bool} {Cs : Nat → List Value → mm_M → (Int32 → mm_M → Prop) → (mm_M → Prop) → Prop} {K : Nat → mm_L → List Value → mm_M → Prop} {RI : Int32 → mm_M → Prop} {RV : mm_M → Prop} {cut : Nat → Bool} {n : Nat} {loc : mm_L} {st : List Value} {μ : mm_M} : mm_wp Sh scr rb Cs K RI RV lab_83 cut (n + 1) 39 loc st μ = (if cut 39 = true then K 39 loc st μ else mm_wpB Sh scr rb Cs (mm_wp Sh scr rb Cs K RI RV lab_83 cut n) RI RV [(some (.iconst 0), 0, 0, [], 0), (none, 40, 0, [], 0)] loc st μ) := by
  unfold mm_wp
  by_cases h : cut 39 = true
  · rw [if_pos h, if_pos h]
  · rw [if_neg h, if_neg h]; rfl
theorem wl_83_40 {Sh : List mm_C} {scr : Option (Nat × (Nat → Int32))} {rb : Bool} {Cs : Nat → List Value → mm_M → (Int32 → mm_M → Prop) → (mm_M → Prop) → Prop} {K : Nat → mm_L → List Value → mm_M → Prop} {RI : Int32 → mm_M → Prop} {RV : mm_M → Prop} {cut : Nat → Bool} {n : Nat} {loc : mm_L} {st : List Value} {μ : mm_M} : mm_wp Sh scr rb Cs K RI RV lab_83 cut (n + 1) 40 loc st μ = (if cut 40 = true then K 40 loc st μ else mm_wpB Sh scr rb Cs (mm_wp Sh scr rb Cs K RI RV lab_83 cut n) RI RV [(some (.iadd), 0, 0, [], 0), (some (.istore_n 1), 0, 0, [], 0), (some (.iinc 2 1), 0, 0, [], 1), (some (.goto (-41)), 4, 0, [], 0)] loc st μ) := by
  unfold mm_wp
  by_cases h : cut 40 = true
  · rw [if_pos h, if_pos h]
  · rw [if_neg h, if_neg h]; rfl
theorem wl_83_48 {Sh : List mm_C} {scr : Option (Nat × (Nat → Int32))} {rb : Bool} {Cs : Nat → List Value → mm_M → (Int32 → mm_M → Prop) → (mm_M → Prop) → Prop} {K : Nat → mm_L → List Value → mm_M → Prop} {RI : Int32 → mm_M → Prop} {RV : mm_M → Prop} {cut : Nat → Bool} {n : Nat} {loc : mm_L} {st : List Value} {μ : mm_M} : mm_wp Sh scr rb Cs K RI RV lab_83 cut (n + 1) 48 loc st μ = (if cut 48 = true then K 48 loc st μ else mm_wpB Sh scr rb Cs (mm_wp Sh scr rb Cs K RI RV lab_83 cut n) RI RV [(some (.iload_n 1), 0, 0, [], 0), (some (.ireturn), 0, 0, [], 0)] loc st μ) := by
  unfold mm_wp
  by_cases h : cut 48 = true
  · rw [if_pos h, if_pos h]
  · rw [if_neg h, if_neg h]; rfl
theorem wl_84_0 {Sh : List mm_C} {scr : Option (Nat × (Nat → Int32))} {rb : Bool} {Cs : Nat → List Value → mm_M → (Int32 → mm_M → Prop) → (mm_M → Prop) → Prop} {K : Nat → mm_L → List Value → mm_M → Prop} {RI : Int32 → mm_M → Prop} {RV : mm_M → Prop} {cut : Nat → Bool} {n : Nat} {loc : mm_L} {st : List Value} {μ : mm_M} : mm_wp Sh scr rb Cs K RI RV lab_84 cut (n + 1) 0 loc st μ = (if cut 0 = true then K 0 loc st μ else mm_wpB Sh scr rb Cs (mm_wp Sh scr rb Cs K RI RV lab_84 cut n) RI RV [(some (.iconst 0), 0, 0, [], 0), (some (.istore_n 1), 0, 0, [], 0), (some (.iconst 0), 0, 0, [], 0), (some (.istore_n 2), 0, 0, [], 0), (none, 4, 0, [], 0)] loc st μ) := by
  unfold mm_wp
  by_cases h : cut 0 = true
  · rw [if_pos h, if_pos h]
  · rw [if_neg h, if_neg h]; rfl
theorem wl_84_4 {Sh : List mm_C} {scr : Option (Nat × (Nat → Int32))} {rb : Bool} {Cs : Nat → List Value → mm_M → (Int32 → mm_M → Prop) → (mm_M → Prop) → Prop} {K : Nat → mm_L → List Value → mm_M → Prop} {RI : Int32 → mm_M → Prop} {RV : mm_M → Prop} {cut : Nat → Bool} {n : Nat} {loc : mm_L} {st : List Value} {μ : mm_M} : mm_wp Sh scr rb Cs K RI RV lab_84 cut (n + 1) 4 loc st μ = (if cut 4 = true then K 4 loc st μ else mm_wpB Sh scr rb Cs (mm_wp Sh scr rb Cs K RI RV lab_84 cut n) RI RV [(some (.iload_n 2), 0, 0, [], 0), (some (.iconst 3), 0, 0, [], 3), (some (.if_icmp .ge 27), 33, 0, [], 0), (some (.iload_n 1), 0, 0, [], 0), (some (.aload_n 0), 0, 0, [], 0), (some (.getfield 38), 8, 13, [], 0), (some (.iload_n 2), 0, 0, [], 0), (some (.iaload), 0, 0, [], 0), (some (.iconst (-1)), 0, 0, [], (-1)), (some (.if_icmp .eq 7), 24, 0, [], 0), (some (.iconst 1), 0, 0, [], 1), (some (.goto 4), 25, 0, [], 0)] loc st μ) := by
  unfold mm_wp
  by_cases h : cut 4 = true
  · rw [if_pos h, if_pos h]
  · rw [if_neg h, if_neg h]; rfl
theorem wl_84_24 {Sh : List mm_C} {scr : Option (Nat × (Nat → Int32))} {rb : Bool} {Cs : Nat → List Value → mm_M → (Int32 → mm_M → Prop) → (mm_M → Prop) → Prop} {K : Nat → mm_L → List Value → mm_M → Prop} {RI : Int32 → mm_M → Prop} {RV : mm_M → Prop} {cut : Nat → Bool} {n : Nat} {loc : mm_L} {st : List Value} {μ : mm_M} : mm_wp Sh scr rb Cs K RI RV lab_84 cut (n + 1) 24 loc st μ = (if cut 24 = true then K 24 loc st μ else mm_wpB Sh scr rb Cs (mm_wp Sh scr rb Cs K RI RV lab_84 cut n) RI RV [(some (.iconst 0), 0, 0, [], 0), (none, 25, 0, [], 0)] loc st μ) := by
  unfold mm_wp
  by_cases h : cut 24 = true
  · rw [if_pos h, if_pos h]
  · rw [if_neg h, if_neg h]; rfl
theorem wl_84_25 {Sh : List mm_C} {scr : Option (Nat × (Nat → Int32))} {rb : Bool} {Cs : Nat → List Value → mm_M → (Int32 → mm_M → Prop) → (mm_M → Prop) → Prop} {K : Nat → mm_L → List Value → mm_M → Prop} {RI : Int32 → mm_M → Prop} {RV : mm_M → Prop} {cut : Nat → Bool} {n : Nat} {loc : mm_L} {st : List Value} {μ : mm_M} : mm_wp Sh scr rb Cs K RI RV lab_84 cut (n + 1) 25 loc st μ = (if cut 25 = true then K 25 loc st μ else mm_wpB Sh scr rb Cs (mm_wp Sh scr rb Cs K RI RV lab_84 cut n) RI RV [(some (.iadd), 0, 0, [], 0), (some (.istore_n 1), 0, 0, [], 0), (some (.iinc 2 1), 0, 0, [], 1), (some (.goto (-26)), 4, 0, [], 0)] loc st μ) := by
  unfold mm_wp
  by_cases h : cut 25 = true
  · rw [if_pos h, if_pos h]
  · rw [if_neg h, if_neg h]; rfl
theorem wl_84_33 {Sh : List mm_C} {scr : Option (Nat × (Nat → Int32))} {rb : Bool} {Cs : Nat → List Value → mm_M → (Int32 → mm_M → Prop) → (mm_M → Prop) → Prop} {K : Nat → mm_L → List Value → mm_M → Prop} {RI : Int32 → mm_M → Prop} {RV : mm_M → Prop} {cut : Nat → Bool} {n : Nat} {loc : mm_L} {st : List Value} {μ : mm_M} : mm_wp Sh scr rb Cs K RI RV lab_84 cut (n + 1) 33 loc st μ = (if cut 33 = true then K 33 loc st μ else mm_wpB Sh scr rb Cs (mm_wp Sh scr rb Cs K RI RV lab_84 cut n) RI RV [(some (.iload_n 1), 0, 0, [], 0), (some (.ireturn), 0, 0, [], 0)] loc st μ) := by
  unfold mm_wp
  by_cases h : cut 33 = true
  · rw [if_pos h, if_pos h]
  · rw [if_neg h, if_neg h]; rfl
theorem wl_85_0 {Sh : List mm_C} {scr : Option (Nat × (Nat → Int32))} {rb : Bool} {Cs : Nat → List Value → mm_M → (Int32 → mm_M → Prop) → (mm_M → Prop) → Prop} {K : Nat → mm_L → List Value → mm_M → Prop} {RI : Int32 → mm_M → Prop} {RV : mm_M → Prop} {cut : Nat → Bool} {n : Nat} {loc : mm_L} {st : List Value} {μ : mm_M} : mm_wp Sh scr rb Cs K RI RV lab_85 cut (n + 1) 0 loc st μ = (if cut 0 = true then K 0 loc st μ else mm_wpB Sh scr rb Cs (mm_wp Sh scr rb Cs K RI RV lab_85 cut n) RI RV [(some (.iconst (-1)), 0, 0, [], (-1)), (some (.istore_n 2), 0, 0, [], 0), (some (.iconst 0), 0, 0, [], 0), (some (.istore_n 3), 0, 0, [], 0), (none, 4, 0, [], 0)] loc st μ) := by
  unfold mm_wp
  by_cases h : cut 0 = true
  · rw [if_pos h, if_pos h]
  · rw [if_neg h, if_neg h]; rfl
theorem wl_85_4 {Sh : List mm_C} {scr : Option (Nat × (Nat → Int32))} {rb : Bool} {Cs : Nat → List Value → mm_M → (Int32 → mm_M → Prop) → (mm_M → Prop) → Prop} {K : Nat → mm_L → List Value → mm_M → Prop} {RI : Int32 → mm_M → Prop} {RV : mm_M → Prop} {cut : Nat → Bool} {n : Nat} {loc : mm_L} {st : List Value} {μ : mm_M} : mm_wp Sh scr rb Cs K RI RV lab_85 cut (n + 1) 4 loc st μ = (if cut 4 = true then K 4 loc st μ else mm_wpB Sh scr rb Cs (mm_wp Sh scr rb Cs K RI RV lab_85 cut n) RI RV [(some (.iload_n 3), 0, 0, [], 0), (some (.aload_n 0), 0, 0, [], 0), (some (.getfield 98), 8, 1, [], 0), (some (.if_icmp .ge 62), 71, 0, [], 0), (some (.aload_n 0), 0, 0, [], 0), (some (.iload_n 3), 0, 0, [], 0), (some (.invokevirtual 122), 71, 2, [], 0), (some (.ifCond .eq 48), 65, 0, [], 0), (some (.aload_n 0), 0, 0, [], 0), (some (.getfield 23), 8, 6, [], 0), (some (.iload_n 3), 0, 0, [], 0), (some (.baload), 0, 0, [], 0), (some (.ifCond .ne 39), 65, 0, [], 0), (some (.aload_n 0), 0, 0, [], 0), (some (.iload_n 1), 0, 0, [], 0), (some (.aload_n 0), 0, 0, [], 0), (some (.getfield 9), 8, 2, [], 0), (some (.iload_n 3), 0, 0, [], 0), (some (.iaload), 0, 0, [], 0), (some (.invokevirtual 128), 78, 3, [], 0), (some (.ifCond .eq 25), 65, 0, [], 0), (some (.iload_n 2), 0, 0, [], 0), (some (.iconst (-1)), 0, 0, [], (-1)), (some (.if_icmp .eq 18), 63, 0, [], 0), (some (.aload_n 0), 0, 0, [], 0), (some (.getfield 16), 8, 4, [], 0), (some (.iload_n 3), 0, 0, [], 0), (some (.iaload), 0, 0, [], 0), (some (.aload_n 0), 0, 0, [], 0), (some (.getfield 16), 8, 4, [], 0), (some (.iload_n 2), 0, 0, [], 0), (some (.iaload), 0, 0, [], 0), (some (.if_icmp .ge 5), 65, 0, [], 0), (none, 63, 0, [], 0)] loc st μ) := by
  unfold mm_wp
  by_cases h : cut 4 = true
  · rw [if_pos h, if_pos h]
  · rw [if_neg h, if_neg h]; rfl
theorem wl_85_63 {Sh : List mm_C} {scr : Option (Nat × (Nat → Int32))} {rb : Bool} {Cs : Nat → List Value → mm_M → (Int32 → mm_M → Prop) → (mm_M → Prop) → Prop} {K : Nat → mm_L → List Value → mm_M → Prop} {RI : Int32 → mm_M → Prop} {RV : mm_M → Prop} {cut : Nat → Bool} {n : Nat} {loc : mm_L} {st : List Value} {μ : mm_M} : mm_wp Sh scr rb Cs K RI RV lab_85 cut (n + 1) 63 loc st μ = (if cut 63 = true then K 63 loc st μ else mm_wpB Sh scr rb Cs (mm_wp Sh scr rb Cs K RI RV lab_85 cut n) RI RV [(some (.iload_n 3), 0, 0, [], 0), (some (.istore_n 2), 0, 0, [], 0), (none, 65, 0, [], 0)] loc st μ) := by
  unfold mm_wp
  by_cases h : cut 63 = true
  · rw [if_pos h, if_pos h]
  · rw [if_neg h, if_neg h]; rfl
theorem wl_85_65 {Sh : List mm_C} {scr : Option (Nat × (Nat → Int32))} {rb : Bool} {Cs : Nat → List Value → mm_M → (Int32 → mm_M → Prop) → (mm_M → Prop) → Prop} {K : Nat → mm_L → List Value → mm_M → Prop} {RI : Int32 → mm_M → Prop} {RV : mm_M → Prop} {cut : Nat → Bool} {n : Nat} {loc : mm_L} {st : List Value} {μ : mm_M} : mm_wp Sh scr rb Cs K RI RV lab_85 cut (n + 1) 65 loc st μ = (if cut 65 = true then K 65 loc st μ else mm_wpB Sh scr rb Cs (mm_wp Sh scr rb Cs K RI RV lab_85 cut n) RI RV [(some (.iinc 3 1), 0, 0, [], 1), (some (.goto (-64)), 4, 0, [], 0)] loc st μ) := by
  unfold mm_wp
  by_cases h : cut 65 = true
  · rw [if_pos h, if_pos h]
  · rw [if_neg h, if_neg h]; rfl
theorem wl_85_71 {Sh : List mm_C} {scr : Option (Nat × (Nat → Int32))} {rb : Bool} {Cs : Nat → List Value → mm_M → (Int32 → mm_M → Prop) → (mm_M → Prop) → Prop} {K : Nat → mm_L → List Value → mm_M → Prop} {RI : Int32 → mm_M → Prop} {RV : mm_M → Prop} {cut : Nat → Bool} {n : Nat} {loc : mm_L} {st : List Value} {μ : mm_M} : mm_wp Sh scr rb Cs K RI RV lab_85 cut (n + 1) 71 loc st μ = (if cut 71 = true then K 71 loc st μ else mm_wpB Sh scr rb Cs (mm_wp Sh scr rb Cs K RI RV lab_85 cut n) RI RV [(some (.iload_n 2), 0, 0, [], 0), (some (.ireturn), 0, 0, [], 0)] loc st μ) := by
  unfold mm_wp
  by_cases h : cut 71 = true
  · rw [if_pos h, if_pos h]
  · rw [if_neg h, if_neg h]; rfl
theorem wl_86_0 {Sh : List mm_C} {scr : Option (Nat × (Nat → Int32))} {rb : Bool} {Cs : Nat → List Value → mm_M → (Int32 → mm_M → Prop) → (mm_M → Prop) → Prop} {K : Nat → mm_L → List Value → mm_M → Prop} {RI : Int32 → mm_M → Prop} {RV : mm_M → Prop} {cut : Nat → Bool} {n : Nat} {loc : mm_L} {st : List Value} {μ : mm_M} : mm_wp Sh scr rb Cs K RI RV lab_86 cut (n + 1) 0 loc st μ = (if cut 0 = true then K 0 loc st μ else mm_wpB Sh scr rb Cs (mm_wp Sh scr rb Cs K RI RV lab_86 cut n) RI RV [(some (.iconst 0), 0, 0, [], 0), (some (.istore_n 2), 0, 0, [], 0), (some (.iconst 0), 0, 0, [], 0), (some (.istore_n 3), 0, 0, [], 0), (none, 4, 0, [], 0)] loc st μ) := by
  unfold mm_wp
  by_cases h : cut 0 = true
  · rw [if_pos h, if_pos h]
  · rw [if_neg h, if_neg h]; rfl
theorem wl_86_4 {Sh : List mm_C} {scr : Option (Nat × (Nat → Int32))} {rb : Bool} {Cs : Nat → List Value → mm_M → (Int32 → mm_M → Prop) → (mm_M → Prop) → Prop} {K : Nat → mm_L → List Value → mm_M → Prop} {RI : Int32 → mm_M → Prop} {RV : mm_M → Prop} {cut : Nat → Bool} {n : Nat} {loc : mm_L} {st : List Value} {μ : mm_M} : mm_wp Sh scr rb Cs K RI RV lab_86 cut (n + 1) 4 loc st μ = (if cut 4 = true then K 4 loc st μ else mm_wpB Sh scr rb Cs (mm_wp Sh scr rb Cs K RI RV lab_86 cut n) RI RV [(some (.iload_n 3), 0, 0, [], 0), (some (.aload_n 0), 0, 0, [], 0), (some (.getfield 98), 8, 1, [], 0), (some (.if_icmp .ge 53), 62, 0, [], 0), (some (.iload_n 2), 0, 0, [], 0), (some (.aload_n 0), 0, 0, [], 0), (some (.iload_n 3), 0, 0, [], 0), (some (.invokevirtual 122), 71, 2, [], 0), (some (.ifCond .eq 35), 53, 0, [], 0), (some (.aload_n 0), 0, 0, [], 0), (some (.getfield 23), 8, 6, [], 0), (some (.iload_n 3), 0, 0, [], 0), (some (.baload), 0, 0, [], 0), (some (.ifCond .ne 26), 53, 0, [], 0), (some (.aload_n 0), 0, 0, [], 0), (some (.iload_n 1), 0, 0, [], 0), (some (.aload_n 0), 0, 0, [], 0), (some (.getfield 9), 8, 2, [], 0), (some (.iload_n 3), 0, 0, [], 0), (some (.iaload), 0, 0, [], 0), (some (.invokevirtual 128), 78, 3, [], 0), (some (.ifCond .eq 12), 53, 0, [], 0), (some (.aload_n 0), 0, 0, [], 0), (some (.getfield 13), 8, 3, [], 0), (some (.iload_n 3), 0, 0, [], 0), (some (.iaload), 0, 0, [], 0), (some (.goto 4), 54, 0, [], 0)] loc st μ) := by
  unfold mm_wp
  by_cases h : cut 4 = true
  · rw [if_pos h, if_pos h]
  · rw [if_neg h, if_neg h]; rfl
theorem wl_86_53 {Sh : List mm_C} {scr : Option (Nat × (Nat → Int32))} {rb : Bool} {Cs : Nat → List Value → mm_M → (Int32 → mm_M → Prop) → (mm_M → Prop) → Prop} {K : Nat → mm_L → List Value → mm_M → Prop} {RI : Int32 → mm_M → Prop} {RV : mm_M → Prop} {cut : Nat → Bool} {n : Nat} {loc : mm_L} {st : List Value} {μ : mm_M} : mm_wp Sh scr rb Cs K RI RV lab_86 cut (n + 1) 53 loc st μ = (if cut 53 = true then K 53 loc st μ else mm_wpB Sh scr rb Cs (mm_wp Sh scr rb Cs K RI RV lab_86 cut n) RI RV [(some (.iconst 0), 0, 0, [], 0), (none, 54, 0, [], 0)] loc st μ) := by
  unfold mm_wp
  by_cases h : cut 53 = true
  · rw [if_pos h, if_pos h]
  · rw [if_neg h, if_neg h]; rfl
theorem wl_86_54 {Sh : List mm_C} {scr : Option (Nat × (Nat → Int32))} {rb : Bool} {Cs : Nat → List Value → mm_M → (Int32 → mm_M → Prop) → (mm_M → Prop) → Prop} {K : Nat → mm_L → List Value → mm_M → Prop} {RI : Int32 → mm_M → Prop} {RV : mm_M → Prop} {cut : Nat → Bool} {n : Nat} {loc : mm_L} {st : List Value} {μ : mm_M} : mm_wp Sh scr rb Cs K RI RV lab_86 cut (n + 1) 54 loc st μ = (if cut 54 = true then K 54 loc st μ else mm_wpB Sh scr rb Cs (mm_wp Sh scr rb Cs K RI RV lab_86 cut n) RI RV [(some (.iadd), 0, 0, [], 0), (some (.istore_n 2), 0, 0, [], 0), (some (.iinc 3 1), 0, 0, [], 1), (some (.goto (-55)), 4, 0, [], 0)] loc st μ) := by
  unfold mm_wp
  by_cases h : cut 54 = true
  · rw [if_pos h, if_pos h]
  · rw [if_neg h, if_neg h]; rfl
theorem wl_86_62 {Sh : List mm_C} {scr : Option (Nat × (Nat → Int32))} {rb : Bool} {Cs : Nat → List Value → mm_M → (Int32 → mm_M → Prop) → (mm_M → Prop) → Prop} {K : Nat → mm_L → List Value → mm_M → Prop} {RI : Int32 → mm_M → Prop} {RV : mm_M → Prop} {cut : Nat → Bool} {n : Nat} {loc : mm_L} {st : List Value} {μ : mm_M} : mm_wp Sh scr rb Cs K RI RV lab_86 cut (n + 1) 62 loc st μ = (if cut 62 = true then K 62 loc st μ else mm_wpB Sh scr rb Cs (mm_wp Sh scr rb Cs K RI RV lab_86 cut n) RI RV [(some (.iload_n 2), 0, 0, [], 0), (some (.ireturn), 0, 0, [], 0)] loc st μ) := by
  unfold mm_wp
  by_cases h : cut 62 = true
  · rw [if_pos h, if_pos h]
  · rw [if_neg h, if_neg h]; rfl
theorem wl_87_0 {Sh : List mm_C} {scr : Option (Nat × (Nat → Int32))} {rb : Bool} {Cs : Nat → List Value → mm_M → (Int32 → mm_M → Prop) → (mm_M → Prop) → Prop} {K : Nat → mm_L → List Value → mm_M → Prop} {RI : Int32 → mm_M → Prop} {RV : mm_M → Prop} {cut : Nat → Bool} {n : Nat} {loc : mm_L} {st : List Value} {μ : mm_M} : mm_wp Sh scr rb Cs K RI RV lab_87 cut (n + 1) 0 loc st μ = (if cut 0 = true then K 0 loc st μ else mm_wpB Sh scr rb Cs (mm_wp Sh scr rb Cs K RI RV lab_87 cut n) RI RV [(some (.iload_n 1), 0, 0, [], 0), (some (.iconst 0), 0, 0, [], 0), (some (.iconst 2), 0, 0, [], 2), (some (.invokestatic 102), 68, 3, [], 0), (some (.ifCond .eq 45), 51, 0, [], 0), (some (.aload_n 0), 0, 0, [], 0), (some (.getfield 38), 8, 13, [], 0), (some (.iload_n 1), 0, 0, [], 0), (some (.iaload), 0, 0, [], 0), (some (.iconst (-1)), 0, 0, [], (-1)), (some (.if_icmp .ne 35), 51, 0, [], 0), (some (.aload_n 0), 0, 0, [], 0), (some (.iload_n 2), 0, 0, [], 0), (some (.invokevirtual 132), 77, 2, [], 0), (some (.ifCond .eq 27), 51, 0, [], 0), (some (.iload_n 3), 0, 0, [], 0), (some (.iconst 1), 0, 0, [], 1), (some (.bipush 50), 0, 0, [], 50), (some (.invokestatic 102), 68, 3, [], 0), (some (.ifCond .eq 17), 51, 0, [], 0), (some (.aload_n 0), 0, 0, [], 0), (some (.getfield 135), 8, 18, [], 0), (some (.aload_n 0), 0, 0, [], 0), (some (.invokevirtual 138), 84, 1, [], 0), (none, 45, 0, [], 0)] loc st μ) := by
  unfold mm_wp
  by_cases h : cut 0 = true
  · rw [if_pos h, if_pos h]
  · rw [if_neg h, if_neg h]; rfl
theorem wl_87_45 {Sh : List mm_C} {scr : Option (Nat × (Nat → Int32))} {rb : Bool} {Cs : Nat → List Value → mm_M → (Int32 → mm_M → Prop) → (mm_M → Prop) → Prop} {K : Nat → mm_L → List Value → mm_M → Prop} {RI : Int32 → mm_M → Prop} {RV : mm_M → Prop} {cut : Nat → Bool} {n : Nat} {loc : mm_L} {st : List Value} {μ : mm_M} : mm_wp Sh scr rb Cs K RI RV lab_87 cut (n + 1) 45 loc st μ = (if cut 45 = true then K 45 loc st μ else mm_wpB Sh scr rb Cs (mm_wp Sh scr rb Cs K RI RV lab_87 cut n) RI RV [(some (.iadd), 0, 0, [], 0), (some (.bipush 100), 0, 0, [], 100), (some (.if_icmp .lt 5), 53, 0, [], 0), (none, 51, 0, [], 0)] loc st μ) := by
  unfold mm_wp
  by_cases h : cut 45 = true
  · rw [if_pos h, if_pos h]
  · rw [if_neg h, if_neg h]; rfl
theorem wl_87_51 {Sh : List mm_C} {scr : Option (Nat × (Nat → Int32))} {rb : Bool} {Cs : Nat → List Value → mm_M → (Int32 → mm_M → Prop) → (mm_M → Prop) → Prop} {K : Nat → mm_L → List Value → mm_M → Prop} {RI : Int32 → mm_M → Prop} {RV : mm_M → Prop} {cut : Nat → Bool} {n : Nat} {loc : mm_L} {st : List Value} {μ : mm_M} : mm_wp Sh scr rb Cs K RI RV lab_87 cut (n + 1) 51 loc st μ = (if cut 51 = true then K 51 loc st μ else mm_wpB Sh scr rb Cs (mm_wp Sh scr rb Cs K RI RV lab_87 cut n) RI RV [(some (.iconst (-1)), 0, 0, [], (-1)), (some (.ireturn), 0, 0, [], 0)] loc st μ) := by
  unfold mm_wp
  by_cases h : cut 51 = true
  · rw [if_pos h, if_pos h]
  · rw [if_neg h, if_neg h]; rfl
theorem wl_87_53 {Sh : List mm_C} {scr : Option (Nat × (Nat → Int32))} {rb : Bool} {Cs : Nat → List Value → mm_M → (Int32 → mm_M → Prop) → (mm_M → Prop) → Prop} {K : Nat → mm_L → List Value → mm_M → Prop} {RI : Int32 → mm_M → Prop} {RV : mm_M → Prop} {cut : Nat → Bool} {n : Nat} {loc : mm_L} {st : List Value} {μ : mm_M} : mm_wp Sh scr rb Cs K RI RV lab_87 cut (n + 1) 53 loc st μ = (if cut 53 = true then K 53 loc st μ else mm_wpB Sh scr rb Cs (mm_wp Sh scr rb Cs K RI RV lab_87 cut n) RI RV [(some (.iload_n 3), 0, 0, [], 0), (some (.aload_n 0), 0, 0, [], 0), (some (.iload_n 2), 0, 0, [], 0), (some (.invokevirtual 142), 79, 2, [], 0), (some (.imul), 0, 0, [], 0), (some (.istore 4), 0, 0, [], 0), (some (.aload_n 0), 0, 0, [], 0), (some (.iload_n 2), 0, 0, [], 0), (some (.invokevirtual 145), 86, 2, [], 0), (some (.iload 4), 0, 0, [], 0), (some (.if_icmp .lt 34), 103, 0, [], 0), (some (.aload_n 0), 0, 0, [], 0), (some (.getfield 32), 8, 10, [], 0), (some (.aload_n 0), 0, 0, [], 0), (some (.iload_n 2), 0, 0, [], 0), (some (.invokevirtual 148), 80, 2, [], 0), (some (.iaload), 0, 0, [], 0), (some (.iload_n 3), 0, 0, [], 0), (some (.if_icmp .lt 20), 103, 0, [], 0), (some (.aload_n 0), 0, 0, [], 0), (some (.getfield 151), 8, 12, [], 0), (some (.iload 4), 0, 0, [], 0), (some (.iadd), 0, 0, [], 0), (some (.bipush 100), 0, 0, [], 100), (some (.aload_n 0), 0, 0, [], 0), (some (.invokevirtual 154), 83, 1, [], 0), (some (.imul), 0, 0, [], 0), (some (.if_icmp .le 5), 105, 0, [], 0), (none, 103, 0, [], 0)] loc st μ) := by
  unfold mm_wp
  by_cases h : cut 53 = true
  · rw [if_pos h, if_pos h]
  · rw [if_neg h, if_neg h]; rfl
theorem wl_87_103 {Sh : List mm_C} {scr : Option (Nat × (Nat → Int32))} {rb : Bool} {Cs : Nat → List Value → mm_M → (Int32 → mm_M → Prop) → (mm_M → Prop) → Prop} {K : Nat → mm_L → List Value → mm_M → Prop} {RI : Int32 → mm_M → Prop} {RV : mm_M → Prop} {cut : Nat → Bool} {n : Nat} {loc : mm_L} {st : List Value} {μ : mm_M} : mm_wp Sh scr rb Cs K RI RV lab_87 cut (n + 1) 103 loc st μ = (if cut 103 = true then K 103 loc st μ else mm_wpB Sh scr rb Cs (mm_wp Sh scr rb Cs K RI RV lab_87 cut n) RI RV [(some (.iconst (-1)), 0, 0, [], (-1)), (some (.ireturn), 0, 0, [], 0)] loc st μ) := by
  unfold mm_wp
  by_cases h : cut 103 = true
  · rw [if_pos h, if_pos h]
  · rw [if_neg h, if_neg h]; rfl
theorem wl_87_105 {Sh : List mm_C} {scr : Option (Nat × (Nat → Int32))} {rb : Bool} {Cs : Nat → List Value → mm_M → (Int32 → mm_M → Prop) → (mm_M → Prop) → Prop} {K : Nat → mm_L → List Value → mm_M → Prop} {RI : Int32 → mm_M → Prop} {RV : mm_M → Prop} {cut : Nat → Bool} {n : Nat} {loc : mm_L} {st : List Value} {μ : mm_M} : mm_wp Sh scr rb Cs K RI RV lab_87 cut (n + 1) 105 loc st μ = (if cut 105 = true then K 105 loc st μ else mm_wpB Sh scr rb Cs (mm_wp Sh scr rb Cs K RI RV lab_87 cut n) RI RV [(some (.aload_n 0), 0, 0, [], 0), (some (.getfield 32), 8, 10, [], 0), (some (.aload_n 0), 0, 0, [], 0), (some (.iload_n 2), 0, 0, [], 0), (some (.invokevirtual 148), 80, 2, [], 0), (some (.dup2), 0, 0, [], 0), (some (.iaload), 0, 0, [], 0), (some (.iload_n 3), 0, 0, [], 0), (some (.isub), 0, 0, [], 0), (some (.iastore), 0, 0, [], 0), (some (.aload_n 0), 0, 0, [], 0), (some (.dup), 0, 0, [], 0), (some (.getfield 151), 8, 12, [], 0), (some (.iload 4), 0, 0, [], 0), (some (.iadd), 0, 0, [], 0), (some (.putfield 151), 8, 12, [], 0), (some (.iconst 0), 0, 0, [], 0), (some (.istore 5), 0, 0, [], 0), (none, 133, 0, [], 0)] loc st μ) := by
  unfold mm_wp
  by_cases h : cut 105 = true
  · rw [if_pos h, if_pos h]
  · rw [if_neg h, if_neg h]; rfl
theorem wl_87_133 {Sh : List mm_C} {scr : Option (Nat × (Nat → Int32))} {rb : Bool} {Cs : Nat → List Value → mm_M → (Int32 → mm_M → Prop) → (mm_M → Prop) → Prop} {K : Nat → mm_L → List Value → mm_M → Prop} {RI : Int32 → mm_M → Prop} {RV : mm_M → Prop} {cut : Nat → Bool} {n : Nat} {loc : mm_L} {st : List Value} {μ : mm_M} : mm_wp Sh scr rb Cs K RI RV lab_87 cut (n + 1) 133 loc st μ = (if cut 133 = true then K 133 loc st μ else mm_wpB Sh scr rb Cs (mm_wp Sh scr rb Cs K RI RV lab_87 cut n) RI RV [(some (.iload 5), 0, 0, [], 0), (some (.bipush 60), 0, 0, [], 60), (some (.if_icmp .ge 22), 159, 0, [], 0), (some (.aload_n 0), 0, 0, [], 0), (some (.getfield 47), 8, 16, [], 0), (some (.bipush 60), 0, 0, [], 60), (some (.iload_n 1), 0, 0, [], 0), (some (.imul), 0, 0, [], 0), (some (.iload 5), 0, 0, [], 0), (some (.iadd), 0, 0, [], 0), (some (.iconst 0), 0, 0, [], 0), (some (.iastore), 0, 0, [], 0), (some (.iinc 5 1), 0, 0, [], 1), (some (.goto (-23)), 133, 0, [], 0)] loc st μ) := by
  unfold mm_wp
  by_cases h : cut 133 = true
  · rw [if_pos h, if_pos h]
  · rw [if_neg h, if_neg h]; rfl
theorem wl_87_159 {Sh : List mm_C} {scr : Option (Nat × (Nat → Int32))} {rb : Bool} {Cs : Nat → List Value → mm_M → (Int32 → mm_M → Prop) → (mm_M → Prop) → Prop} {K : Nat → mm_L → List Value → mm_M → Prop} {RI : Int32 → mm_M → Prop} {RV : mm_M → Prop} {cut : Nat → Bool} {n : Nat} {loc : mm_L} {st : List Value} {μ : mm_M} : mm_wp Sh scr rb Cs K RI RV lab_87 cut (n + 1) 159 loc st μ = (if cut 159 = true then K 159 loc st μ else mm_wpB Sh scr rb Cs (mm_wp Sh scr rb Cs K RI RV lab_87 cut n) RI RV [(some (.iload 4), 0, 0, [], 0), (some (.istore 5), 0, 0, [], 0), (none, 163, 0, [], 0)] loc st μ) := by
  unfold mm_wp
  by_cases h : cut 159 = true
  · rw [if_pos h, if_pos h]
  · rw [if_neg h, if_neg h]; rfl
theorem wl_87_163 {Sh : List mm_C} {scr : Option (Nat × (Nat → Int32))} {rb : Bool} {Cs : Nat → List Value → mm_M → (Int32 → mm_M → Prop) → (mm_M → Prop) → Prop} {K : Nat → mm_L → List Value → mm_M → Prop} {RI : Int32 → mm_M → Prop} {RV : mm_M → Prop} {cut : Nat → Bool} {n : Nat} {loc : mm_L} {st : List Value} {μ : mm_M} : mm_wp Sh scr rb Cs K RI RV lab_87 cut (n + 1) 163 loc st μ = (if cut 163 = true then K 163 loc st μ else mm_wpB Sh scr rb Cs (mm_wp Sh scr rb Cs K RI RV lab_87 cut n) RI RV [(some (.iload 5), 0, 0, [], 0), (some (.ifCond .le 75), 240, 0, [], 0), (some (.aload_n 0), 0, 0, [], 0), (some (.iload_n 2), 0, 0, [], 0), (some (.invokevirtual 157), 85, 2, [], 0), (some (.istore 6), 0, 0, [], 0), (some (.aload_n 0), 0, 0, [], 0), (some (.getfield 13), 8, 3, [], 0), (some (.iload 6), 0, 0, [], 0), (some (.iaload), 0, 0, [], 0), (some (.iload 5), 0, 0, [], 0), (some (.if_icmp .ge 13), 197, 0, [], 0), (some (.aload_n 0), 0, 0, [], 0), (some (.getfield 13), 8, 3, [], 0), (some (.iload 6), 0, 0, [], 0), (some (.iaload), 0, 0, [], 0), (some (.goto 5), 199, 0, [], 0)] loc st μ) := by
  unfold mm_wp
  by_cases h : cut 163 = true
  · rw [if_pos h, if_pos h]
  · rw [if_neg h, if_neg h]; rfl
theorem wl_87_197 {Sh : List mm_C} {scr : Option (Nat × (Nat → Int32))} {rb : Bool} {Cs : Nat → List Value → mm_M → (Int32 → mm_M → Prop) → (mm_M → Prop) → Prop} {K : Nat → mm_L → List Value → mm_M → Prop} {RI : Int32 → mm_M → Prop} {RV : mm_M → Prop} {cut : Nat → Bool} {n : Nat} {loc : mm_L} {st : List Value} {μ : mm_M} : mm_wp Sh scr rb Cs K RI RV lab_87 cut (n + 1) 197 loc st μ = (if cut 197 = true then K 197 loc st μ else mm_wpB Sh scr rb Cs (mm_wp Sh scr rb Cs K RI RV lab_87 cut n) RI RV [(some (.iload 5), 0, 0, [], 0), (none, 199, 0, [], 0)] loc st μ) := by
  unfold mm_wp
  by_cases h : cut 197 = true
  · rw [if_pos h, if_pos h]
  · rw [if_neg h, if_neg h]; rfl
theorem wl_87_199 {Sh : List mm_C} {scr : Option (Nat × (Nat → Int32))} {rb : Bool} {Cs : Nat → List Value → mm_M → (Int32 → mm_M → Prop) → (mm_M → Prop) → Prop} {K : Nat → mm_L → List Value → mm_M → Prop} {RI : Int32 → mm_M → Prop} {RV : mm_M → Prop} {cut : Nat → Bool} {n : Nat} {loc : mm_L} {st : List Value} {μ : mm_M} : mm_wp Sh scr rb Cs K RI RV lab_87 cut (n + 1) 199 loc st μ = (if cut 199 = true then K 199 loc st μ else mm_wpB Sh scr rb Cs (mm_wp Sh scr rb Cs K RI RV lab_87 cut n) RI RV [(some (.istore 7), 0, 0, [], 0), (some (.aload_n 0), 0, 0, [], 0), (some (.getfield 13), 8, 3, [], 0), (some (.iload 6), 0, 0, [], 0), (some (.dup2), 0, 0, [], 0), (some (.iaload), 0, 0, [], 0), (some (.iload 7), 0, 0, [], 0), (some (.isub), 0, 0, [], 0), (some (.iastore), 0, 0, [], 0), (some (.aload_n 0), 0, 0, [], 0), (some (.getfield 47), 8, 16, [], 0), (some (.bipush 60), 0, 0, [], 60), (some (.iload_n 1), 0, 0, [], 0), (some (.imul), 0, 0, [], 0), (some (.iload 6), 0, 0, [], 0), (some (.iadd), 0, 0, [], 0), (some (.dup2), 0, 0, [], 0), (some (.iaload), 0, 0, [], 0), (some (.iload 7), 0, 0, [], 0), (some (.iadd), 0, 0, [], 0), (some (.iastore), 0, 0, [], 0), (some (.iload 5), 0, 0, [], 0), (some (.iload 7), 0, 0, [], 0), (some (.isub), 0, 0, [], 0), (some (.istore 5), 0, 0, [], 0), (some (.goto (-74)), 163, 0, [], 0)] loc st μ) := by
  unfold mm_wp
  by_cases h : cut 199 = true
  · rw [if_pos h, if_pos h]
  · rw [if_neg h, if_neg h]; rfl
theorem wl_87_240 {Sh : List mm_C} {scr : Option (Nat × (Nat → Int32))} {rb : Bool} {Cs : Nat → List Value → mm_M → (Int32 → mm_M → Prop) → (mm_M → Prop) → Prop} {K : Nat → mm_L → List Value → mm_M → Prop} {RI : Int32 → mm_M → Prop} {RV : mm_M → Prop} {cut : Nat → Bool} {n : Nat} {loc : mm_L} {st : List Value} {μ : mm_M} : mm_wp Sh scr rb Cs K RI RV lab_87 cut (n + 1) 240 loc st μ = (if cut 240 = true then K 240 loc st μ else mm_wpB Sh scr rb Cs (mm_wp Sh scr rb Cs K RI RV lab_87 cut n) RI RV [(some (.aload_n 0), 0, 0, [], 0), (some (.getfield 38), 8, 13, [], 0), (some (.iload_n 1), 0, 0, [], 0), (some (.iload_n 2), 0, 0, [], 0), (some (.iastore), 0, 0, [], 0), (some (.aload_n 0), 0, 0, [], 0), (some (.getfield 41), 8, 14, [], 0), (some (.iload_n 1), 0, 0, [], 0), (some (.iload_n 3), 0, 0, [], 0), (some (.iastore), 0, 0, [], 0), (some (.aload_n 0), 0, 0, [], 0), (some (.getfield 44), 8, 15, [], 0), (some (.iload_n 1), 0, 0, [], 0), (some (.aload_n 0), 0, 0, [], 0), (some (.getfield 106), 8, 0, [], 0), (some (.aload_n 0), 0, 0, [], 0), (some (.getfield 26), 8, 8, [], 0), (some (.iload_n 2), 0, 0, [], 0), (some (.iaload), 0, 0, [], 0), (some (.bipush 10), 0, 0, [], 10), (some (.irem), 0, 0, [], 0), (some (.iadd), 0, 0, [], 0), (some (.iastore), 0, 0, [], 0), (some (.iload 4), 0, 0, [], 0), (some (.ireturn), 0, 0, [], 0)] loc st μ) := by
  unfold mm_wp
  by_cases h : cut 240 = true
  · rw [if_pos h, if_pos h]
  · rw [if_neg h, if_neg h]; rfl
theorem wl_88_0 {Sh : List mm_C} {scr : Option (Nat × (Nat → Int32))} {rb : Bool} {Cs : Nat → List Value → mm_M → (Int32 → mm_M → Prop) → (mm_M → Prop) → Prop} {K : Nat → mm_L → List Value → mm_M → Prop} {RI : Int32 → mm_M → Prop} {RV : mm_M → Prop} {cut : Nat → Bool} {n : Nat} {loc : mm_L} {st : List Value} {μ : mm_M} : mm_wp Sh scr rb Cs K RI RV lab_88 cut (n + 1) 0 loc st μ = (if cut 0 = true then K 0 loc st μ else mm_wpB Sh scr rb Cs (mm_wp Sh scr rb Cs K RI RV lab_88 cut n) RI RV [(some (.iconst 0), 0, 0, [], 0), (some (.istore_n 2), 0, 0, [], 0), (some (.iconst 0), 0, 0, [], 0), (some (.istore_n 3), 0, 0, [], 0), (none, 4, 0, [], 0)] loc st μ) := by
  unfold mm_wp
  by_cases h : cut 0 = true
  · rw [if_pos h, if_pos h]
  · rw [if_neg h, if_neg h]; rfl
theorem wl_88_4 {Sh : List mm_C} {scr : Option (Nat × (Nat → Int32))} {rb : Bool} {Cs : Nat → List Value → mm_M → (Int32 → mm_M → Prop) → (mm_M → Prop) → Prop} {K : Nat → mm_L → List Value → mm_M → Prop} {RI : Int32 → mm_M → Prop} {RV : mm_M → Prop} {cut : Nat → Bool} {n : Nat} {loc : mm_L} {st : List Value} {μ : mm_M} : mm_wp Sh scr rb Cs K RI RV lab_88 cut (n + 1) 4 loc st μ = (if cut 4 = true then K 4 loc st μ else mm_wpB Sh scr rb Cs (mm_wp Sh scr rb Cs K RI RV lab_88 cut n) RI RV [(some (.iload_n 3), 0, 0, [], 0), (some (.bipush 60), 0, 0, [], 60), (some (.if_icmp .ge 33), 40, 0, [], 0), (some (.aload_n 0), 0, 0, [], 0), (some (.getfield 38), 8, 13, [], 0), (some (.iload_n 1), 0, 0, [], 0), (some (.iaload), 0, 0, [], 0), (some (.iconst (-1)), 0, 0, [], (-1)), (some (.if_icmp .eq 23), 40, 0, [], 0), (some (.iload_n 2), 0, 0, [], 0), (some (.aload_n 0), 0, 0, [], 0), (some (.getfield 47), 8, 16, [], 0), (some (.bipush 60), 0, 0, [], 60), (some (.iload_n 1), 0, 0, [], 0), (some (.imul), 0, 0, [], 0), (some (.iload_n 3), 0, 0, [], 0), (some (.iadd), 0, 0, [], 0), (some (.iaload), 0, 0, [], 0), (some (.iadd), 0, 0, [], 0), (some (.istore_n 2), 0, 0, [], 0), (some (.iinc 3 1), 0, 0, [], 1), (some (.goto (-33)), 4, 0, [], 0)] loc st μ) := by
  unfold mm_wp
  by_cases h : cut 4 = true
  · rw [if_pos h, if_pos h]
  · rw [if_neg h, if_neg h]; rfl
theorem wl_88_40 {Sh : List mm_C} {scr : Option (Nat × (Nat → Int32))} {rb : Bool} {Cs : Nat → List Value → mm_M → (Int32 → mm_M → Prop) → (mm_M → Prop) → Prop} {K : Nat → mm_L → List Value → mm_M → Prop} {RI : Int32 → mm_M → Prop} {RV : mm_M → Prop} {cut : Nat → Bool} {n : Nat} {loc : mm_L} {st : List Value} {μ : mm_M} : mm_wp Sh scr rb Cs K RI RV lab_88 cut (n + 1) 40 loc st μ = (if cut 40 = true then K 40 loc st μ else mm_wpB Sh scr rb Cs (mm_wp Sh scr rb Cs K RI RV lab_88 cut n) RI RV [(some (.iload_n 2), 0, 0, [], 0), (some (.ireturn), 0, 0, [], 0)] loc st μ) := by
  unfold mm_wp
  by_cases h : cut 40 = true
  · rw [if_pos h, if_pos h]
  · rw [if_neg h, if_neg h]; rfl
theorem wl_89_0 {Sh : List mm_C} {scr : Option (Nat × (Nat → Int32))} {rb : Bool} {Cs : Nat → List Value → mm_M → (Int32 → mm_M → Prop) → (mm_M → Prop) → Prop} {K : Nat → mm_L → List Value → mm_M → Prop} {RI : Int32 → mm_M → Prop} {RV : mm_M → Prop} {cut : Nat → Bool} {n : Nat} {loc : mm_L} {st : List Value} {μ : mm_M} : mm_wp Sh scr rb Cs K RI RV lab_89 cut (n + 1) 0 loc st μ = (if cut 0 = true then K 0 loc st μ else mm_wpB Sh scr rb Cs (mm_wp Sh scr rb Cs K RI RV lab_89 cut n) RI RV [(some (.iload_n 1), 0, 0, [], 0), (some (.iconst 0), 0, 0, [], 0), (some (.iconst 2), 0, 0, [], 2), (some (.invokestatic 102), 68, 3, [], 0), (some (.ifCond .eq 13), 19, 0, [], 0), (some (.aload_n 0), 0, 0, [], 0), (some (.getfield 38), 8, 13, [], 0), (some (.iload_n 1), 0, 0, [], 0), (some (.iaload), 0, 0, [], 0), (some (.iconst (-1)), 0, 0, [], (-1)), (some (.if_icmp .ne 5), 21, 0, [], 0), (none, 19, 0, [], 0)] loc st μ) := by
  unfold mm_wp
  by_cases h : cut 0 = true
  · rw [if_pos h, if_pos h]
  · rw [if_neg h, if_neg h]; rfl
theorem wl_89_19 {Sh : List mm_C} {scr : Option (Nat × (Nat → Int32))} {rb : Bool} {Cs : Nat → List Value → mm_M → (Int32 → mm_M → Prop) → (mm_M → Prop) → Prop} {K : Nat → mm_L → List Value → mm_M → Prop} {RI : Int32 → mm_M → Prop} {RV : mm_M → Prop} {cut : Nat → Bool} {n : Nat} {loc : mm_L} {st : List Value} {μ : mm_M} : mm_wp Sh scr rb Cs K RI RV lab_89 cut (n + 1) 19 loc st μ = (if cut 19 = true then K 19 loc st μ else mm_wpB Sh scr rb Cs (mm_wp Sh scr rb Cs K RI RV lab_89 cut n) RI RV [(some (.iconst (-1)), 0, 0, [], (-1)), (some (.ireturn), 0, 0, [], 0)] loc st μ) := by
  unfold mm_wp
  by_cases h : cut 19 = true
  · rw [if_pos h, if_pos h]
  · rw [if_neg h, if_neg h]; rfl
theorem wl_89_21 {Sh : List mm_C} {scr : Option (Nat × (Nat → Int32))} {rb : Bool} {Cs : Nat → List Value → mm_M → (Int32 → mm_M → Prop) → (mm_M → Prop) → Prop} {K : Nat → mm_L → List Value → mm_M → Prop} {RI : Int32 → mm_M → Prop} {RV : mm_M → Prop} {cut : Nat → Bool} {n : Nat} {loc : mm_L} {st : List Value} {μ : mm_M} : mm_wp Sh scr rb Cs K RI RV lab_89 cut (n + 1) 21 loc st μ = (if cut 21 = true then K 21 loc st μ else mm_wpB Sh scr rb Cs (mm_wp Sh scr rb Cs K RI RV lab_89 cut n) RI RV [(some (.aload_n 0), 0, 0, [], 0), (some (.iload_n 1), 0, 0, [], 0), (some (.invokevirtual 160), 88, 2, [], 0), (some (.istore_n 2), 0, 0, [], 0), (some (.aload_n 0), 0, 0, [], 0), (some (.dup), 0, 0, [], 0), (some (.getfield 163), 8, 17, [], 0), (some (.iload_n 2), 0, 0, [], 0), (some (.iadd), 0, 0, [], 0), (some (.putfield 163), 8, 17, [], 0), (some (.aload_n 0), 0, 0, [], 0), (some (.getfield 38), 8, 13, [], 0), (some (.iload_n 1), 0, 0, [], 0), (some (.iconst (-1)), 0, 0, [], (-1)), (some (.iastore), 0, 0, [], 0), (some (.iload_n 2), 0, 0, [], 0), (some (.ireturn), 0, 0, [], 0)] loc st μ) := by
  unfold mm_wp
  by_cases h : cut 21 = true
  · rw [if_pos h, if_pos h]
  · rw [if_neg h, if_neg h]; rfl
theorem wl_90_0 {Sh : List mm_C} {scr : Option (Nat × (Nat → Int32))} {rb : Bool} {Cs : Nat → List Value → mm_M → (Int32 → mm_M → Prop) → (mm_M → Prop) → Prop} {K : Nat → mm_L → List Value → mm_M → Prop} {RI : Int32 → mm_M → Prop} {RV : mm_M → Prop} {cut : Nat → Bool} {n : Nat} {loc : mm_L} {st : List Value} {μ : mm_M} : mm_wp Sh scr rb Cs K RI RV lab_90 cut (n + 1) 0 loc st μ = (if cut 0 = true then K 0 loc st μ else mm_wpB Sh scr rb Cs (mm_wp Sh scr rb Cs K RI RV lab_90 cut n) RI RV [(some (.aload_n 0), 0, 0, [], 0), (some (.getfield 50), 8, 19, [], 0), (some (.aload_n 0), 0, 0, [], 0), (some (.getfield 135), 8, 18, [], 0), (some (.aload_n 0), 0, 0, [], 0), (some (.getfield 38), 8, 13, [], 0), (some (.iload_n 1), 0, 0, [], 0), (some (.iaload), 0, 0, [], 0), (some (.iastore), 0, 0, [], 0), (some (.aload_n 0), 0, 0, [], 0), (some (.getfield 53), 8, 20, [], 0), (some (.aload_n 0), 0, 0, [], 0), (some (.getfield 135), 8, 18, [], 0), (some (.aload_n 0), 0, 0, [], 0), (some (.getfield 41), 8, 14, [], 0), (some (.iload_n 1), 0, 0, [], 0), (some (.iaload), 0, 0, [], 0), (some (.iastore), 0, 0, [], 0), (some (.aload_n 0), 0, 0, [], 0), (some (.getfield 56), 8, 21, [], 0), (some (.aload_n 0), 0, 0, [], 0), (some (.getfield 135), 8, 18, [], 0), (some (.aload_n 0), 0, 0, [], 0), (some (.getfield 41), 8, 14, [], 0), (some (.iload_n 1), 0, 0, [], 0), (some (.iaload), 0, 0, [], 0), (some (.iastore), 0, 0, [], 0), (some (.aload_n 0), 0, 0, [], 0), (some (.getfield 59), 8, 22, [], 0), (some (.aload_n 0), 0, 0, [], 0), (some (.getfield 135), 8, 18, [], 0), (some (.aload_n 0), 0, 0, [], 0), (some (.getfield 106), 8, 0, [], 0), (some (.iastore), 0, 0, [], 0), (some (.iconst 0), 0, 0, [], 0), (some (.istore_n 2), 0, 0, [], 0), (none, 60, 0, [], 0)] loc st μ) := by
  unfold mm_wp
  by_cases h : cut 0 = true
  · rw [if_pos h, if_pos h]
  · rw [if_neg h, if_neg h]; rfl
theorem wl_90_60 {Sh : List mm_C} {scr : Option (Nat × (Nat → Int32))} {rb : Bool} {Cs : Nat → List Value → mm_M → (Int32 → mm_M → Prop) → (mm_M → Prop) → Prop} {K : Nat → mm_L → List Value → mm_M → Prop} {RI : Int32 → mm_M → Prop} {RV : mm_M → Prop} {cut : Nat → Bool} {n : Nat} {loc : mm_L} {st : List Value} {μ : mm_M} : mm_wp Sh scr rb Cs K RI RV lab_90 cut (n + 1) 60 loc st μ = (if cut 60 = true then K 60 loc st μ else mm_wpB Sh scr rb Cs (mm_wp Sh scr rb Cs K RI RV lab_90 cut n) RI RV [(some (.iload_n 2), 0, 0, [], 0), (some (.bipush 60), 0, 0, [], 60), (some (.if_icmp .ge 59), 122, 0, [], 0), (some (.aload_n 0), 0, 0, [], 0), (some (.getfield 47), 8, 16, [], 0), (some (.bipush 60), 0, 0, [], 60), (some (.iload_n 1), 0, 0, [], 0), (some (.imul), 0, 0, [], 0), (some (.iload_n 2), 0, 0, [], 0), (some (.iadd), 0, 0, [], 0), (some (.iaload), 0, 0, [], 0), (some (.istore_n 3), 0, 0, [], 0), (some (.aload_n 0), 0, 0, [], 0), (some (.getfield 68), 8, 25, [], 0), (some (.bipush 60), 0, 0, [], 60), (some (.aload_n 0), 0, 0, [], 0), (some (.getfield 135), 8, 18, [], 0), (some (.imul), 0, 0, [], 0), (some (.iload_n 2), 0, 0, [], 0), (some (.iadd), 0, 0, [], 0), (some (.iload_n 3), 0, 0, [], 0), (some (.iastore), 0, 0, [], 0), (some (.iload_n 3), 0, 0, [], 0), (some (.ifCond .le 22), 116, 0, [], 0), (some (.aload_n 0), 0, 0, [], 0), (some (.getfield 23), 8, 6, [], 0), (some (.iload_n 2), 0, 0, [], 0), (some (.baload), 0, 0, [], 0), (some (.ifCond .eq 13), 116, 0, [], 0), (some (.aload_n 0), 0, 0, [], 0), (some (.getfield 62), 8, 23, [], 0), (some (.aload_n 0), 0, 0, [], 0), (some (.getfield 135), 8, 18, [], 0), (some (.iconst 1), 0, 0, [], 1), (some (.bastore), 0, 0, [], 0), (none, 116, 0, [], 0)] loc st μ) := by
  unfold mm_wp
  by_cases h : cut 60 = true
  · rw [if_pos h, if_pos h]
  · rw [if_neg h, if_neg h]; rfl
theorem wl_90_116 {Sh : List mm_C} {scr : Option (Nat × (Nat → Int32))} {rb : Bool} {Cs : Nat → List Value → mm_M → (Int32 → mm_M → Prop) → (mm_M → Prop) → Prop} {K : Nat → mm_L → List Value → mm_M → Prop} {RI : Int32 → mm_M → Prop} {RV : mm_M → Prop} {cut : Nat → Bool} {n : Nat} {loc : mm_L} {st : List Value} {μ : mm_M} : mm_wp Sh scr rb Cs K RI RV lab_90 cut (n + 1) 116 loc st μ = (if cut 116 = true then K 116 loc st μ else mm_wpB Sh scr rb Cs (mm_wp Sh scr rb Cs K RI RV lab_90 cut n) RI RV [(some (.iinc 2 1), 0, 0, [], 1), (some (.goto (-59)), 60, 0, [], 0)] loc st μ) := by
  unfold mm_wp
  by_cases h : cut 116 = true
  · rw [if_pos h, if_pos h]
  · rw [if_neg h, if_neg h]; rfl
theorem wl_90_122 {Sh : List mm_C} {scr : Option (Nat × (Nat → Int32))} {rb : Bool} {Cs : Nat → List Value → mm_M → (Int32 → mm_M → Prop) → (mm_M → Prop) → Prop} {K : Nat → mm_L → List Value → mm_M → Prop} {RI : Int32 → mm_M → Prop} {RV : mm_M → Prop} {cut : Nat → Bool} {n : Nat} {loc : mm_L} {st : List Value} {μ : mm_M} : mm_wp Sh scr rb Cs K RI RV lab_90 cut (n + 1) 122 loc st μ = (if cut 122 = true then K 122 loc st μ else mm_wpB Sh scr rb Cs (mm_wp Sh scr rb Cs K RI RV lab_90 cut n) RI RV [(some (.aload_n 0), 0, 0, [], 0), (some (.getfield 38), 8, 13, [], 0), (some (.iload_n 1), 0, 0, [], 0), (some (.iconst (-1)), 0, 0, [], (-1)), (some (.iastore), 0, 0, [], 0), (some (.aload_n 0), 0, 0, [], 0), (some (.dup), 0, 0, [], 0), (some (.getfield 135), 8, 18, [], 0), (some (.iconst 1), 0, 0, [], 1), (some (.iadd), 0, 0, [], 0), (some (.putfield 135), 8, 18, [], 0), (some (.return_), 0, 0, [], 0)] loc st μ) := by
  unfold mm_wp
  by_cases h : cut 122 = true
  · rw [if_pos h, if_pos h]
  · rw [if_neg h, if_neg h]; rfl
theorem wl_91_0 {Sh : List mm_C} {scr : Option (Nat × (Nat → Int32))} {rb : Bool} {Cs : Nat → List Value → mm_M → (Int32 → mm_M → Prop) → (mm_M → Prop) → Prop} {K : Nat → mm_L → List Value → mm_M → Prop} {RI : Int32 → mm_M → Prop} {RV : mm_M → Prop} {cut : Nat → Bool} {n : Nat} {loc : mm_L} {st : List Value} {μ : mm_M} : mm_wp Sh scr rb Cs K RI RV lab_91 cut (n + 1) 0 loc st μ = (if cut 0 = true then K 0 loc st μ else mm_wpB Sh scr rb Cs (mm_wp Sh scr rb Cs K RI RV lab_91 cut n) RI RV [(some (.iload_n 1), 0, 0, [], 0), (some (.iconst 0), 0, 0, [], 0), (some (.sipush 400), 0, 0, [], 400), (some (.invokestatic 102), 68, 3, [], 0), (some (.ifCond .ne 5), 13, 0, [], 0), (some (.iconst (-1)), 0, 0, [], (-1)), (some (.ireturn), 0, 0, [], 0)] loc st μ) := by
  unfold mm_wp
  by_cases h : cut 0 = true
  · rw [if_pos h, if_pos h]
  · rw [if_neg h, if_neg h]; rfl
theorem wl_91_13 {Sh : List mm_C} {scr : Option (Nat × (Nat → Int32))} {rb : Bool} {Cs : Nat → List Value → mm_M → (Int32 → mm_M → Prop) → (mm_M → Prop) → Prop} {K : Nat → mm_L → List Value → mm_M → Prop} {RI : Int32 → mm_M → Prop} {RV : mm_M → Prop} {cut : Nat → Bool} {n : Nat} {loc : mm_L} {st : List Value} {μ : mm_M} : mm_wp Sh scr rb Cs K RI RV lab_91 cut (n + 1) 13 loc st μ = (if cut 13 = true then K 13 loc st μ else mm_wpB Sh scr rb Cs (mm_wp Sh scr rb Cs K RI RV lab_91 cut n) RI RV [(some (.iconst 0), 0, 0, [], 0), (some (.istore_n 2), 0, 0, [], 0), (none, 15, 0, [], 0)] loc st μ) := by
  unfold mm_wp
  by_cases h : cut 13 = true
  · rw [if_pos h, if_pos h]
  · rw [if_neg h, if_neg h]; rfl
theorem wl_91_15 {Sh : List mm_C} {scr : Option (Nat × (Nat → Int32))} {rb : Bool} {Cs : Nat → List Value → mm_M → (Int32 → mm_M → Prop) → (mm_M → Prop) → Prop} {K : Nat → mm_L → List Value → mm_M → Prop} {RI : Int32 → mm_M → Prop} {RV : mm_M → Prop} {cut : Nat → Bool} {n : Nat} {loc : mm_L} {st : List Value} {μ : mm_M} : mm_wp Sh scr rb Cs K RI RV lab_91 cut (n + 1) 15 loc st μ = (if cut 15 = true then K 15 loc st μ else mm_wpB Sh scr rb Cs (mm_wp Sh scr rb Cs K RI RV lab_91 cut n) RI RV [(some (.iload_n 2), 0, 0, [], 0), (some (.iload_n 1), 0, 0, [], 0), (some (.if_icmp .ge 23), 40, 0, [], 0), (some (.aload_n 0), 0, 0, [], 0), (some (.getfield 106), 8, 0, [], 0), (some (.sipush 5000), 0, 0, [], 5000), (some (.if_icmp .ge 13), 40, 0, [], 0), (some (.aload_n 0), 0, 0, [], 0), (some (.invokevirtual 166), 92, 1, [], 0), (some (.iinc 2 1), 0, 0, [], 1), (some (.goto (-22)), 15, 0, [], 0)] loc st μ) := by
  unfold mm_wp
  by_cases h : cut 15 = true
  · rw [if_pos h, if_pos h]
  · rw [if_neg h, if_neg h]; rfl
theorem wl_91_40 {Sh : List mm_C} {scr : Option (Nat × (Nat → Int32))} {rb : Bool} {Cs : Nat → List Value → mm_M → (Int32 → mm_M → Prop) → (mm_M → Prop) → Prop} {K : Nat → mm_L → List Value → mm_M → Prop} {RI : Int32 → mm_M → Prop} {RV : mm_M → Prop} {cut : Nat → Bool} {n : Nat} {loc : mm_L} {st : List Value} {μ : mm_M} : mm_wp Sh scr rb Cs K RI RV lab_91 cut (n + 1) 40 loc st μ = (if cut 40 = true then K 40 loc st μ else mm_wpB Sh scr rb Cs (mm_wp Sh scr rb Cs K RI RV lab_91 cut n) RI RV [(some (.aload_n 0), 0, 0, [], 0), (some (.getfield 106), 8, 0, [], 0), (some (.ireturn), 0, 0, [], 0)] loc st μ) := by
  unfold mm_wp
  by_cases h : cut 40 = true
  · rw [if_pos h, if_pos h]
  · rw [if_neg h, if_neg h]; rfl
theorem wl_92_0 {Sh : List mm_C} {scr : Option (Nat × (Nat → Int32))} {rb : Bool} {Cs : Nat → List Value → mm_M → (Int32 → mm_M → Prop) → (mm_M → Prop) → Prop} {K : Nat → mm_L → List Value → mm_M → Prop} {RI : Int32 → mm_M → Prop} {RV : mm_M → Prop} {cut : Nat → Bool} {n : Nat} {loc : mm_L} {st : List Value} {μ : mm_M} : mm_wp Sh scr rb Cs K RI RV lab_92 cut (n + 1) 0 loc st μ = (if cut 0 = true then K 0 loc st μ else mm_wpB Sh scr rb Cs (mm_wp Sh scr rb Cs K RI RV lab_92 cut n) RI RV [(some (.aload_n 0), 0, 0, [], 0), (some (.dup), 0, 0, [], 0), (some (.getfield 106), 8, 0, [], 0), (some (.iconst 1), 0, 0, [], 1), (some (.iadd), 0, 0, [], 0), (some (.putfield 106), 8, 0, [], 0), (some (.aload_n 0), 0, 0, [], 0), (some (.iconst 0), 0, 0, [], 0), (some (.putfield 151), 8, 12, [], 0), (some (.iconst 0), 0, 0, [], 0), (some (.istore_n 1), 0, 0, [], 0), (none, 17, 0, [], 0)] loc st μ) := by
  unfold mm_wp
  by_cases h : cut 0 = true
  · rw [if_pos h, if_pos h]
  · rw [if_neg h, if_neg h]; rfl
theorem wl_92_17 {Sh : List mm_C} {scr : Option (Nat × (Nat → Int32))} {rb : Bool} {Cs : Nat → List Value → mm_M → (Int32 → mm_M → Prop) → (mm_M → Prop) → Prop} {K : Nat → mm_L → List Value → mm_M → Prop} {RI : Int32 → mm_M → Prop} {RV : mm_M → Prop} {cut : Nat → Bool} {n : Nat} {loc : mm_L} {st : List Value} {μ : mm_M} : mm_wp Sh scr rb Cs K RI RV lab_92 cut (n + 1) 17 loc st μ = (if cut 17 = true then K 17 loc st μ else mm_wpB Sh scr rb Cs (mm_wp Sh scr rb Cs K RI RV lab_92 cut n) RI RV [(some (.iload_n 1), 0, 0, [], 0), (some (.iconst 3), 0, 0, [], 3), (some (.if_icmp .ge 37), 56, 0, [], 0), (some (.aload_n 0), 0, 0, [], 0), (some (.getfield 38), 8, 13, [], 0), (some (.iload_n 1), 0, 0, [], 0), (some (.iaload), 0, 0, [], 0), (some (.iconst (-1)), 0, 0, [], (-1)), (some (.if_icmp .eq 21), 50, 0, [], 0), (some (.aload_n 0), 0, 0, [], 0), (some (.getfield 44), 8, 15, [], 0), (some (.iload_n 1), 0, 0, [], 0), (some (.iaload), 0, 0, [], 0), (some (.aload_n 0), 0, 0, [], 0), (some (.getfield 106), 8, 0, [], 0), (some (.if_icmp .ne 8), 50, 0, [], 0), (some (.aload_n 0), 0, 0, [], 0), (some (.iload_n 1), 0, 0, [], 0), (some (.invokevirtual 169), 90, 2, [], 0), (none, 50, 0, [], 0)] loc st μ) := by
  unfold mm_wp
  by_cases h : cut 17 = true
  · rw [if_pos h, if_pos h]
  · rw [if_neg h, if_neg h]; rfl
theorem wl_92_50 {Sh : List mm_C} {scr : Option (Nat × (Nat → Int32))} {rb : Bool} {Cs : Nat → List Value → mm_M → (Int32 → mm_M → Prop) → (mm_M → Prop) → Prop} {K : Nat → mm_L → List Value → mm_M → Prop} {RI : Int32 → mm_M → Prop} {RV : mm_M → Prop} {cut : Nat → Bool} {n : Nat} {loc : mm_L} {st : List Value} {μ : mm_M} : mm_wp Sh scr rb Cs K RI RV lab_92 cut (n + 1) 50 loc st μ = (if cut 50 = true then K 50 loc st μ else mm_wpB Sh scr rb Cs (mm_wp Sh scr rb Cs K RI RV lab_92 cut n) RI RV [(some (.iinc 1 1), 0, 0, [], 1), (some (.goto (-36)), 17, 0, [], 0)] loc st μ) := by
  unfold mm_wp
  by_cases h : cut 50 = true
  · rw [if_pos h, if_pos h]
  · rw [if_neg h, if_neg h]; rfl
theorem wl_92_56 {Sh : List mm_C} {scr : Option (Nat × (Nat → Int32))} {rb : Bool} {Cs : Nat → List Value → mm_M → (Int32 → mm_M → Prop) → (mm_M → Prop) → Prop} {K : Nat → mm_L → List Value → mm_M → Prop} {RI : Int32 → mm_M → Prop} {RV : mm_M → Prop} {cut : Nat → Bool} {n : Nat} {loc : mm_L} {st : List Value} {μ : mm_M} : mm_wp Sh scr rb Cs K RI RV lab_92 cut (n + 1) 56 loc st μ = (if cut 56 = true then K 56 loc st μ else mm_wpB Sh scr rb Cs (mm_wp Sh scr rb Cs K RI RV lab_92 cut n) RI RV [(some (.iconst 0), 0, 0, [], 0), (some (.istore_n 1), 0, 0, [], 0), (none, 58, 0, [], 0)] loc st μ) := by
  unfold mm_wp
  by_cases h : cut 56 = true
  · rw [if_pos h, if_pos h]
  · rw [if_neg h, if_neg h]; rfl
theorem wl_92_58 {Sh : List mm_C} {scr : Option (Nat × (Nat → Int32))} {rb : Bool} {Cs : Nat → List Value → mm_M → (Int32 → mm_M → Prop) → (mm_M → Prop) → Prop} {K : Nat → mm_L → List Value → mm_M → Prop} {RI : Int32 → mm_M → Prop} {RV : mm_M → Prop} {cut : Nat → Bool} {n : Nat} {loc : mm_L} {st : List Value} {μ : mm_M} : mm_wp Sh scr rb Cs K RI RV lab_92 cut (n + 1) 58 loc st μ = (if cut 58 = true then K 58 loc st μ else mm_wpB Sh scr rb Cs (mm_wp Sh scr rb Cs K RI RV lab_92 cut n) RI RV [(some (.iload_n 1), 0, 0, [], 0), (some (.aload_n 0), 0, 0, [], 0), (some (.getfield 98), 8, 1, [], 0), (some (.if_icmp .ge 46), 109, 0, [], 0), (some (.aload_n 0), 0, 0, [], 0), (some (.getfield 106), 8, 0, [], 0), (some (.aload_n 0), 0, 0, [], 0), (some (.iload_n 1), 0, 0, [], 0), (some (.invokevirtual 109), 70, 2, [], 0), (some (.if_icmp .ge 6), 81, 0, [], 0), (some (.goto 25), 103, 0, [], 0)] loc st μ) := by
  unfold mm_wp
  by_cases h : cut 58 = true
  · rw [if_pos h, if_pos h]
  · rw [if_neg h, if_neg h]; rfl
theorem wl_92_81 {Sh : List mm_C} {scr : Option (Nat × (Nat → Int32))} {rb : Bool} {Cs : Nat → List Value → mm_M → (Int32 → mm_M → Prop) → (mm_M → Prop) → Prop} {K : Nat → mm_L → List Value → mm_M → Prop} {RI : Int32 → mm_M → Prop} {RV : mm_M → Prop} {cut : Nat → Bool} {n : Nat} {loc : mm_L} {st : List Value} {μ : mm_M} : mm_wp Sh scr rb Cs K RI RV lab_92 cut (n + 1) 81 loc st μ = (if cut 81 = true then K 81 loc st μ else mm_wpB Sh scr rb Cs (mm_wp Sh scr rb Cs K RI RV lab_92 cut n) RI RV [(some (.aload_n 0), 0, 0, [], 0), (some (.dup), 0, 0, [], 0), (some (.getfield 163), 8, 17, [], 0), (some (.aload_n 0), 0, 0, [], 0), (some (.getfield 13), 8, 3, [], 0), (some (.iload_n 1), 0, 0, [], 0), (some (.iaload), 0, 0, [], 0), (some (.iadd), 0, 0, [], 0), (some (.putfield 163), 8, 17, [], 0), (some (.aload_n 0), 0, 0, [], 0), (some (.getfield 13), 8, 3, [], 0), (some (.iload_n 1), 0, 0, [], 0), (some (.iconst 0), 0, 0, [], 0), (some (.iastore), 0, 0, [], 0), (none, 103, 0, [], 0)] loc st μ) := by
  unfold mm_wp
  by_cases h : cut 81 = true
  · rw [if_pos h, if_pos h]
  · rw [if_neg h, if_neg h]; rfl
theorem wl_92_103 {Sh : List mm_C} {scr : Option (Nat × (Nat → Int32))} {rb : Bool} {Cs : Nat → List Value → mm_M → (Int32 → mm_M → Prop) → (mm_M → Prop) → Prop} {K : Nat → mm_L → List Value → mm_M → Prop} {RI : Int32 → mm_M → Prop} {RV : mm_M → Prop} {cut : Nat → Bool} {n : Nat} {loc : mm_L} {st : List Value} {μ : mm_M} : mm_wp Sh scr rb Cs K RI RV lab_92 cut (n + 1) 103 loc st μ = (if cut 103 = true then K 103 loc st μ else mm_wpB Sh scr rb Cs (mm_wp Sh scr rb Cs K RI RV lab_92 cut n) RI RV [(some (.iinc 1 1), 0, 0, [], 1), (some (.goto (-48)), 58, 0, [], 0)] loc st μ) := by
  unfold mm_wp
  by_cases h : cut 103 = true
  · rw [if_pos h, if_pos h]
  · rw [if_neg h, if_neg h]; rfl
theorem wl_92_109 {Sh : List mm_C} {scr : Option (Nat × (Nat → Int32))} {rb : Bool} {Cs : Nat → List Value → mm_M → (Int32 → mm_M → Prop) → (mm_M → Prop) → Prop} {K : Nat → mm_L → List Value → mm_M → Prop} {RI : Int32 → mm_M → Prop} {RV : mm_M → Prop} {cut : Nat → Bool} {n : Nat} {loc : mm_L} {st : List Value} {μ : mm_M} : mm_wp Sh scr rb Cs K RI RV lab_92 cut (n + 1) 109 loc st μ = (if cut 109 = true then K 109 loc st μ else mm_wpB Sh scr rb Cs (mm_wp Sh scr rb Cs K RI RV lab_92 cut n) RI RV [(some (.iconst 0), 0, 0, [], 0), (some (.istore_n 1), 0, 0, [], 0), (none, 111, 0, [], 0)] loc st μ) := by
  unfold mm_wp
  by_cases h : cut 109 = true
  · rw [if_pos h, if_pos h]
  · rw [if_neg h, if_neg h]; rfl
theorem wl_92_111 {Sh : List mm_C} {scr : Option (Nat × (Nat → Int32))} {rb : Bool} {Cs : Nat → List Value → mm_M → (Int32 → mm_M → Prop) → (mm_M → Prop) → Prop} {K : Nat → mm_L → List Value → mm_M → Prop} {RI : Int32 → mm_M → Prop} {RV : mm_M → Prop} {cut : Nat → Bool} {n : Nat} {loc : mm_L} {st : List Value} {μ : mm_M} : mm_wp Sh scr rb Cs K RI RV lab_92 cut (n + 1) 111 loc st μ = (if cut 111 = true then K 111 loc st μ else mm_wpB Sh scr rb Cs (mm_wp Sh scr rb Cs K RI RV lab_92 cut n) RI RV [(some (.iload_n 1), 0, 0, [], 0), (some (.aload_n 0), 0, 0, [], 0), (some (.getfield 173), 8, 27, [], 0), (some (.if_icmp .ge 92), 208, 0, [], 0), (some (.aload_n 0), 0, 0, [], 0), (some (.getfield 106), 8, 0, [], 0), (some (.sipush 168), 0, 0, [], 168), (some (.irem), 0, 0, [], 0), (some (.ifCond .ne 81), 208, 0, [], 0), (some (.aload_n 0), 0, 0, [], 0), (some (.getfield 86), 8, 33, [], 0), (some (.iload_n 1), 0, 0, [], 0), (some (.baload), 0, 0, [], 0), (some (.ifCond .ne 66), 202, 0, [], 0), (some (.aload_n 0), 0, 0, [], 0), (some (.getfield 80), 8, 31, [], 0), (some (.iload_n 1), 0, 0, [], 0), (some (.iaload), 0, 0, [], 0), (some (.aload_n 0), 0, 0, [], 0), (some (.getfield 106), 8, 0, [], 0), (some (.sipush 168), 0, 0, [], 168), (some (.idiv), 0, 0, [], 0), (some (.if_icmp .lt 6), 159, 0, [], 0), (some (.goto 46), 202, 0, [], 0)] loc st μ) := by
  unfold mm_wp
  by_cases h : cut 111 = true
  · rw [if_pos h, if_pos h]
  · rw [if_neg h, if_neg h]; rfl
theorem wl_92_159 {Sh : List mm_C} {scr : Option (Nat × (Nat → Int32))} {rb : Bool} {Cs : Nat → List Value → mm_M → (Int32 → mm_M → Prop) → (mm_M → Prop) → Prop} {K : Nat → mm_L → List Value → mm_M → Prop} {RI : Int32 → mm_M → Prop} {RV : mm_M → Prop} {cut : Nat → Bool} {n : Nat} {loc : mm_L} {st : List Value} {μ : mm_M} : mm_wp Sh scr rb Cs K RI RV lab_92 cut (n + 1) 159 loc st μ = (if cut 159 = true then K 159 loc st μ else mm_wpB Sh scr rb Cs (mm_wp Sh scr rb Cs K RI RV lab_92 cut n) RI RV [(some (.aload_n 0), 0, 0, [], 0), (some (.dup), 0, 0, [], 0), (some (.getfield 176), 8, 34, [], 0), (some (.iconst 2), 0, 0, [], 2), (some (.aload_n 0), 0, 0, [], 0), (some (.getfield 29), 8, 9, [], 0), (some (.aload_n 0), 0, 0, [], 0), (some (.getfield 74), 8, 29, [], 0), (some (.iload_n 1), 0, 0, [], 0), (some (.iaload), 0, 0, [], 0), (some (.iaload), 0, 0, [], 0), (some (.imul), 0, 0, [], 0), (some (.aload_n 0), 0, 0, [], 0), (some (.getfield 77), 8, 30, [], 0), (some (.iload_n 1), 0, 0, [], 0), (some (.iaload), 0, 0, [], 0), (some (.aload_n 0), 0, 0, [], 0), (some (.getfield 83), 8, 32, [], 0), (some (.iload_n 1), 0, 0, [], 0), (some (.iaload), 0, 0, [], 0), (some (.isub), 0, 0, [], 0), (some (.imul), 0, 0, [], 0), (some (.iadd), 0, 0, [], 0), (some (.putfield 176), 8, 34, [], 0), (some (.aload_n 0), 0, 0, [], 0), (some (.getfield 86), 8, 33, [], 0), (some (.iload_n 1), 0, 0, [], 0), (some (.iconst 1), 0, 0, [], 1), (some (.bastore), 0, 0, [], 0), (none, 202, 0, [], 0)] loc st μ) := by
  unfold mm_wp
  by_cases h : cut 159 = true
  · rw [if_pos h, if_pos h]
  · rw [if_neg h, if_neg h]; rfl
theorem wl_92_202 {Sh : List mm_C} {scr : Option (Nat × (Nat → Int32))} {rb : Bool} {Cs : Nat → List Value → mm_M → (Int32 → mm_M → Prop) → (mm_M → Prop) → Prop} {K : Nat → mm_L → List Value → mm_M → Prop} {RI : Int32 → mm_M → Prop} {RV : mm_M → Prop} {cut : Nat → Bool} {n : Nat} {loc : mm_L} {st : List Value} {μ : mm_M} : mm_wp Sh scr rb Cs K RI RV lab_92 cut (n + 1) 202 loc st μ = (if cut 202 = true then K 202 loc st μ else mm_wpB Sh scr rb Cs (mm_wp Sh scr rb Cs K RI RV lab_92 cut n) RI RV [(some (.iinc 1 1), 0, 0, [], 1), (some (.goto (-94)), 111, 0, [], 0)] loc st μ) := by
  unfold mm_wp
  by_cases h : cut 202 = true
  · rw [if_pos h, if_pos h]
  · rw [if_neg h, if_neg h]; rfl
theorem wl_92_208 {Sh : List mm_C} {scr : Option (Nat × (Nat → Int32))} {rb : Bool} {Cs : Nat → List Value → mm_M → (Int32 → mm_M → Prop) → (mm_M → Prop) → Prop} {K : Nat → mm_L → List Value → mm_M → Prop} {RI : Int32 → mm_M → Prop} {RV : mm_M → Prop} {cut : Nat → Bool} {n : Nat} {loc : mm_L} {st : List Value} {μ : mm_M} : mm_wp Sh scr rb Cs K RI RV lab_92 cut (n + 1) 208 loc st μ = (if cut 208 = true then K 208 loc st μ else mm_wpB Sh scr rb Cs (mm_wp Sh scr rb Cs K RI RV lab_92 cut n) RI RV [(some (.return_), 0, 0, [], 0)] loc st μ) := by
  unfold mm_wp
  by_cases h : cut 208 = true
  · rw [if_pos h, if_pos h]
  · rw [if_neg h, if_neg h]; rfl
theorem wl_93_0 {Sh : List mm_C} {scr : Option (Nat × (Nat → Int32))} {rb : Bool} {Cs : Nat → List Value → mm_M → (Int32 → mm_M → Prop) → (mm_M → Prop) → Prop} {K : Nat → mm_L → List Value → mm_M → Prop} {RI : Int32 → mm_M → Prop} {RV : mm_M → Prop} {cut : Nat → Bool} {n : Nat} {loc : mm_L} {st : List Value} {μ : mm_M} : mm_wp Sh scr rb Cs K RI RV lab_93 cut (n + 1) 0 loc st μ = (if cut 0 = true then K 0 loc st μ else mm_wpB Sh scr rb Cs (mm_wp Sh scr rb Cs K RI RV lab_93 cut n) RI RV [(some (.iconst 0), 0, 0, [], 0), (some (.istore_n 1), 0, 0, [], 0), (none, 2, 0, [], 0)] loc st μ) := by
  unfold mm_wp
  by_cases h : cut 0 = true
  · rw [if_pos h, if_pos h]
  · rw [if_neg h, if_neg h]; rfl
theorem wl_93_2 {Sh : List mm_C} {scr : Option (Nat × (Nat → Int32))} {rb : Bool} {Cs : Nat → List Value → mm_M → (Int32 → mm_M → Prop) → (mm_M → Prop) → Prop} {K : Nat → mm_L → List Value → mm_M → Prop} {RI : Int32 → mm_M → Prop} {RV : mm_M → Prop} {cut : Nat → Bool} {n : Nat} {loc : mm_L} {st : List Value} {μ : mm_M} : mm_wp Sh scr rb Cs K RI RV lab_93 cut (n + 1) 2 loc st μ = (if cut 2 = true then K 2 loc st μ else mm_wpB Sh scr rb Cs (mm_wp Sh scr rb Cs K RI RV lab_93 cut n) RI RV [(some (.iload_n 1), 0, 0, [], 0), (some (.iconst 2), 0, 0, [], 2), (some (.if_icmp .ge 67), 71, 0, [], 0), (some (.iconst 0), 0, 0, [], 0), (some (.istore_n 2), 0, 0, [], 0), (some (.iconst 0), 0, 0, [], 0), (some (.istore_n 3), 0, 0, [], 0), (none, 11, 0, [], 0)] loc st μ) := by
  unfold mm_wp
  by_cases h : cut 2 = true
  · rw [if_pos h, if_pos h]
  · rw [if_neg h, if_neg h]; rfl
theorem wl_93_11 {Sh : List mm_C} {scr : Option (Nat × (Nat → Int32))} {rb : Bool} {Cs : Nat → List Value → mm_M → (Int32 → mm_M → Prop) → (mm_M → Prop) → Prop} {K : Nat → mm_L → List Value → mm_M → Prop} {RI : Int32 → mm_M → Prop} {RV : mm_M → Prop} {cut : Nat → Bool} {n : Nat} {loc : mm_L} {st : List Value} {μ : mm_M} : mm_wp Sh scr rb Cs K RI RV lab_93 cut (n + 1) 11 loc st μ = (if cut 11 = true then K 11 loc st μ else mm_wpB Sh scr rb Cs (mm_wp Sh scr rb Cs K RI RV lab_93 cut n) RI RV [(some (.iload_n 3), 0, 0, [], 0), (some (.iconst 4), 0, 0, [], 4), (some (.if_icmp .ge 40), 53, 0, [], 0), (some (.iload_n 2), 0, 0, [], 0), (some (.aload_n 0), 0, 0, [], 0), (some (.getfield 29), 8, 9, [], 0), (some (.iload_n 3), 0, 0, [], 0), (some (.iaload), 0, 0, [], 0), (some (.ifCond .le 21), 44, 0, [], 0), (some (.aload_n 0), 0, 0, [], 0), (some (.iload_n 3), 0, 0, [], 0), (some (.invokevirtual 148), 80, 2, [], 0), (some (.iload_n 1), 0, 0, [], 0), (some (.if_icmp .ne 12), 44, 0, [], 0), (some (.aload_n 0), 0, 0, [], 0), (some (.getfield 92), 8, 36, [], 0), (some (.iload_n 3), 0, 0, [], 0), (some (.iaload), 0, 0, [], 0), (some (.goto 4), 45, 0, [], 0)] loc st μ) := by
  unfold mm_wp
  by_cases h : cut 11 = true
  · rw [if_pos h, if_pos h]
  · rw [if_neg h, if_neg h]; rfl
theorem wl_93_44 {Sh : List mm_C} {scr : Option (Nat × (Nat → Int32))} {rb : Bool} {Cs : Nat → List Value → mm_M → (Int32 → mm_M → Prop) → (mm_M → Prop) → Prop} {K : Nat → mm_L → List Value → mm_M → Prop} {RI : Int32 → mm_M → Prop} {RV : mm_M → Prop} {cut : Nat → Bool} {n : Nat} {loc : mm_L} {st : List Value} {μ : mm_M} : mm_wp Sh scr rb Cs K RI RV lab_93 cut (n + 1) 44 loc st μ = (if cut 44 = true then K 44 loc st μ else mm_wpB Sh scr rb Cs (mm_wp Sh scr rb Cs K RI RV lab_93 cut n) RI RV [(some (.iconst 0), 0, 0, [], 0), (none, 45, 0, [], 0)] loc st μ) := by
  unfold mm_wp
  by_cases h : cut 44 = true
  · rw [if_pos h, if_pos h]
  · rw [if_neg h, if_neg h]; rfl
theorem wl_93_45 {Sh : List mm_C} {scr : Option (Nat × (Nat → Int32))} {rb : Bool} {Cs : Nat → List Value → mm_M → (Int32 → mm_M → Prop) → (mm_M → Prop) → Prop} {K : Nat → mm_L → List Value → mm_M → Prop} {RI : Int32 → mm_M → Prop} {RV : mm_M → Prop} {cut : Nat → Bool} {n : Nat} {loc : mm_L} {st : List Value} {μ : mm_M} : mm_wp Sh scr rb Cs K RI RV lab_93 cut (n + 1) 45 loc st μ = (if cut 45 = true then K 45 loc st μ else mm_wpB Sh scr rb Cs (mm_wp Sh scr rb Cs K RI RV lab_93 cut n) RI RV [(some (.iadd), 0, 0, [], 0), (some (.istore_n 2), 0, 0, [], 0), (some (.iinc 3 1), 0, 0, [], 1), (some (.goto (-39)), 11, 0, [], 0)] loc st μ) := by
  unfold mm_wp
  by_cases h : cut 45 = true
  · rw [if_pos h, if_pos h]
  · rw [if_neg h, if_neg h]; rfl
theorem wl_93_53 {Sh : List mm_C} {scr : Option (Nat × (Nat → Int32))} {rb : Bool} {Cs : Nat → List Value → mm_M → (Int32 → mm_M → Prop) → (mm_M → Prop) → Prop} {K : Nat → mm_L → List Value → mm_M → Prop} {RI : Int32 → mm_M → Prop} {RV : mm_M → Prop} {cut : Nat → Bool} {n : Nat} {loc : mm_L} {st : List Value} {μ : mm_M} : mm_wp Sh scr rb Cs K RI RV lab_93 cut (n + 1) 53 loc st μ = (if cut 53 = true then K 53 loc st μ else mm_wpB Sh scr rb Cs (mm_wp Sh scr rb Cs K RI RV lab_93 cut n) RI RV [(some (.iload_n 2), 0, 0, [], 0), (some (.aload_n 0), 0, 0, [], 0), (some (.getfield 32), 8, 10, [], 0), (some (.iload_n 1), 0, 0, [], 0), (some (.iaload), 0, 0, [], 0), (some (.if_icmp .le 5), 65, 0, [], 0), (some (.iconst 0), 0, 0, [], 0), (some (.ireturn), 0, 0, [], 0)] loc st μ) := by
  unfold mm_wp
  by_cases h : cut 53 = true
  · rw [if_pos h, if_pos h]
  · rw [if_neg h, if_neg h]; rfl
theorem wl_93_65 {Sh : List mm_C} {scr : Option (Nat × (Nat → Int32))} {rb : Bool} {Cs : Nat → List Value → mm_M → (Int32 → mm_M → Prop) → (mm_M → Prop) → Prop} {K : Nat → mm_L → List Value → mm_M → Prop} {RI : Int32 → mm_M → Prop} {RV : mm_M → Prop} {cut : Nat → Bool} {n : Nat} {loc : mm_L} {st : List Value} {μ : mm_M} : mm_wp Sh scr rb Cs K RI RV lab_93 cut (n + 1) 65 loc st μ = (if cut 65 = true then K 65 loc st μ else mm_wpB Sh scr rb Cs (mm_wp Sh scr rb Cs K RI RV lab_93 cut n) RI RV [(some (.iinc 1 1), 0, 0, [], 1), (some (.goto (-66)), 2, 0, [], 0)] loc st μ) := by
  unfold mm_wp
  by_cases h : cut 65 = true
  · rw [if_pos h, if_pos h]
  · rw [if_neg h, if_neg h]; rfl
theorem wl_93_71 {Sh : List mm_C} {scr : Option (Nat × (Nat → Int32))} {rb : Bool} {Cs : Nat → List Value → mm_M → (Int32 → mm_M → Prop) → (mm_M → Prop) → Prop} {K : Nat → mm_L → List Value → mm_M → Prop} {RI : Int32 → mm_M → Prop} {RV : mm_M → Prop} {cut : Nat → Bool} {n : Nat} {loc : mm_L} {st : List Value} {μ : mm_M} : mm_wp Sh scr rb Cs K RI RV lab_93 cut (n + 1) 71 loc st μ = (if cut 71 = true then K 71 loc st μ else mm_wpB Sh scr rb Cs (mm_wp Sh scr rb Cs K RI RV lab_93 cut n) RI RV [(some (.iconst 1), 0, 0, [], 1), (some (.istore_n 1), 0, 0, [], 0), (none, 73, 0, [], 0)] loc st μ) := by
  unfold mm_wp
  by_cases h : cut 71 = true
  · rw [if_pos h, if_pos h]
  · rw [if_neg h, if_neg h]; rfl
theorem wl_93_73 {Sh : List mm_C} {scr : Option (Nat × (Nat → Int32))} {rb : Bool} {Cs : Nat → List Value → mm_M → (Int32 → mm_M → Prop) → (mm_M → Prop) → Prop} {K : Nat → mm_L → List Value → mm_M → Prop} {RI : Int32 → mm_M → Prop} {RV : mm_M → Prop} {cut : Nat → Bool} {n : Nat} {loc : mm_L} {st : List Value} {μ : mm_M} : mm_wp Sh scr rb Cs K RI RV lab_93 cut (n + 1) 73 loc st μ = (if cut 73 = true then K 73 loc st μ else mm_wpB Sh scr rb Cs (mm_wp Sh scr rb Cs K RI RV lab_93 cut n) RI RV [(some (.iload_n 1), 0, 0, [], 0), (some (.bipush 8), 0, 0, [], 8), (some (.if_icmp .ge 101), 177, 0, [], 0), (some (.iconst 0), 0, 0, [], 0), (some (.istore_n 2), 0, 0, [], 0), (some (.iconst 0), 0, 0, [], 0), (some (.istore_n 3), 0, 0, [], 0), (none, 83, 0, [], 0)] loc st μ) := by
  unfold mm_wp
  by_cases h : cut 73 = true
  · rw [if_pos h, if_pos h]
  · rw [if_neg h, if_neg h]; rfl
theorem wl_93_83 {Sh : List mm_C} {scr : Option (Nat × (Nat → Int32))} {rb : Bool} {Cs : Nat → List Value → mm_M → (Int32 → mm_M → Prop) → (mm_M → Prop) → Prop} {K : Nat → mm_L → List Value → mm_M → Prop} {RI : Int32 → mm_M → Prop} {RV : mm_M → Prop} {cut : Nat → Bool} {n : Nat} {loc : mm_L} {st : List Value} {μ : mm_M} : mm_wp Sh scr rb Cs K RI RV lab_93 cut (n + 1) 83 loc st μ = (if cut 83 = true then K 83 loc st μ else mm_wpB Sh scr rb Cs (mm_wp Sh scr rb Cs K RI RV lab_93 cut n) RI RV [(some (.iload_n 3), 0, 0, [], 0), (some (.iconst 4), 0, 0, [], 4), (some (.if_icmp .ge 45), 130, 0, [], 0), (some (.iload_n 2), 0, 0, [], 0), (some (.aload_n 0), 0, 0, [], 0), (some (.getfield 26), 8, 8, [], 0), (some (.iload_n 3), 0, 0, [], 0), (some (.iaload), 0, 0, [], 0), (some (.sipush 1000), 0, 0, [], 1000), (some (.idiv), 0, 0, [], 0), (some (.iload_n 1), 0, 0, [], 0), (some (.iconst (-1)), 0, 0, [], (-1)), (some (.ixor), 0, 0, [], 0), (some (.iand), 0, 0, [], 0), (some (.ifCond .ne 18), 121, 0, [], 0), (some (.aload_n 0), 0, 0, [], 0), (some (.getfield 92), 8, 36, [], 0), (some (.iload_n 3), 0, 0, [], 0), (some (.iaload), 0, 0, [], 0), (some (.aload_n 0), 0, 0, [], 0), (some (.iload_n 3), 0, 0, [], 0), (some (.invokevirtual 142), 79, 2, [], 0), (some (.imul), 0, 0, [], 0), (some (.goto 4), 122, 0, [], 0)] loc st μ) := by
  unfold mm_wp
  by_cases h : cut 83 = true
  · rw [if_pos h, if_pos h]
  · rw [if_neg h, if_neg h]; rfl
theorem wl_93_121 {Sh : List mm_C} {scr : Option (Nat × (Nat → Int32))} {rb : Bool} {Cs : Nat → List Value → mm_M → (Int32 → mm_M → Prop) → (mm_M → Prop) → Prop} {K : Nat → mm_L → List Value → mm_M → Prop} {RI : Int32 → mm_M → Prop} {RV : mm_M → Prop} {cut : Nat → Bool} {n : Nat} {loc : mm_L} {st : List Value} {μ : mm_M} : mm_wp Sh scr rb Cs K RI RV lab_93 cut (n + 1) 121 loc st μ = (if cut 121 = true then K 121 loc st μ else mm_wpB Sh scr rb Cs (mm_wp Sh scr rb Cs K RI RV lab_93 cut n) RI RV [(some (.iconst 0), 0, 0, [], 0), (none, 122, 0, [], 0)] loc st μ) := by
  unfold mm_wp
  by_cases h : cut 121 = true
  · rw [if_pos h, if_pos h]
  · rw [if_neg h, if_neg h]; rfl
theorem wl_93_122 {Sh : List mm_C} {scr : Option (Nat × (Nat → Int32))} {rb : Bool} {Cs : Nat → List Value → mm_M → (Int32 → mm_M → Prop) → (mm_M → Prop) → Prop} {K : Nat → mm_L → List Value → mm_M → Prop} {RI : Int32 → mm_M → Prop} {RV : mm_M → Prop} {cut : Nat → Bool} {n : Nat} {loc : mm_L} {st : List Value} {μ : mm_M} : mm_wp Sh scr rb Cs K RI RV lab_93 cut (n + 1) 122 loc st μ = (if cut 122 = true then K 122 loc st μ else mm_wpB Sh scr rb Cs (mm_wp Sh scr rb Cs K RI RV lab_93 cut n) RI RV [(some (.iadd), 0, 0, [], 0), (some (.istore_n 2), 0, 0, [], 0), (some (.iinc 3 1), 0, 0, [], 1), (some (.goto (-44)), 83, 0, [], 0)] loc st μ) := by
  unfold mm_wp
  by_cases h : cut 122 = true
  · rw [if_pos h, if_pos h]
  · rw [if_neg h, if_neg h]; rfl
theorem wl_93_130 {Sh : List mm_C} {scr : Option (Nat × (Nat → Int32))} {rb : Bool} {Cs : Nat → List Value → mm_M → (Int32 → mm_M → Prop) → (mm_M → Prop) → Prop} {K : Nat → mm_L → List Value → mm_M → Prop} {RI : Int32 → mm_M → Prop} {RV : mm_M → Prop} {cut : Nat → Bool} {n : Nat} {loc : mm_L} {st : List Value} {μ : mm_M} : mm_wp Sh scr rb Cs K RI RV lab_93 cut (n + 1) 130 loc st μ = (if cut 130 = true then K 130 loc st μ else mm_wpB Sh scr rb Cs (mm_wp Sh scr rb Cs K RI RV lab_93 cut n) RI RV [(some (.iconst 0), 0, 0, [], 0), (some (.istore_n 3), 0, 0, [], 0), (none, 132, 0, [], 0)] loc st μ) := by
  unfold mm_wp
  by_cases h : cut 130 = true
  · rw [if_pos h, if_pos h]
  · rw [if_neg h, if_neg h]; rfl
theorem wl_93_132 {Sh : List mm_C} {scr : Option (Nat × (Nat → Int32))} {rb : Bool} {Cs : Nat → List Value → mm_M → (Int32 → mm_M → Prop) → (mm_M → Prop) → Prop} {K : Nat → mm_L → List Value → mm_M → Prop} {RI : Int32 → mm_M → Prop} {RV : mm_M → Prop} {cut : Nat → Bool} {n : Nat} {loc : mm_L} {st : List Value} {μ : mm_M} : mm_wp Sh scr rb Cs K RI RV lab_93 cut (n + 1) 132 loc st μ = (if cut 132 = true then K 132 loc st μ else mm_wpB Sh scr rb Cs (mm_wp Sh scr rb Cs K RI RV lab_93 cut n) RI RV [(some (.iload_n 3), 0, 0, [], 0), (some (.iconst 3), 0, 0, [], 3), (some (.if_icmp .ge 31), 165, 0, [], 0), (some (.iload_n 2), 0, 0, [], 0), (some (.iload_n 1), 0, 0, [], 0), (some (.iload_n 3), 0, 0, [], 0), (some (.ishr), 0, 0, [], 0), (some (.iconst 1), 0, 0, [], 1), (some (.iand), 0, 0, [], 0), (some (.iconst 1), 0, 0, [], 1), (some (.if_icmp .ne 12), 156, 0, [], 0), (some (.aload_n 0), 0, 0, [], 0), (some (.getfield 89), 8, 35, [], 0), (some (.iload_n 3), 0, 0, [], 0), (some (.iaload), 0, 0, [], 0), (some (.goto 4), 157, 0, [], 0)] loc st μ) := by
  unfold mm_wp
  by_cases h : cut 132 = true
  · rw [if_pos h, if_pos h]
  · rw [if_neg h, if_neg h]; rfl
theorem wl_93_156 {Sh : List mm_C} {scr : Option (Nat × (Nat → Int32))} {rb : Bool} {Cs : Nat → List Value → mm_M → (Int32 → mm_M → Prop) → (mm_M → Prop) → Prop} {K : Nat → mm_L → List Value → mm_M → Prop} {RI : Int32 → mm_M → Prop} {RV : mm_M → Prop} {cut : Nat → Bool} {n : Nat} {loc : mm_L} {st : List Value} {μ : mm_M} : mm_wp Sh scr rb Cs K RI RV lab_93 cut (n + 1) 156 loc st μ = (if cut 156 = true then K 156 loc st μ else mm_wpB Sh scr rb Cs (mm_wp Sh scr rb Cs K RI RV lab_93 cut n) RI RV [(some (.iconst 0), 0, 0, [], 0), (none, 157, 0, [], 0)] loc st μ) := by
  unfold mm_wp
  by_cases h : cut 156 = true
  · rw [if_pos h, if_pos h]
  · rw [if_neg h, if_neg h]; rfl
theorem wl_93_157 {Sh : List mm_C} {scr : Option (Nat × (Nat → Int32))} {rb : Bool} {Cs : Nat → List Value → mm_M → (Int32 → mm_M → Prop) → (mm_M → Prop) → Prop} {K : Nat → mm_L → List Value → mm_M → Prop} {RI : Int32 → mm_M → Prop} {RV : mm_M → Prop} {cut : Nat → Bool} {n : Nat} {loc : mm_L} {st : List Value} {μ : mm_M} : mm_wp Sh scr rb Cs K RI RV lab_93 cut (n + 1) 157 loc st μ = (if cut 157 = true then K 157 loc st μ else mm_wpB Sh scr rb Cs (mm_wp Sh scr rb Cs K RI RV lab_93 cut n) RI RV [(some (.isub), 0, 0, [], 0), (some (.istore_n 2), 0, 0, [], 0), (some (.iinc 3 1), 0, 0, [], 1), (some (.goto (-30)), 132, 0, [], 0)] loc st μ) := by
  unfold mm_wp
  by_cases h : cut 157 = true
  · rw [if_pos h, if_pos h]
  · rw [if_neg h, if_neg h]; rfl
theorem wl_93_165 {Sh : List mm_C} {scr : Option (Nat × (Nat → Int32))} {rb : Bool} {Cs : Nat → List Value → mm_M → (Int32 → mm_M → Prop) → (mm_M → Prop) → Prop} {K : Nat → mm_L → List Value → mm_M → Prop} {RI : Int32 → mm_M → Prop} {RV : mm_M → Prop} {cut : Nat → Bool} {n : Nat} {loc : mm_L} {st : List Value} {μ : mm_M} : mm_wp Sh scr rb Cs K RI RV lab_93 cut (n + 1) 165 loc st μ = (if cut 165 = true then K 165 loc st μ else mm_wpB Sh scr rb Cs (mm_wp Sh scr rb Cs K RI RV lab_93 cut n) RI RV [(some (.iload_n 2), 0, 0, [], 0), (some (.ifCond .le 5), 171, 0, [], 0), (some (.iconst 0), 0, 0, [], 0), (some (.ireturn), 0, 0, [], 0)] loc st μ) := by
  unfold mm_wp
  by_cases h : cut 165 = true
  · rw [if_pos h, if_pos h]
  · rw [if_neg h, if_neg h]; rfl
theorem wl_93_171 {Sh : List mm_C} {scr : Option (Nat × (Nat → Int32))} {rb : Bool} {Cs : Nat → List Value → mm_M → (Int32 → mm_M → Prop) → (mm_M → Prop) → Prop} {K : Nat → mm_L → List Value → mm_M → Prop} {RI : Int32 → mm_M → Prop} {RV : mm_M → Prop} {cut : Nat → Bool} {n : Nat} {loc : mm_L} {st : List Value} {μ : mm_M} : mm_wp Sh scr rb Cs K RI RV lab_93 cut (n + 1) 171 loc st μ = (if cut 171 = true then K 171 loc st μ else mm_wpB Sh scr rb Cs (mm_wp Sh scr rb Cs K RI RV lab_93 cut n) RI RV [(some (.iinc 1 1), 0, 0, [], 1), (some (.goto (-101)), 73, 0, [], 0)] loc st μ) := by
  unfold mm_wp
  by_cases h : cut 171 = true
  · rw [if_pos h, if_pos h]
  · rw [if_neg h, if_neg h]; rfl
theorem wl_93_177 {Sh : List mm_C} {scr : Option (Nat × (Nat → Int32))} {rb : Bool} {Cs : Nat → List Value → mm_M → (Int32 → mm_M → Prop) → (mm_M → Prop) → Prop} {K : Nat → mm_L → List Value → mm_M → Prop} {RI : Int32 → mm_M → Prop} {RV : mm_M → Prop} {cut : Nat → Bool} {n : Nat} {loc : mm_L} {st : List Value} {μ : mm_M} : mm_wp Sh scr rb Cs K RI RV lab_93 cut (n + 1) 177 loc st μ = (if cut 177 = true then K 177 loc st μ else mm_wpB Sh scr rb Cs (mm_wp Sh scr rb Cs K RI RV lab_93 cut n) RI RV [(some (.iconst 1), 0, 0, [], 1), (some (.ireturn), 0, 0, [], 0)] loc st μ) := by
  unfold mm_wp
  by_cases h : cut 177 = true
  · rw [if_pos h, if_pos h]
  · rw [if_neg h, if_neg h]; rfl
theorem wl_94_0 {Sh : List mm_C} {scr : Option (Nat × (Nat → Int32))} {rb : Bool} {Cs : Nat → List Value → mm_M → (Int32 → mm_M → Prop) → (mm_M → Prop) → Prop} {K : Nat → mm_L → List Value → mm_M → Prop} {RI : Int32 → mm_M → Prop} {RV : mm_M → Prop} {cut : Nat → Bool} {n : Nat} {loc : mm_L} {st : List Value} {μ : mm_M} : mm_wp Sh scr rb Cs K RI RV lab_94 cut (n + 1) 0 loc st μ = (if cut 0 = true then K 0 loc st μ else mm_wpB Sh scr rb Cs (mm_wp Sh scr rb Cs K RI RV lab_94 cut n) RI RV [(some (.iconst 0), 0, 0, [], 0), (some (.istore_n 1), 0, 0, [], 0), (none, 2, 0, [], 0)] loc st μ) := by
  unfold mm_wp
  by_cases h : cut 0 = true
  · rw [if_pos h, if_pos h]
  · rw [if_neg h, if_neg h]; rfl
theorem wl_94_2 {Sh : List mm_C} {scr : Option (Nat × (Nat → Int32))} {rb : Bool} {Cs : Nat → List Value → mm_M → (Int32 → mm_M → Prop) → (mm_M → Prop) → Prop} {K : Nat → mm_L → List Value → mm_M → Prop} {RI : Int32 → mm_M → Prop} {RV : mm_M → Prop} {cut : Nat → Bool} {n : Nat} {loc : mm_L} {st : List Value} {μ : mm_M} : mm_wp Sh scr rb Cs K RI RV lab_94 cut (n + 1) 2 loc st μ = (if cut 2 = true then K 2 loc st μ else mm_wpB Sh scr rb Cs (mm_wp Sh scr rb Cs K RI RV lab_94 cut n) RI RV [(some (.iload_n 1), 0, 0, [], 0), (some (.iconst 3), 0, 0, [], 3), (some (.if_icmp .ge 16), 20, 0, [], 0), (some (.aload_n 0), 0, 0, [], 0), (some (.getfield 89), 8, 35, [], 0), (some (.iload_n 1), 0, 0, [], 0), (some (.iconst 0), 0, 0, [], 0), (some (.iastore), 0, 0, [], 0), (some (.iinc 1 1), 0, 0, [], 1), (some (.goto (-15)), 2, 0, [], 0)] loc st μ) := by
  unfold mm_wp
  by_cases h : cut 2 = true
  · rw [if_pos h, if_pos h]
  · rw [if_neg h, if_neg h]; rfl
theorem wl_94_20 {Sh : List mm_C} {scr : Option (Nat × (Nat → Int32))} {rb : Bool} {Cs : Nat → List Value → mm_M → (Int32 → mm_M → Prop) → (mm_M → Prop) → Prop} {K : Nat → mm_L → List Value → mm_M → Prop} {RI : Int32 → mm_M → Prop} {RV : mm_M → Prop} {cut : Nat → Bool} {n : Nat} {loc : mm_L} {st : List Value} {μ : mm_M} : mm_wp Sh scr rb Cs K RI RV lab_94 cut (n + 1) 20 loc st μ = (if cut 20 = true then K 20 loc st μ else mm_wpB Sh scr rb Cs (mm_wp Sh scr rb Cs K RI RV lab_94 cut n) RI RV [(some (.iconst 0), 0, 0, [], 0), (some (.istore_n 1), 0, 0, [], 0), (none, 22, 0, [], 0)] loc st μ) := by
  unfold mm_wp
  by_cases h : cut 20 = true
  · rw [if_pos h, if_pos h]
  · rw [if_neg h, if_neg h]; rfl
theorem wl_94_22 {Sh : List mm_C} {scr : Option (Nat × (Nat → Int32))} {rb : Bool} {Cs : Nat → List Value → mm_M → (Int32 → mm_M → Prop) → (mm_M → Prop) → Prop} {K : Nat → mm_L → List Value → mm_M → Prop} {RI : Int32 → mm_M → Prop} {RV : mm_M → Prop} {cut : Nat → Bool} {n : Nat} {loc : mm_L} {st : List Value} {μ : mm_M} : mm_wp Sh scr rb Cs K RI RV lab_94 cut (n + 1) 22 loc st μ = (if cut 22 = true then K 22 loc st μ else mm_wpB Sh scr rb Cs (mm_wp Sh scr rb Cs K RI RV lab_94 cut n) RI RV [(some (.iload_n 1), 0, 0, [], 0), (some (.aload_n 0), 0, 0, [], 0), (some (.getfield 98), 8, 1, [], 0), (some (.if_icmp .ge 46), 73, 0, [], 0), (some (.aload_n 0), 0, 0, [], 0), (some (.iload_n 1), 0, 0, [], 0), (some (.invokevirtual 122), 71, 2, [], 0), (some (.ifCond .eq 32), 67, 0, [], 0), (some (.aload_n 0), 0, 0, [], 0), (some (.getfield 23), 8, 6, [], 0), (some (.iload_n 1), 0, 0, [], 0), (some (.baload), 0, 0, [], 0), (some (.ifCond .ne 23), 67, 0, [], 0), (some (.aload_n 0), 0, 0, [], 0), (some (.getfield 89), 8, 35, [], 0), (some (.aload_n 0), 0, 0, [], 0), (some (.getfield 9), 8, 2, [], 0), (some (.iload_n 1), 0, 0, [], 0), (some (.iaload), 0, 0, [], 0), (some (.dup2), 0, 0, [], 0), (some (.iaload), 0, 0, [], 0), (some (.aload_n 0), 0, 0, [], 0), (some (.getfield 13), 8, 3, [], 0), (some (.iload_n 1), 0, 0, [], 0), (some (.iaload), 0, 0, [], 0), (some (.iadd), 0, 0, [], 0), (some (.iastore), 0, 0, [], 0), (none, 67, 0, [], 0)] loc st μ) := by
  unfold mm_wp
  by_cases h : cut 22 = true
  · rw [if_pos h, if_pos h]
  · rw [if_neg h, if_neg h]; rfl
theorem wl_94_67 {Sh : List mm_C} {scr : Option (Nat × (Nat → Int32))} {rb : Bool} {Cs : Nat → List Value → mm_M → (Int32 → mm_M → Prop) → (mm_M → Prop) → Prop} {K : Nat → mm_L → List Value → mm_M → Prop} {RI : Int32 → mm_M → Prop} {RV : mm_M → Prop} {cut : Nat → Bool} {n : Nat} {loc : mm_L} {st : List Value} {μ : mm_M} : mm_wp Sh scr rb Cs K RI RV lab_94 cut (n + 1) 67 loc st μ = (if cut 67 = true then K 67 loc st μ else mm_wpB Sh scr rb Cs (mm_wp Sh scr rb Cs K RI RV lab_94 cut n) RI RV [(some (.iinc 1 1), 0, 0, [], 1), (some (.goto (-48)), 22, 0, [], 0)] loc st μ) := by
  unfold mm_wp
  by_cases h : cut 67 = true
  · rw [if_pos h, if_pos h]
  · rw [if_neg h, if_neg h]; rfl
theorem wl_94_73 {Sh : List mm_C} {scr : Option (Nat × (Nat → Int32))} {rb : Bool} {Cs : Nat → List Value → mm_M → (Int32 → mm_M → Prop) → (mm_M → Prop) → Prop} {K : Nat → mm_L → List Value → mm_M → Prop} {RI : Int32 → mm_M → Prop} {RV : mm_M → Prop} {cut : Nat → Bool} {n : Nat} {loc : mm_L} {st : List Value} {μ : mm_M} : mm_wp Sh scr rb Cs K RI RV lab_94 cut (n + 1) 73 loc st μ = (if cut 73 = true then K 73 loc st μ else mm_wpB Sh scr rb Cs (mm_wp Sh scr rb Cs K RI RV lab_94 cut n) RI RV [(some (.aload_n 0), 0, 0, [], 0), (some (.iconst (-1)), 0, 0, [], (-1)), (some (.putfield 179), 8, 38, [], 0), (some (.iconst 1), 0, 0, [], 1), (some (.istore_n 1), 0, 0, [], 0), (some (.iconst 0), 0, 0, [], 0), (some (.istore_n 2), 0, 0, [], 0), (none, 82, 0, [], 0)] loc st μ) := by
  unfold mm_wp
  by_cases h : cut 73 = true
  · rw [if_pos h, if_pos h]
  · rw [if_neg h, if_neg h]; rfl
theorem wl_94_82 {Sh : List mm_C} {scr : Option (Nat × (Nat → Int32))} {rb : Bool} {Cs : Nat → List Value → mm_M → (Int32 → mm_M → Prop) → (mm_M → Prop) → Prop} {K : Nat → mm_L → List Value → mm_M → Prop} {RI : Int32 → mm_M → Prop} {RV : mm_M → Prop} {cut : Nat → Bool} {n : Nat} {loc : mm_L} {st : List Value} {μ : mm_M} : mm_wp Sh scr rb Cs K RI RV lab_94 cut (n + 1) 82 loc st μ = (if cut 82 = true then K 82 loc st μ else mm_wpB Sh scr rb Cs (mm_wp Sh scr rb Cs K RI RV lab_94 cut n) RI RV [(some (.iload_n 2), 0, 0, [], 0), (some (.iconst 4), 0, 0, [], 4), (some (.if_icmp .ge 27), 111, 0, [], 0), (some (.iload_n 1), 0, 0, [], 0), (some (.aload_n 0), 0, 0, [], 0), (some (.getfield 29), 8, 9, [], 0), (some (.iload_n 2), 0, 0, [], 0), (some (.iaload), 0, 0, [], 0), (some (.ifCond .le 8), 102, 0, [], 0), (some (.bipush 21), 0, 0, [], 21), (some (.goto 4), 103, 0, [], 0)] loc st μ) := by
  unfold mm_wp
  by_cases h : cut 82 = true
  · rw [if_pos h, if_pos h]
  · rw [if_neg h, if_neg h]; rfl
theorem wl_94_102 {Sh : List mm_C} {scr : Option (Nat × (Nat → Int32))} {rb : Bool} {Cs : Nat → List Value → mm_M → (Int32 → mm_M → Prop) → (mm_M → Prop) → Prop} {K : Nat → mm_L → List Value → mm_M → Prop} {RI : Int32 → mm_M → Prop} {RV : mm_M → Prop} {cut : Nat → Bool} {n : Nat} {loc : mm_L} {st : List Value} {μ : mm_M} : mm_wp Sh scr rb Cs K RI RV lab_94 cut (n + 1) 102 loc st μ = (if cut 102 = true then K 102 loc st μ else mm_wpB Sh scr rb Cs (mm_wp Sh scr rb Cs K RI RV lab_94 cut n) RI RV [(some (.iconst 1), 0, 0, [], 1), (none, 103, 0, [], 0)] loc st μ) := by
  unfold mm_wp
  by_cases h : cut 102 = true
  · rw [if_pos h, if_pos h]
  · rw [if_neg h, if_neg h]; rfl
theorem wl_94_103 {Sh : List mm_C} {scr : Option (Nat × (Nat → Int32))} {rb : Bool} {Cs : Nat → List Value → mm_M → (Int32 → mm_M → Prop) → (mm_M → Prop) → Prop} {K : Nat → mm_L → List Value → mm_M → Prop} {RI : Int32 → mm_M → Prop} {RV : mm_M → Prop} {cut : Nat → Bool} {n : Nat} {loc : mm_L} {st : List Value} {μ : mm_M} : mm_wp Sh scr rb Cs K RI RV lab_94 cut (n + 1) 103 loc st μ = (if cut 103 = true then K 103 loc st μ else mm_wpB Sh scr rb Cs (mm_wp Sh scr rb Cs K RI RV lab_94 cut n) RI RV [(some (.imul), 0, 0, [], 0), (some (.istore_n 1), 0, 0, [], 0), (some (.iinc 2 1), 0, 0, [], 1), (some (.goto (-26)), 82, 0, [], 0)] loc st μ) := by
  unfold mm_wp
  by_cases h : cut 103 = true
  · rw [if_pos h, if_pos h]
  · rw [if_neg h, if_neg h]; rfl
theorem wl_94_111 {Sh : List mm_C} {scr : Option (Nat × (Nat → Int32))} {rb : Bool} {Cs : Nat → List Value → mm_M → (Int32 → mm_M → Prop) → (mm_M → Prop) → Prop} {K : Nat → mm_L → List Value → mm_M → Prop} {RI : Int32 → mm_M → Prop} {RV : mm_M → Prop} {cut : Nat → Bool} {n : Nat} {loc : mm_L} {st : List Value} {μ : mm_M} : mm_wp Sh scr rb Cs K RI RV lab_94 cut (n + 1) 111 loc st μ = (if cut 111 = true then K 111 loc st μ else mm_wpB Sh scr rb Cs (mm_wp Sh scr rb Cs K RI RV lab_94 cut n) RI RV [(some (.iconst 0), 0, 0, [], 0), (some (.istore_n 2), 0, 0, [], 0), (none, 113, 0, [], 0)] loc st μ) := by
  unfold mm_wp
  by_cases h : cut 111 = true
  · rw [if_pos h, if_pos h]
  · rw [if_neg h, if_neg h]; rfl
theorem wl_94_113 {Sh : List mm_C} {scr : Option (Nat × (Nat → Int32))} {rb : Bool} {Cs : Nat → List Value → mm_M → (Int32 → mm_M → Prop) → (mm_M → Prop) → Prop} {K : Nat → mm_L → List Value → mm_M → Prop} {RI : Int32 → mm_M → Prop} {RV : mm_M → Prop} {cut : Nat → Bool} {n : Nat} {loc : mm_L} {st : List Value} {μ : mm_M} : mm_wp Sh scr rb Cs K RI RV lab_94 cut (n + 1) 113 loc st μ = (if cut 113 = true then K 113 loc st μ else mm_wpB Sh scr rb Cs (mm_wp Sh scr rb Cs K RI RV lab_94 cut n) RI RV [(some (.iload_n 2), 0, 0, [], 0), (some (.iload_n 1), 0, 0, [], 0), (some (.if_icmp .ge 142), 257, 0, [], 0), (some (.iload_n 2), 0, 0, [], 0), (some (.istore_n 3), 0, 0, [], 0), (some (.iconst 0), 0, 0, [], 0), (some (.istore 4), 0, 0, [], 0), (some (.iconst 3), 0, 0, [], 3), (some (.istore 5), 0, 0, [], 0), (none, 126, 0, [], 0)] loc st μ) := by
  unfold mm_wp
  by_cases h : cut 113 = true
  · rw [if_pos h, if_pos h]
  · rw [if_neg h, if_neg h]; rfl
theorem wl_94_126 {Sh : List mm_C} {scr : Option (Nat × (Nat → Int32))} {rb : Bool} {Cs : Nat → List Value → mm_M → (Int32 → mm_M → Prop) → (mm_M → Prop) → Prop} {K : Nat → mm_L → List Value → mm_M → Prop} {RI : Int32 → mm_M → Prop} {RV : mm_M → Prop} {cut : Nat → Bool} {n : Nat} {loc : mm_L} {st : List Value} {μ : mm_M} : mm_wp Sh scr rb Cs K RI RV lab_94 cut (n + 1) 126 loc st μ = (if cut 126 = true then K 126 loc st μ else mm_wpB Sh scr rb Cs (mm_wp Sh scr rb Cs K RI RV lab_94 cut n) RI RV [(some (.iload 5), 0, 0, [], 0), (some (.ifCond .lt 69), 197, 0, [], 0), (some (.aload_n 0), 0, 0, [], 0), (some (.getfield 92), 8, 36, [], 0), (some (.iload 5), 0, 0, [], 0), (some (.aload_n 0), 0, 0, [], 0), (some (.getfield 29), 8, 9, [], 0), (some (.iload 5), 0, 0, [], 0), (some (.iaload), 0, 0, [], 0), (some (.ifCond .le 10), 154, 0, [], 0), (some (.iload_n 3), 0, 0, [], 0), (some (.bipush 21), 0, 0, [], 21), (some (.irem), 0, 0, [], 0), (some (.goto 4), 155, 0, [], 0)] loc st μ) := by
  unfold mm_wp
  by_cases h : cut 126 = true
  · rw [if_pos h, if_pos h]
  · rw [if_neg h, if_neg h]; rfl
theorem wl_94_154 {Sh : List mm_C} {scr : Option (Nat × (Nat → Int32))} {rb : Bool} {Cs : Nat → List Value → mm_M → (Int32 → mm_M → Prop) → (mm_M → Prop) → Prop} {K : Nat → mm_L → List Value → mm_M → Prop} {RI : Int32 → mm_M → Prop} {RV : mm_M → Prop} {cut : Nat → Bool} {n : Nat} {loc : mm_L} {st : List Value} {μ : mm_M} : mm_wp Sh scr rb Cs K RI RV lab_94 cut (n + 1) 154 loc st μ = (if cut 154 = true then K 154 loc st μ else mm_wpB Sh scr rb Cs (mm_wp Sh scr rb Cs K RI RV lab_94 cut n) RI RV [(some (.iconst 0), 0, 0, [], 0), (none, 155, 0, [], 0)] loc st μ) := by
  unfold mm_wp
  by_cases h : cut 154 = true
  · rw [if_pos h, if_pos h]
  · rw [if_neg h, if_neg h]; rfl
theorem wl_94_155 {Sh : List mm_C} {scr : Option (Nat × (Nat → Int32))} {rb : Bool} {Cs : Nat → List Value → mm_M → (Int32 → mm_M → Prop) → (mm_M → Prop) → Prop} {K : Nat → mm_L → List Value → mm_M → Prop} {RI : Int32 → mm_M → Prop} {RV : mm_M → Prop} {cut : Nat → Bool} {n : Nat} {loc : mm_L} {st : List Value} {μ : mm_M} : mm_wp Sh scr rb Cs K RI RV lab_94 cut (n + 1) 155 loc st μ = (if cut 155 = true then K 155 loc st μ else mm_wpB Sh scr rb Cs (mm_wp Sh scr rb Cs K RI RV lab_94 cut n) RI RV [(some (.iastore), 0, 0, [], 0), (some (.aload_n 0), 0, 0, [], 0), (some (.getfield 29), 8, 9, [], 0), (some (.iload 5), 0, 0, [], 0), (some (.iaload), 0, 0, [], 0), (some (.ifCond .le 8), 171, 0, [], 0), (some (.iload_n 3), 0, 0, [], 0), (some (.bipush 21), 0, 0, [], 21), (some (.idiv), 0, 0, [], 0), (some (.istore_n 3), 0, 0, [], 0), (none, 171, 0, [], 0)] loc st μ) := by
  unfold mm_wp
  by_cases h : cut 155 = true
  · rw [if_pos h, if_pos h]
  · rw [if_neg h, if_neg h]; rfl
theorem wl_94_171 {Sh : List mm_C} {scr : Option (Nat × (Nat → Int32))} {rb : Bool} {Cs : Nat → List Value → mm_M → (Int32 → mm_M → Prop) → (mm_M → Prop) → Prop} {K : Nat → mm_L → List Value → mm_M → Prop} {RI : Int32 → mm_M → Prop} {RV : mm_M → Prop} {cut : Nat → Bool} {n : Nat} {loc : mm_L} {st : List Value} {μ : mm_M} : mm_wp Sh scr rb Cs K RI RV lab_94 cut (n + 1) 171 loc st μ = (if cut 171 = true then K 171 loc st μ else mm_wpB Sh scr rb Cs (mm_wp Sh scr rb Cs K RI RV lab_94 cut n) RI RV [(some (.iload 4), 0, 0, [], 0), (some (.aload_n 0), 0, 0, [], 0), (some (.getfield 92), 8, 36, [], 0), (some (.iload 5), 0, 0, [], 0), (some (.iaload), 0, 0, [], 0), (some (.aload_n 0), 0, 0, [], 0), (some (.getfield 29), 8, 9, [], 0), (some (.iload 5), 0, 0, [], 0), (some (.iaload), 0, 0, [], 0), (some (.imul), 0, 0, [], 0), (some (.iadd), 0, 0, [], 0), (some (.istore 4), 0, 0, [], 0), (some (.iinc 5 (-1)), 0, 0, [], (-1)), (some (.goto (-68)), 126, 0, [], 0)] loc st μ) := by
  unfold mm_wp
  by_cases h : cut 171 = true
  · rw [if_pos h, if_pos h]
  · rw [if_neg h, if_neg h]; rfl
theorem wl_94_197 {Sh : List mm_C} {scr : Option (Nat × (Nat → Int32))} {rb : Bool} {Cs : Nat → List Value → mm_M → (Int32 → mm_M → Prop) → (mm_M → Prop) → Prop} {K : Nat → mm_L → List Value → mm_M → Prop} {RI : Int32 → mm_M → Prop} {RV : mm_M → Prop} {cut : Nat → Bool} {n : Nat} {loc : mm_L} {st : List Value} {μ : mm_M} : mm_wp Sh scr rb Cs K RI RV lab_94 cut (n + 1) 197 loc st μ = (if cut 197 = true then K 197 loc st μ else mm_wpB Sh scr rb Cs (mm_wp Sh scr rb Cs K RI RV lab_94 cut n) RI RV [(some (.iload 4), 0, 0, [], 0), (some (.aload_n 0), 0, 0, [], 0), (some (.getfield 179), 8, 38, [], 0), (some (.if_icmp .le 48), 251, 0, [], 0), (some (.aload_n 0), 0, 0, [], 0), (some (.invokevirtual 182), 93, 1, [], 0), (some (.ifCond .ne 6), 216, 0, [], 0), (some (.goto 38), 251, 0, [], 0)] loc st μ) := by
  unfold mm_wp
  by_cases h : cut 197 = true
  · rw [if_pos h, if_pos h]
  · rw [if_neg h, if_neg h]; rfl
theorem wl_94_216 {Sh : List mm_C} {scr : Option (Nat × (Nat → Int32))} {rb : Bool} {Cs : Nat → List Value → mm_M → (Int32 → mm_M → Prop) → (mm_M → Prop) → Prop} {K : Nat → mm_L → List Value → mm_M → Prop} {RI : Int32 → mm_M → Prop} {RV : mm_M → Prop} {cut : Nat → Bool} {n : Nat} {loc : mm_L} {st : List Value} {μ : mm_M} : mm_wp Sh scr rb Cs K RI RV lab_94 cut (n + 1) 216 loc st μ = (if cut 216 = true then K 216 loc st μ else mm_wpB Sh scr rb Cs (mm_wp Sh scr rb Cs K RI RV lab_94 cut n) RI RV [(some (.aload_n 0), 0, 0, [], 0), (some (.iload 4), 0, 0, [], 0), (some (.putfield 179), 8, 38, [], 0), (some (.iconst 0), 0, 0, [], 0), (some (.istore 5), 0, 0, [], 0), (none, 225, 0, [], 0)] loc st μ) := by
  unfold mm_wp
  by_cases h : cut 216 = true
  · rw [if_pos h, if_pos h]
  · rw [if_neg h, if_neg h]; rfl
theorem wl_94_225 {Sh : List mm_C} {scr : Option (Nat × (Nat → Int32))} {rb : Bool} {Cs : Nat → List Value → mm_M → (Int32 → mm_M → Prop) → (mm_M → Prop) → Prop} {K : Nat → mm_L → List Value → mm_M → Prop} {RI : Int32 → mm_M → Prop} {RV : mm_M → Prop} {cut : Nat → Bool} {n : Nat} {loc : mm_L} {st : List Value} {μ : mm_M} : mm_wp Sh scr rb Cs K RI RV lab_94 cut (n + 1) 225 loc st μ = (if cut 225 = true then K 225 loc st μ else mm_wpB Sh scr rb Cs (mm_wp Sh scr rb Cs K RI RV lab_94 cut n) RI RV [(some (.iload 5), 0, 0, [], 0), (some (.iconst 4), 0, 0, [], 4), (some (.if_icmp .ge 23), 251, 0, [], 0), (some (.aload_n 0), 0, 0, [], 0), (some (.getfield 95), 8, 37, [], 0), (some (.iload 5), 0, 0, [], 0), (some (.aload_n 0), 0, 0, [], 0), (some (.getfield 92), 8, 36, [], 0), (some (.iload 5), 0, 0, [], 0), (some (.iaload), 0, 0, [], 0), (some (.iastore), 0, 0, [], 0), (some (.iinc 5 1), 0, 0, [], 1), (some (.goto (-23)), 225, 0, [], 0)] loc st μ) := by
  unfold mm_wp
  by_cases h : cut 225 = true
  · rw [if_pos h, if_pos h]
  · rw [if_neg h, if_neg h]; rfl
theorem wl_94_251 {Sh : List mm_C} {scr : Option (Nat × (Nat → Int32))} {rb : Bool} {Cs : Nat → List Value → mm_M → (Int32 → mm_M → Prop) → (mm_M → Prop) → Prop} {K : Nat → mm_L → List Value → mm_M → Prop} {RI : Int32 → mm_M → Prop} {RV : mm_M → Prop} {cut : Nat → Bool} {n : Nat} {loc : mm_L} {st : List Value} {μ : mm_M} : mm_wp Sh scr rb Cs K RI RV lab_94 cut (n + 1) 251 loc st μ = (if cut 251 = true then K 251 loc st μ else mm_wpB Sh scr rb Cs (mm_wp Sh scr rb Cs K RI RV lab_94 cut n) RI RV [(some (.iinc 2 1), 0, 0, [], 1), (some (.goto (-141)), 113, 0, [], 0)] loc st μ) := by
  unfold mm_wp
  by_cases h : cut 251 = true
  · rw [if_pos h, if_pos h]
  · rw [if_neg h, if_neg h]; rfl
theorem wl_94_257 {Sh : List mm_C} {scr : Option (Nat × (Nat → Int32))} {rb : Bool} {Cs : Nat → List Value → mm_M → (Int32 → mm_M → Prop) → (mm_M → Prop) → Prop} {K : Nat → mm_L → List Value → mm_M → Prop} {RI : Int32 → mm_M → Prop} {RV : mm_M → Prop} {cut : Nat → Bool} {n : Nat} {loc : mm_L} {st : List Value} {μ : mm_M} : mm_wp Sh scr rb Cs K RI RV lab_94 cut (n + 1) 257 loc st μ = (if cut 257 = true then K 257 loc st μ else mm_wpB Sh scr rb Cs (mm_wp Sh scr rb Cs K RI RV lab_94 cut n) RI RV [(some (.return_), 0, 0, [], 0)] loc st μ) := by
  unfold mm_wp
  by_cases h : cut 257 = true
  · rw [if_pos h, if_pos h]
  · rw [if_neg h, if_neg h]; rfl
theorem wl_95_0 {Sh : List mm_C} {scr : Option (Nat × (Nat → Int32))} {rb : Bool} {Cs : Nat → List Value → mm_M → (Int32 → mm_M → Prop) → (mm_M → Prop) → Prop} {K : Nat → mm_L → List Value → mm_M → Prop} {RI : Int32 → mm_M → Prop} {RV : mm_M → Prop} {cut : Nat → Bool} {n : Nat} {loc : mm_L} {st : List Value} {μ : mm_M} : mm_wp Sh scr rb Cs K RI RV lab_95 cut (n + 1) 0 loc st μ = (if cut 0 = true then K 0 loc st μ else mm_wpB Sh scr rb Cs (mm_wp Sh scr rb Cs K RI RV lab_95 cut n) RI RV [(some (.aload_n 0), 0, 0, [], 0), (some (.iload_n 1), 0, 0, [], 0), (some (.invokevirtual 132), 77, 2, [], 0), (some (.ifCond .ne 5), 10, 0, [], 0), (some (.iconst (-1)), 0, 0, [], (-1)), (some (.ireturn), 0, 0, [], 0)] loc st μ) := by
  unfold mm_wp
  by_cases h : cut 0 = true
  · rw [if_pos h, if_pos h]
  · rw [if_neg h, if_neg h]; rfl
theorem wl_95_10 {Sh : List mm_C} {scr : Option (Nat × (Nat → Int32))} {rb : Bool} {Cs : Nat → List Value → mm_M → (Int32 → mm_M → Prop) → (mm_M → Prop) → Prop} {K : Nat → mm_L → List Value → mm_M → Prop} {RI : Int32 → mm_M → Prop} {RV : mm_M → Prop} {cut : Nat → Bool} {n : Nat} {loc : mm_L} {st : List Value} {μ : mm_M} : mm_wp Sh scr rb Cs K RI RV lab_95 cut (n + 1) 10 loc st μ = (if cut 10 = true then K 10 loc st μ else mm_wpB Sh scr rb Cs (mm_wp Sh scr rb Cs K RI RV lab_95 cut n) RI RV [(some (.aload_n 0), 0, 0, [], 0), (some (.invokevirtual 186), 94, 1, [], 0), (some (.aload_n 0), 0, 0, [], 0), (some (.getfield 95), 8, 37, [], 0), (some (.iload_n 1), 0, 0, [], 0), (some (.iaload), 0, 0, [], 0), (some (.ireturn), 0, 0, [], 0)] loc st μ) := by
  unfold mm_wp
  by_cases h : cut 10 = true
  · rw [if_pos h, if_pos h]
  · rw [if_neg h, if_neg h]; rfl
theorem wl_96_0 {Sh : List mm_C} {scr : Option (Nat × (Nat → Int32))} {rb : Bool} {Cs : Nat → List Value → mm_M → (Int32 → mm_M → Prop) → (mm_M → Prop) → Prop} {K : Nat → mm_L → List Value → mm_M → Prop} {RI : Int32 → mm_M → Prop} {RV : mm_M → Prop} {cut : Nat → Bool} {n : Nat} {loc : mm_L} {st : List Value} {μ : mm_M} : mm_wp Sh scr rb Cs K RI RV lab_96 cut (n + 1) 0 loc st μ = (if cut 0 = true then K 0 loc st μ else mm_wpB Sh scr rb Cs (mm_wp Sh scr rb Cs K RI RV lab_96 cut n) RI RV [(some (.aload_n 0), 0, 0, [], 0), (some (.invokevirtual 186), 94, 1, [], 0), (some (.aload_n 0), 0, 0, [], 0), (some (.getfield 179), 8, 38, [], 0), (some (.ireturn), 0, 0, [], 0)] loc st μ) := by
  unfold mm_wp
  by_cases h : cut 0 = true
  · rw [if_pos h, if_pos h]
  · rw [if_neg h, if_neg h]; rfl
theorem wl_97_0 {Sh : List mm_C} {scr : Option (Nat × (Nat → Int32))} {rb : Bool} {Cs : Nat → List Value → mm_M → (Int32 → mm_M → Prop) → (mm_M → Prop) → Prop} {K : Nat → mm_L → List Value → mm_M → Prop} {RI : Int32 → mm_M → Prop} {RV : mm_M → Prop} {cut : Nat → Bool} {n : Nat} {loc : mm_L} {st : List Value} {μ : mm_M} : mm_wp Sh scr rb Cs K RI RV lab_97 cut (n + 1) 0 loc st μ = (if cut 0 = true then K 0 loc st μ else mm_wpB Sh scr rb Cs (mm_wp Sh scr rb Cs K RI RV lab_97 cut n) RI RV [(some (.aload_n 0), 0, 0, [], 0), (some (.getfield 29), 8, 9, [], 0), (some (.aload_n 0), 0, 0, [], 0), (some (.getfield 50), 8, 19, [], 0), (some (.iload_n 1), 0, 0, [], 0), (some (.iaload), 0, 0, [], 0), (some (.iaload), 0, 0, [], 0), (some (.istore_n 2), 0, 0, [], 0), (some (.aload_n 0), 0, 0, [], 0), (some (.getfield 106), 8, 0, [], 0), (some (.aload_n 0), 0, 0, [], 0), (some (.getfield 59), 8, 22, [], 0), (some (.iload_n 1), 0, 0, [], 0), (some (.iaload), 0, 0, [], 0), (some (.isub), 0, 0, [], 0), (some (.sipush 168), 0, 0, [], 168), (some (.idiv), 0, 0, [], 0), (some (.iconst 4), 0, 0, [], 4), (some (.idiv), 0, 0, [], 0), (some (.istore_n 3), 0, 0, [], 0), (some (.iload_n 2), 0, 0, [], 0), (some (.iload_n 2), 0, 0, [], 0), (some (.bipush 10), 0, 0, [], 10), (some (.idiv), 0, 0, [], 0), (some (.iload_n 3), 0, 0, [], 0), (some (.iconst 3), 0, 0, [], 3), (some (.if_icmp .le 7), 44, 0, [], 0), (some (.iconst 3), 0, 0, [], 3), (some (.goto 4), 45, 0, [], 0)] loc st μ) := by
  unfold mm_wp
  by_cases h : cut 0 = true
  · rw [if_pos h, if_pos h]
  · rw [if_neg h, if_neg h]; rfl
theorem wl_97_44 {Sh : List mm_C} {scr : Option (Nat × (Nat → Int32))} {rb : Bool} {Cs : Nat → List Value → mm_M → (Int32 → mm_M → Prop) → (mm_M → Prop) → Prop} {K : Nat → mm_L → List Value → mm_M → Prop} {RI : Int32 → mm_M → Prop} {RV : mm_M → Prop} {cut : Nat → Bool} {n : Nat} {loc : mm_L} {st : List Value} {μ : mm_M} : mm_wp Sh scr rb Cs K RI RV lab_97 cut (n + 1) 44 loc st μ = (if cut 44 = true then K 44 loc st μ else mm_wpB Sh scr rb Cs (mm_wp Sh scr rb Cs K RI RV lab_97 cut n) RI RV [(some (.iload_n 3), 0, 0, [], 0), (none, 45, 0, [], 0)] loc st μ) := by
  unfold mm_wp
  by_cases h : cut 44 = true
  · rw [if_pos h, if_pos h]
  · rw [if_neg h, if_neg h]; rfl
theorem wl_97_45 {Sh : List mm_C} {scr : Option (Nat × (Nat → Int32))} {rb : Bool} {Cs : Nat → List Value → mm_M → (Int32 → mm_M → Prop) → (mm_M → Prop) → Prop} {K : Nat → mm_L → List Value → mm_M → Prop} {RI : Int32 → mm_M → Prop} {RV : mm_M → Prop} {cut : Nat → Bool} {n : Nat} {loc : mm_L} {st : List Value} {μ : mm_M} : mm_wp Sh scr rb Cs K RI RV lab_97 cut (n + 1) 45 loc st μ = (if cut 45 = true then K 45 loc st μ else mm_wpB Sh scr rb Cs (mm_wp Sh scr rb Cs K RI RV lab_97 cut n) RI RV [(some (.imul), 0, 0, [], 0), (some (.iadd), 0, 0, [], 0), (some (.ireturn), 0, 0, [], 0)] loc st μ) := by
  unfold mm_wp
  by_cases h : cut 45 = true
  · rw [if_pos h, if_pos h]
  · rw [if_neg h, if_neg h]; rfl
theorem wl_98_0 {Sh : List mm_C} {scr : Option (Nat × (Nat → Int32))} {rb : Bool} {Cs : Nat → List Value → mm_M → (Int32 → mm_M → Prop) → (mm_M → Prop) → Prop} {K : Nat → mm_L → List Value → mm_M → Prop} {RI : Int32 → mm_M → Prop} {RV : mm_M → Prop} {cut : Nat → Bool} {n : Nat} {loc : mm_L} {st : List Value} {μ : mm_M} : mm_wp Sh scr rb Cs K RI RV lab_98 cut (n + 1) 0 loc st μ = (if cut 0 = true then K 0 loc st μ else mm_wpB Sh scr rb Cs (mm_wp Sh scr rb Cs K RI RV lab_98 cut n) RI RV [(some (.iconst 0), 0, 0, [], 0), (some (.istore_n 2), 0, 0, [], 0), (some (.iconst 0), 0, 0, [], 0), (some (.istore_n 3), 0, 0, [], 0), (none, 4, 0, [], 0)] loc st μ) := by
  unfold mm_wp
  by_cases h : cut 0 = true
  · rw [if_pos h, if_pos h]
  · rw [if_neg h, if_neg h]; rfl
theorem wl_98_4 {Sh : List mm_C} {scr : Option (Nat × (Nat → Int32))} {rb : Bool} {Cs : Nat → List Value → mm_M → (Int32 → mm_M → Prop) → (mm_M → Prop) → Prop} {K : Nat → mm_L → List Value → mm_M → Prop} {RI : Int32 → mm_M → Prop} {RV : mm_M → Prop} {cut : Nat → Bool} {n : Nat} {loc : mm_L} {st : List Value} {μ : mm_M} : mm_wp Sh scr rb Cs K RI RV lab_98 cut (n + 1) 4 loc st μ = (if cut 4 = true then K 4 loc st μ else mm_wpB Sh scr rb Cs (mm_wp Sh scr rb Cs K RI RV lab_98 cut n) RI RV [(some (.iload_n 3), 0, 0, [], 0), (some (.aload_n 0), 0, 0, [], 0), (some (.getfield 135), 8, 18, [], 0), (some (.if_icmp .ge 41), 50, 0, [], 0), (some (.iload_n 2), 0, 0, [], 0), (some (.aload_n 0), 0, 0, [], 0), (some (.getfield 50), 8, 19, [], 0), (some (.iload_n 3), 0, 0, [], 0), (some (.iaload), 0, 0, [], 0), (some (.iload_n 1), 0, 0, [], 0), (some (.if_icmp .ne 21), 41, 0, [], 0), (some (.aload_n 0), 0, 0, [], 0), (some (.getfield 62), 8, 23, [], 0), (some (.iload_n 3), 0, 0, [], 0), (some (.baload), 0, 0, [], 0), (some (.ifCond .ne 12), 41, 0, [], 0), (some (.aload_n 0), 0, 0, [], 0), (some (.getfield 53), 8, 20, [], 0), (some (.iload_n 3), 0, 0, [], 0), (some (.iaload), 0, 0, [], 0), (some (.goto 4), 42, 0, [], 0)] loc st μ) := by
  unfold mm_wp
  by_cases h : cut 4 = true
  · rw [if_pos h, if_pos h]
  · rw [if_neg h, if_neg h]; rfl
theorem wl_98_41 {Sh : List mm_C} {scr : Option (Nat × (Nat → Int32))} {rb : Bool} {Cs : Nat → List Value → mm_M → (Int32 → mm_M → Prop) → (mm_M → Prop) → Prop} {K : Nat → mm_L → List Value → mm_M → Prop} {RI : Int32 → mm_M → Prop} {RV : mm_M → Prop} {cut : Nat → Bool} {n : Nat} {loc : mm_L} {st : List Value} {μ : mm_M} : mm_wp Sh scr rb Cs K RI RV lab_98 cut (n + 1) 41 loc st μ = (if cut 41 = true then K 41 loc st μ else mm_wpB Sh scr rb Cs (mm_wp Sh scr rb Cs K RI RV lab_98 cut n) RI RV [(some (.iconst 0), 0, 0, [], 0), (none, 42, 0, [], 0)] loc st μ) := by
  unfold mm_wp
  by_cases h : cut 41 = true
  · rw [if_pos h, if_pos h]
  · rw [if_neg h, if_neg h]; rfl
theorem wl_98_42 {Sh : List mm_C} {scr : Option (Nat × (Nat → Int32))} {rb : Bool} {Cs : Nat → List Value → mm_M → (Int32 → mm_M → Prop) → (mm_M → Prop) → Prop} {K : Nat → mm_L → List Value → mm_M → Prop} {RI : Int32 → mm_M → Prop} {RV : mm_M → Prop} {cut : Nat → Bool} {n : Nat} {loc : mm_L} {st : List Value} {μ : mm_M} : mm_wp Sh scr rb Cs K RI RV lab_98 cut (n + 1) 42 loc st μ = (if cut 42 = true then K 42 loc st μ else mm_wpB Sh scr rb Cs (mm_wp Sh scr rb Cs K RI RV lab_98 cut n) RI RV [(some (.iadd), 0, 0, [], 0), (some (.istore_n 2), 0, 0, [], 0), (some (.iinc 3 1), 0, 0, [], 1), (some (.goto (-43)), 4, 0, [], 0)] loc st μ) := by
  unfold mm_wp
  by_cases h : cut 42 = true
  · rw [if_pos h, if_pos h]
  · rw [if_neg h, if_neg h]; rfl
theorem wl_98_50 {Sh : List mm_C} {scr : Option (Nat × (Nat → Int32))} {rb : Bool} {Cs : Nat → List Value → mm_M → (Int32 → mm_M → Prop) → (mm_M → Prop) → Prop} {K : Nat → mm_L → List Value → mm_M → Prop} {RI : Int32 → mm_M → Prop} {RV : mm_M → Prop} {cut : Nat → Bool} {n : Nat} {loc : mm_L} {st : List Value} {μ : mm_M} : mm_wp Sh scr rb Cs K RI RV lab_98 cut (n + 1) 50 loc st μ = (if cut 50 = true then K 50 loc st μ else mm_wpB Sh scr rb Cs (mm_wp Sh scr rb Cs K RI RV lab_98 cut n) RI RV [(some (.iload_n 2), 0, 0, [], 0), (some (.ireturn), 0, 0, [], 0)] loc st μ) := by
  unfold mm_wp
  by_cases h : cut 50 = true
  · rw [if_pos h, if_pos h]
  · rw [if_neg h, if_neg h]; rfl
theorem wl_99_0 {Sh : List mm_C} {scr : Option (Nat × (Nat → Int32))} {rb : Bool} {Cs : Nat → List Value → mm_M → (Int32 → mm_M → Prop) → (mm_M → Prop) → Prop} {K : Nat → mm_L → List Value → mm_M → Prop} {RI : Int32 → mm_M → Prop} {RV : mm_M → Prop} {cut : Nat → Bool} {n : Nat} {loc : mm_L} {st : List Value} {μ : mm_M} : mm_wp Sh scr rb Cs K RI RV lab_99 cut (n + 1) 0 loc st μ = (if cut 0 = true then K 0 loc st μ else mm_wpB Sh scr rb Cs (mm_wp Sh scr rb Cs K RI RV lab_99 cut n) RI RV [(some (.iload_n 1), 0, 0, [], 0), (some (.iconst 0), 0, 0, [], 0), (some (.iconst 5), 0, 0, [], 5), (some (.invokestatic 102), 68, 3, [], 0), (some (.ifCond .eq 24), 30, 0, [], 0), (some (.aload_n 0), 0, 0, [], 0), (some (.iload_n 2), 0, 0, [], 0), (some (.invokevirtual 132), 77, 2, [], 0), (some (.ifCond .eq 16), 30, 0, [], 0), (some (.iload_n 3), 0, 0, [], 0), (some (.iconst 1), 0, 0, [], 1), (some (.aload_n 0), 0, 0, [], 0), (some (.iload_n 2), 0, 0, [], 0), (some (.invokevirtual 189), 98, 2, [], 0), (some (.invokestatic 102), 68, 3, [], 0), (some (.ifCond .ne 5), 32, 0, [], 0), (none, 30, 0, [], 0)] loc st μ) := by
  unfold mm_wp
  by_cases h : cut 0 = true
  · rw [if_pos h, if_pos h]
  · rw [if_neg h, if_neg h]; rfl
theorem wl_99_30 {Sh : List mm_C} {scr : Option (Nat × (Nat → Int32))} {rb : Bool} {Cs : Nat → List Value → mm_M → (Int32 → mm_M → Prop) → (mm_M → Prop) → Prop} {K : Nat → mm_L → List Value → mm_M → Prop} {RI : Int32 → mm_M → Prop} {RV : mm_M → Prop} {cut : Nat → Bool} {n : Nat} {loc : mm_L} {st : List Value} {μ : mm_M} : mm_wp Sh scr rb Cs K RI RV lab_99 cut (n + 1) 30 loc st μ = (if cut 30 = true then K 30 loc st μ else mm_wpB Sh scr rb Cs (mm_wp Sh scr rb Cs K RI RV lab_99 cut n) RI RV [(some (.iconst (-1)), 0, 0, [], (-1)), (some (.ireturn), 0, 0, [], 0)] loc st μ) := by
  unfold mm_wp
  by_cases h : cut 30 = true
  · rw [if_pos h, if_pos h]
  · rw [if_neg h, if_neg h]; rfl
theorem wl_99_32 {Sh : List mm_C} {scr : Option (Nat × (Nat → Int32))} {rb : Bool} {Cs : Nat → List Value → mm_M → (Int32 → mm_M → Prop) → (mm_M → Prop) → Prop} {K : Nat → mm_L → List Value → mm_M → Prop} {RI : Int32 → mm_M → Prop} {RV : mm_M → Prop} {cut : Nat → Bool} {n : Nat} {loc : mm_L} {st : List Value} {μ : mm_M} : mm_wp Sh scr rb Cs K RI RV lab_99 cut (n + 1) 32 loc st μ = (if cut 32 = true then K 32 loc st μ else mm_wpB Sh scr rb Cs (mm_wp Sh scr rb Cs K RI RV lab_99 cut n) RI RV [(some (.iload_n 3), 0, 0, [], 0), (some (.istore 4), 0, 0, [], 0), (some (.iconst 0), 0, 0, [], 0), (some (.istore 5), 0, 0, [], 0), (some (.iconst 0), 0, 0, [], 0), (some (.istore 6), 0, 0, [], 0), (none, 41, 0, [], 0)] loc st μ) := by
  unfold mm_wp
  by_cases h : cut 32 = true
  · rw [if_pos h, if_pos h]
  · rw [if_neg h, if_neg h]; rfl
theorem wl_99_41 {Sh : List mm_C} {scr : Option (Nat × (Nat → Int32))} {rb : Bool} {Cs : Nat → List Value → mm_M → (Int32 → mm_M → Prop) → (mm_M → Prop) → Prop} {K : Nat → mm_L → List Value → mm_M → Prop} {RI : Int32 → mm_M → Prop} {RV : mm_M → Prop} {cut : Nat → Bool} {n : Nat} {loc : mm_L} {st : List Value} {μ : mm_M} : mm_wp Sh scr rb Cs K RI RV lab_99 cut (n + 1) 41 loc st μ = (if cut 41 = true then K 41 loc st μ else mm_wpB Sh scr rb Cs (mm_wp Sh scr rb Cs K RI RV lab_99 cut n) RI RV [(some (.iload 6), 0, 0, [], 0), (some (.aload_n 0), 0, 0, [], 0), (some (.getfield 135), 8, 18, [], 0), (some (.if_icmp .ge 120), 167, 0, [], 0), (some (.iload 4), 0, 0, [], 0), (some (.ifCond .le 115), 167, 0, [], 0), (some (.aload_n 0), 0, 0, [], 0), (some (.getfield 50), 8, 19, [], 0), (some (.iload 6), 0, 0, [], 0), (some (.iaload), 0, 0, [], 0), (some (.iload_n 2), 0, 0, [], 0), (some (.if_icmp .ne 98), 161, 0, [], 0), (some (.aload_n 0), 0, 0, [], 0), (some (.getfield 62), 8, 23, [], 0), (some (.iload 6), 0, 0, [], 0), (some (.baload), 0, 0, [], 0), (some (.ifCond .ne 88), 161, 0, [], 0), (some (.aload_n 0), 0, 0, [], 0), (some (.getfield 53), 8, 20, [], 0), (some (.iload 6), 0, 0, [], 0), (some (.iaload), 0, 0, [], 0), (some (.ifCond .ne 6), 89, 0, [], 0), (some (.goto 75), 161, 0, [], 0)] loc st μ) := by
  unfold mm_wp
  by_cases h : cut 41 = true
  · rw [if_pos h, if_pos h]
  · rw [if_neg h, if_neg h]; rfl
theorem wl_99_89 {Sh : List mm_C} {scr : Option (Nat × (Nat → Int32))} {rb : Bool} {Cs : Nat → List Value → mm_M → (Int32 → mm_M → Prop) → (mm_M → Prop) → Prop} {K : Nat → mm_L → List Value → mm_M → Prop} {RI : Int32 → mm_M → Prop} {RV : mm_M → Prop} {cut : Nat → Bool} {n : Nat} {loc : mm_L} {st : List Value} {μ : mm_M} : mm_wp Sh scr rb Cs K RI RV lab_99 cut (n + 1) 89 loc st μ = (if cut 89 = true then K 89 loc st μ else mm_wpB Sh scr rb Cs (mm_wp Sh scr rb Cs K RI RV lab_99 cut n) RI RV [(some (.aload_n 0), 0, 0, [], 0), (some (.getfield 53), 8, 20, [], 0), (some (.iload 6), 0, 0, [], 0), (some (.iaload), 0, 0, [], 0), (some (.iload 4), 0, 0, [], 0), (some (.if_icmp .ge 13), 111, 0, [], 0), (some (.aload_n 0), 0, 0, [], 0), (some (.getfield 53), 8, 20, [], 0), (some (.iload 6), 0, 0, [], 0), (some (.iaload), 0, 0, [], 0), (some (.goto 5), 113, 0, [], 0)] loc st μ) := by
  unfold mm_wp
  by_cases h : cut 89 = true
  · rw [if_pos h, if_pos h]
  · rw [if_neg h, if_neg h]; rfl
theorem wl_99_111 {Sh : List mm_C} {scr : Option (Nat × (Nat → Int32))} {rb : Bool} {Cs : Nat → List Value → mm_M → (Int32 → mm_M → Prop) → (mm_M → Prop) → Prop} {K : Nat → mm_L → List Value → mm_M → Prop} {RI : Int32 → mm_M → Prop} {RV : mm_M → Prop} {cut : Nat → Bool} {n : Nat} {loc : mm_L} {st : List Value} {μ : mm_M} : mm_wp Sh scr rb Cs K RI RV lab_99 cut (n + 1) 111 loc st μ = (if cut 111 = true then K 111 loc st μ else mm_wpB Sh scr rb Cs (mm_wp Sh scr rb Cs K RI RV lab_99 cut n) RI RV [(some (.iload 4), 0, 0, [], 0), (none, 113, 0, [], 0)] loc st μ) := by
  unfold mm_wp
  by_cases h : cut 111 = true
  · rw [if_pos h, if_pos h]
  · rw [if_neg h, if_neg h]; rfl
theorem wl_99_113 {Sh : List mm_C} {scr : Option (Nat × (Nat → Int32))} {rb : Bool} {Cs : Nat → List Value → mm_M → (Int32 → mm_M → Prop) → (mm_M → Prop) → Prop} {K : Nat → mm_L → List Value → mm_M → Prop} {RI : Int32 → mm_M → Prop} {RV : mm_M → Prop} {cut : Nat → Bool} {n : Nat} {loc : mm_L} {st : List Value} {μ : mm_M} : mm_wp Sh scr rb Cs K RI RV lab_99 cut (n + 1) 113 loc st μ = (if cut 113 = true then K 113 loc st μ else mm_wpB Sh scr rb Cs (mm_wp Sh scr rb Cs K RI RV lab_99 cut n) RI RV [(some (.istore 7), 0, 0, [], 0), (some (.aload_n 0), 0, 0, [], 0), (some (.getfield 53), 8, 20, [], 0), (some (.iload 6), 0, 0, [], 0), (some (.dup2), 0, 0, [], 0), (some (.iaload), 0, 0, [], 0), (some (.iload 7), 0, 0, [], 0), (some (.isub), 0, 0, [], 0), (some (.iastore), 0, 0, [], 0), (some (.iload 4), 0, 0, [], 0), (some (.iload 7), 0, 0, [], 0), (some (.isub), 0, 0, [], 0), (some (.istore 4), 0, 0, [], 0), (some (.iload 5), 0, 0, [], 0), (some (.iload 7), 0, 0, [], 0), (some (.aload_n 0), 0, 0, [], 0), (some (.iload 6), 0, 0, [], 0), (some (.invokevirtual 192), 97, 2, [], 0), (some (.imul), 0, 0, [], 0), (some (.iadd), 0, 0, [], 0), (some (.istore 5), 0, 0, [], 0), (some (.aload_n 0), 0, 0, [], 0), (some (.getfield 65), 8, 24, [], 0), (some (.iload 6), 0, 0, [], 0), (some (.dup2), 0, 0, [], 0), (some (.iaload), 0, 0, [], 0), (some (.iconst 1), 0, 0, [], 1), (some (.iload_n 1), 0, 0, [], 0), (some (.ishl), 0, 0, [], 0), (some (.ior), 0, 0, [], 0), (some (.iastore), 0, 0, [], 0), (none, 161, 0, [], 0)] loc st μ) := by
  unfold mm_wp
  by_cases h : cut 113 = true
  · rw [if_pos h, if_pos h]
  · rw [if_neg h, if_neg h]; rfl
theorem wl_99_161 {Sh : List mm_C} {scr : Option (Nat × (Nat → Int32))} {rb : Bool} {Cs : Nat → List Value → mm_M → (Int32 → mm_M → Prop) → (mm_M → Prop) → Prop} {K : Nat → mm_L → List Value → mm_M → Prop} {RI : Int32 → mm_M → Prop} {RV : mm_M → Prop} {cut : Nat → Bool} {n : Nat} {loc : mm_L} {st : List Value} {μ : mm_M} : mm_wp Sh scr rb Cs K RI RV lab_99 cut (n + 1) 161 loc st μ = (if cut 161 = true then K 161 loc st μ else mm_wpB Sh scr rb Cs (mm_wp Sh scr rb Cs K RI RV lab_99 cut n) RI RV [(some (.iinc 6 1), 0, 0, [], 1), (some (.goto (-123)), 41, 0, [], 0)] loc st μ) := by
  unfold mm_wp
  by_cases h : cut 161 = true
  · rw [if_pos h, if_pos h]
  · rw [if_neg h, if_neg h]; rfl
theorem wl_99_167 {Sh : List mm_C} {scr : Option (Nat × (Nat → Int32))} {rb : Bool} {Cs : Nat → List Value → mm_M → (Int32 → mm_M → Prop) → (mm_M → Prop) → Prop} {K : Nat → mm_L → List Value → mm_M → Prop} {RI : Int32 → mm_M → Prop} {RV : mm_M → Prop} {cut : Nat → Bool} {n : Nat} {loc : mm_L} {st : List Value} {μ : mm_M} : mm_wp Sh scr rb Cs K RI RV lab_99 cut (n + 1) 167 loc st μ = (if cut 167 = true then K 167 loc st μ else mm_wpB Sh scr rb Cs (mm_wp Sh scr rb Cs K RI RV lab_99 cut n) RI RV [(some (.aload_n 0), 0, 0, [], 0), (some (.dup), 0, 0, [], 0), (some (.getfield 195), 8, 26, [], 0), (some (.iload 5), 0, 0, [], 0), (some (.iadd), 0, 0, [], 0), (some (.putfield 195), 8, 26, [], 0), (some (.iload_n 3), 0, 0, [], 0), (some (.istore 4), 0, 0, [], 0), (some (.iconst 0), 0, 0, [], 0), (some (.istore 6), 0, 0, [], 0), (none, 184, 0, [], 0)] loc st μ) := by
  unfold mm_wp
  by_cases h : cut 167 = true
  · rw [if_pos h, if_pos h]
  · rw [if_neg h, if_neg h]; rfl
theorem wl_99_184 {Sh : List mm_C} {scr : Option (Nat × (Nat → Int32))} {rb : Bool} {Cs : Nat → List Value → mm_M → (Int32 → mm_M → Prop) → (mm_M → Prop) → Prop} {K : Nat → mm_L → List Value → mm_M → Prop} {RI : Int32 → mm_M → Prop} {RV : mm_M → Prop} {cut : Nat → Bool} {n : Nat} {loc : mm_L} {st : List Value} {μ : mm_M} : mm_wp Sh scr rb Cs K RI RV lab_99 cut (n + 1) 184 loc st μ = (if cut 184 = true then K 184 loc st μ else mm_wpB Sh scr rb Cs (mm_wp Sh scr rb Cs K RI RV lab_99 cut n) RI RV [(some (.iload 6), 0, 0, [], 0), (some (.bipush 30), 0, 0, [], 30), (some (.if_icmp .ge 135), 323, 0, [], 0), (some (.iconst 0), 0, 0, [], 0), (some (.istore 7), 0, 0, [], 0), (none, 194, 0, [], 0)] loc st μ) := by
  unfold mm_wp
  by_cases h : cut 184 = true
  · rw [if_pos h, if_pos h]
  · rw [if_neg h, if_neg h]; rfl
theorem wl_99_194 {Sh : List mm_C} {scr : Option (Nat × (Nat → Int32))} {rb : Bool} {Cs : Nat → List Value → mm_M → (Int32 → mm_M → Prop) → (mm_M → Prop) → Prop} {K : Nat → mm_L → List Value → mm_M → Prop} {RI : Int32 → mm_M → Prop} {RV : mm_M → Prop} {cut : Nat → Bool} {n : Nat} {loc : mm_L} {st : List Value} {μ : mm_M} : mm_wp Sh scr rb Cs K RI RV lab_99 cut (n + 1) 194 loc st μ = (if cut 194 = true then K 194 loc st μ else mm_wpB Sh scr rb Cs (mm_wp Sh scr rb Cs K RI RV lab_99 cut n) RI RV [(some (.iload 7), 0, 0, [], 0), (some (.aload_n 0), 0, 0, [], 0), (some (.getfield 173), 8, 27, [], 0), (some (.if_icmp .ge 117), 317, 0, [], 0), (some (.aload_n 0), 0, 0, [], 0), (some (.getfield 86), 8, 33, [], 0), (some (.iload 7), 0, 0, [], 0), (some (.baload), 0, 0, [], 0), (some (.ifCond .ne 101), 311, 0, [], 0), (some (.aload_n 0), 0, 0, [], 0), (some (.getfield 80), 8, 31, [], 0), (some (.iload 7), 0, 0, [], 0), (some (.iaload), 0, 0, [], 0), (some (.iload 6), 0, 0, [], 0), (some (.if_icmp .ne 89), 311, 0, [], 0), (some (.aload_n 0), 0, 0, [], 0), (some (.getfield 71), 8, 28, [], 0), (some (.iload 7), 0, 0, [], 0), (some (.iaload), 0, 0, [], 0), (some (.iload_n 1), 0, 0, [], 0), (some (.if_icmp .ne 78), 311, 0, [], 0), (some (.aload_n 0), 0, 0, [], 0), (some (.getfield 74), 8, 29, [], 0), (some (.iload 7), 0, 0, [], 0), (some (.iaload), 0, 0, [], 0), (some (.iload_n 2), 0, 0, [], 0), (some (.if_icmp .eq 6), 250, 0, [], 0), (some (.goto 64), 311, 0, [], 0)] loc st μ) := by
  unfold mm_wp
  by_cases h : cut 194 = true
  · rw [if_pos h, if_pos h]
  · rw [if_neg h, if_neg h]; rfl
theorem wl_99_250 {Sh : List mm_C} {scr : Option (Nat × (Nat → Int32))} {rb : Bool} {Cs : Nat → List Value → mm_M → (Int32 → mm_M → Prop) → (mm_M → Prop) → Prop} {K : Nat → mm_L → List Value → mm_M → Prop} {RI : Int32 → mm_M → Prop} {RV : mm_M → Prop} {cut : Nat → Bool} {n : Nat} {loc : mm_L} {st : List Value} {μ : mm_M} : mm_wp Sh scr rb Cs K RI RV lab_99 cut (n + 1) 250 loc st μ = (if cut 250 = true then K 250 loc st μ else mm_wpB Sh scr rb Cs (mm_wp Sh scr rb Cs K RI RV lab_99 cut n) RI RV [(some (.aload_n 0), 0, 0, [], 0), (some (.getfield 77), 8, 30, [], 0), (some (.iload 7), 0, 0, [], 0), (some (.iaload), 0, 0, [], 0), (some (.aload_n 0), 0, 0, [], 0), (some (.getfield 83), 8, 32, [], 0), (some (.iload 7), 0, 0, [], 0), (some (.iaload), 0, 0, [], 0), (some (.isub), 0, 0, [], 0), (some (.iload 4), 0, 0, [], 0), (some (.if_icmp .ge 21), 288, 0, [], 0), (some (.aload_n 0), 0, 0, [], 0), (some (.getfield 77), 8, 30, [], 0), (some (.iload 7), 0, 0, [], 0), (some (.iaload), 0, 0, [], 0), (some (.aload_n 0), 0, 0, [], 0), (some (.getfield 83), 8, 32, [], 0), (some (.iload 7), 0, 0, [], 0), (some (.iaload), 0, 0, [], 0), (some (.isub), 0, 0, [], 0), (some (.goto 5), 290, 0, [], 0)] loc st μ) := by
  unfold mm_wp
  by_cases h : cut 250 = true
  · rw [if_pos h, if_pos h]
  · rw [if_neg h, if_neg h]; rfl
theorem wl_99_288 {Sh : List mm_C} {scr : Option (Nat × (Nat → Int32))} {rb : Bool} {Cs : Nat → List Value → mm_M → (Int32 → mm_M → Prop) → (mm_M → Prop) → Prop} {K : Nat → mm_L → List Value → mm_M → Prop} {RI : Int32 → mm_M → Prop} {RV : mm_M → Prop} {cut : Nat → Bool} {n : Nat} {loc : mm_L} {st : List Value} {μ : mm_M} : mm_wp Sh scr rb Cs K RI RV lab_99 cut (n + 1) 288 loc st μ = (if cut 288 = true then K 288 loc st μ else mm_wpB Sh scr rb Cs (mm_wp Sh scr rb Cs K RI RV lab_99 cut n) RI RV [(some (.iload 4), 0, 0, [], 0), (none, 290, 0, [], 0)] loc st μ) := by
  unfold mm_wp
  by_cases h : cut 288 = true
  · rw [if_pos h, if_pos h]
  · rw [if_neg h, if_neg h]; rfl
theorem wl_99_290 {Sh : List mm_C} {scr : Option (Nat × (Nat → Int32))} {rb : Bool} {Cs : Nat → List Value → mm_M → (Int32 → mm_M → Prop) → (mm_M → Prop) → Prop} {K : Nat → mm_L → List Value → mm_M → Prop} {RI : Int32 → mm_M → Prop} {RV : mm_M → Prop} {cut : Nat → Bool} {n : Nat} {loc : mm_L} {st : List Value} {μ : mm_M} : mm_wp Sh scr rb Cs K RI RV lab_99 cut (n + 1) 290 loc st μ = (if cut 290 = true then K 290 loc st μ else mm_wpB Sh scr rb Cs (mm_wp Sh scr rb Cs K RI RV lab_99 cut n) RI RV [(some (.istore 8), 0, 0, [], 0), (some (.aload_n 0), 0, 0, [], 0), (some (.getfield 83), 8, 32, [], 0), (some (.iload 7), 0, 0, [], 0), (some (.dup2), 0, 0, [], 0), (some (.iaload), 0, 0, [], 0), (some (.iload 8), 0, 0, [], 0), (some (.iadd), 0, 0, [], 0), (some (.iastore), 0, 0, [], 0), (some (.iload 4), 0, 0, [], 0), (some (.iload 8), 0, 0, [], 0), (some (.isub), 0, 0, [], 0), (some (.istore 4), 0, 0, [], 0), (none, 311, 0, [], 0)] loc st μ) := by
  unfold mm_wp
  by_cases h : cut 290 = true
  · rw [if_pos h, if_pos h]
  · rw [if_neg h, if_neg h]; rfl
theorem wl_99_311 {Sh : List mm_C} {scr : Option (Nat × (Nat → Int32))} {rb : Bool} {Cs : Nat → List Value → mm_M → (Int32 → mm_M → Prop) → (mm_M → Prop) → Prop} {K : Nat → mm_L → List Value → mm_M → Prop} {RI : Int32 → mm_M → Prop} {RV : mm_M → Prop} {cut : Nat → Bool} {n : Nat} {loc : mm_L} {st : List Value} {μ : mm_M} : mm_wp Sh scr rb Cs K RI RV lab_99 cut (n + 1) 311 loc st μ = (if cut 311 = true then K 311 loc st μ else mm_wpB Sh scr rb Cs (mm_wp Sh scr rb Cs K RI RV lab_99 cut n) RI RV [(some (.iinc 7 1), 0, 0, [], 1), (some (.goto (-120)), 194, 0, [], 0)] loc st μ) := by
  unfold mm_wp
  by_cases h : cut 311 = true
  · rw [if_pos h, if_pos h]
  · rw [if_neg h, if_neg h]; rfl
theorem wl_99_317 {Sh : List mm_C} {scr : Option (Nat × (Nat → Int32))} {rb : Bool} {Cs : Nat → List Value → mm_M → (Int32 → mm_M → Prop) → (mm_M → Prop) → Prop} {K : Nat → mm_L → List Value → mm_M → Prop} {RI : Int32 → mm_M → Prop} {RV : mm_M → Prop} {cut : Nat → Bool} {n : Nat} {loc : mm_L} {st : List Value} {μ : mm_M} : mm_wp Sh scr rb Cs K RI RV lab_99 cut (n + 1) 317 loc st μ = (if cut 317 = true then K 317 loc st μ else mm_wpB Sh scr rb Cs (mm_wp Sh scr rb Cs K RI RV lab_99 cut n) RI RV [(some (.iinc 6 1), 0, 0, [], 1), (some (.goto (-136)), 184, 0, [], 0)] loc st μ) := by
  unfold mm_wp
  by_cases h : cut 317 = true
  · rw [if_pos h, if_pos h]
  · rw [if_neg h, if_neg h]; rfl
theorem wl_99_323 {Sh : List mm_C} {scr : Option (Nat × (Nat → Int32))} {rb : Bool} {Cs : Nat → List Value → mm_M → (Int32 → mm_M → Prop) → (mm_M → Prop) → Prop} {K : Nat → mm_L → List Value → mm_M → Prop} {RI : Int32 → mm_M → Prop} {RV : mm_M → Prop} {cut : Nat → Bool} {n : Nat} {loc : mm_L} {st : List Value} {μ : mm_M} : mm_wp Sh scr rb Cs K RI RV lab_99 cut (n + 1) 323 loc st μ = (if cut 323 = true then K 323 loc st μ else mm_wpB Sh scr rb Cs (mm_wp Sh scr rb Cs K RI RV lab_99 cut n) RI RV [(some (.iload 5), 0, 0, [], 0), (some (.ireturn), 0, 0, [], 0)] loc st μ) := by
  unfold mm_wp
  by_cases h : cut 323 = true
  · rw [if_pos h, if_pos h]
  · rw [if_neg h, if_neg h]; rfl
theorem wl_100_0 {Sh : List mm_C} {scr : Option (Nat × (Nat → Int32))} {rb : Bool} {Cs : Nat → List Value → mm_M → (Int32 → mm_M → Prop) → (mm_M → Prop) → Prop} {K : Nat → mm_L → List Value → mm_M → Prop} {RI : Int32 → mm_M → Prop} {RV : mm_M → Prop} {cut : Nat → Bool} {n : Nat} {loc : mm_L} {st : List Value} {μ : mm_M} : mm_wp Sh scr rb Cs K RI RV lab_100 cut (n + 1) 0 loc st μ = (if cut 0 = true then K 0 loc st μ else mm_wpB Sh scr rb Cs (mm_wp Sh scr rb Cs K RI RV lab_100 cut n) RI RV [(some (.iload_n 1), 0, 0, [], 0), (some (.iconst 0), 0, 0, [], 0), (some (.iconst 5), 0, 0, [], 5), (some (.invokestatic 102), 68, 3, [], 0), (some (.ifCond .eq 49), 55, 0, [], 0), (some (.aload_n 0), 0, 0, [], 0), (some (.iload_n 2), 0, 0, [], 0), (some (.invokevirtual 132), 77, 2, [], 0), (some (.ifCond .eq 41), 55, 0, [], 0), (some (.iload_n 3), 0, 0, [], 0), (some (.iconst 1), 0, 0, [], 1), (some (.sipush 500), 0, 0, [], 500), (some (.invokestatic 102), 68, 3, [], 0), (some (.ifCond .eq 30), 55, 0, [], 0), (some (.iload 4), 0, 0, [], 0), (some (.aload_n 0), 0, 0, [], 0), (some (.getfield 106), 8, 0, [], 0), (some (.sipush 168), 0, 0, [], 168), (some (.idiv), 0, 0, [], 0), (some (.bipush 29), 0, 0, [], 29), (some (.invokestatic 102), 68, 3, [], 0), (some (.ifCond .eq 12), 55, 0, [], 0), (some (.aload_n 0), 0, 0, [], 0), (some (.getfield 173), 8, 27, [], 0), (some (.bipush 20), 0, 0, [], 20), (some (.if_icmp .ne 5), 57, 0, [], 0), (none, 55, 0, [], 0)] loc st μ) := by
  unfold mm_wp
  by_cases h : cut 0 = true
  · rw [if_pos h, if_pos h]
  · rw [if_neg h, if_neg h]; rfl
theorem wl_100_55 {Sh : List mm_C} {scr : Option (Nat × (Nat → Int32))} {rb : Bool} {Cs : Nat → List Value → mm_M → (Int32 → mm_M → Prop) → (mm_M → Prop) → Prop} {K : Nat → mm_L → List Value → mm_M → Prop} {RI : Int32 → mm_M → Prop} {RV : mm_M → Prop} {cut : Nat → Bool} {n : Nat} {loc : mm_L} {st : List Value} {μ : mm_M} : mm_wp Sh scr rb Cs K RI RV lab_100 cut (n + 1) 55 loc st μ = (if cut 55 = true then K 55 loc st μ else mm_wpB Sh scr rb Cs (mm_wp Sh scr rb Cs K RI RV lab_100 cut n) RI RV [(some (.iconst (-1)), 0, 0, [], (-1)), (some (.ireturn), 0, 0, [], 0)] loc st μ) := by
  unfold mm_wp
  by_cases h : cut 55 = true
  · rw [if_pos h, if_pos h]
  · rw [if_neg h, if_neg h]; rfl
theorem wl_100_57 {Sh : List mm_C} {scr : Option (Nat × (Nat → Int32))} {rb : Bool} {Cs : Nat → List Value → mm_M → (Int32 → mm_M → Prop) → (mm_M → Prop) → Prop} {K : Nat → mm_L → List Value → mm_M → Prop} {RI : Int32 → mm_M → Prop} {RV : mm_M → Prop} {cut : Nat → Bool} {n : Nat} {loc : mm_L} {st : List Value} {μ : mm_M} : mm_wp Sh scr rb Cs K RI RV lab_100 cut (n + 1) 57 loc st μ = (if cut 57 = true then K 57 loc st μ else mm_wpB Sh scr rb Cs (mm_wp Sh scr rb Cs K RI RV lab_100 cut n) RI RV [(some (.aload_n 0), 0, 0, [], 0), (some (.getfield 71), 8, 28, [], 0), (some (.aload_n 0), 0, 0, [], 0), (some (.getfield 173), 8, 27, [], 0), (some (.iload_n 1), 0, 0, [], 0), (some (.iastore), 0, 0, [], 0), (some (.aload_n 0), 0, 0, [], 0), (some (.getfield 74), 8, 29, [], 0), (some (.aload_n 0), 0, 0, [], 0), (some (.getfield 173), 8, 27, [], 0), (some (.iload_n 2), 0, 0, [], 0), (some (.iastore), 0, 0, [], 0), (some (.aload_n 0), 0, 0, [], 0), (some (.getfield 77), 8, 30, [], 0), (some (.aload_n 0), 0, 0, [], 0), (some (.getfield 173), 8, 27, [], 0), (some (.iload_n 3), 0, 0, [], 0), (some (.iastore), 0, 0, [], 0), (some (.aload_n 0), 0, 0, [], 0), (some (.getfield 80), 8, 31, [], 0), (some (.aload_n 0), 0, 0, [], 0), (some (.getfield 173), 8, 27, [], 0), (some (.iload 4), 0, 0, [], 0), (some (.iastore), 0, 0, [], 0), (some (.aload_n 0), 0, 0, [], 0), (some (.dup), 0, 0, [], 0), (some (.getfield 173), 8, 27, [], 0), (some (.iconst 1), 0, 0, [], 1), (some (.iadd), 0, 0, [], 0), (some (.putfield 173), 8, 27, [], 0), (some (.aload_n 0), 0, 0, [], 0), (some (.getfield 173), 8, 27, [], 0), (some (.iconst 1), 0, 0, [], 1), (some (.isub), 0, 0, [], 0), (some (.ireturn), 0, 0, [], 0)] loc st μ) := by
  unfold mm_wp
  by_cases h : cut 57 = true
  · rw [if_pos h, if_pos h]
  · rw [if_neg h, if_neg h]; rfl
theorem wl_101_0 {Sh : List mm_C} {scr : Option (Nat × (Nat → Int32))} {rb : Bool} {Cs : Nat → List Value → mm_M → (Int32 → mm_M → Prop) → (mm_M → Prop) → Prop} {K : Nat → mm_L → List Value → mm_M → Prop} {RI : Int32 → mm_M → Prop} {RV : mm_M → Prop} {cut : Nat → Bool} {n : Nat} {loc : mm_L} {st : List Value} {μ : mm_M} : mm_wp Sh scr rb Cs K RI RV lab_101 cut (n + 1) 0 loc st μ = (if cut 0 = true then K 0 loc st μ else mm_wpB Sh scr rb Cs (mm_wp Sh scr rb Cs K RI RV lab_101 cut n) RI RV [(some (.iload_n 1), 0, 0, [], 0), (some (.iconst 0), 0, 0, [], 0), (some (.aload_n 0), 0, 0, [], 0), (some (.getfield 173), 8, 27, [], 0), (some (.iconst 1), 0, 0, [], 1), (some (.isub), 0, 0, [], 0), (some (.invokestatic 102), 68, 3, [], 0), (some (.ifCond .eq 12), 23, 0, [], 0), (some (.aload_n 0), 0, 0, [], 0), (some (.getfield 86), 8, 33, [], 0), (some (.iload_n 1), 0, 0, [], 0), (some (.baload), 0, 0, [], 0), (some (.ifCond .eq 5), 25, 0, [], 0), (none, 23, 0, [], 0)] loc st μ) := by
  unfold mm_wp
  by_cases h : cut 0 = true
  · rw [if_pos h, if_pos h]
  · rw [if_neg h, if_neg h]; rfl
theorem wl_101_23 {Sh : List mm_C} {scr : Option (Nat × (Nat → Int32))} {rb : Bool} {Cs : Nat → List Value → mm_M → (Int32 → mm_M → Prop) → (mm_M → Prop) → Prop} {K : Nat → mm_L → List Value → mm_M → Prop} {RI : Int32 → mm_M → Prop} {RV : mm_M → Prop} {cut : Nat → Bool} {n : Nat} {loc : mm_L} {st : List Value} {μ : mm_M} : mm_wp Sh scr rb Cs K RI RV lab_101 cut (n + 1) 23 loc st μ = (if cut 23 = true then K 23 loc st μ else mm_wpB Sh scr rb Cs (mm_wp Sh scr rb Cs K RI RV lab_101 cut n) RI RV [(some (.iconst (-1)), 0, 0, [], (-1)), (some (.ireturn), 0, 0, [], 0)] loc st μ) := by
  unfold mm_wp
  by_cases h : cut 23 = true
  · rw [if_pos h, if_pos h]
  · rw [if_neg h, if_neg h]; rfl
theorem wl_101_25 {Sh : List mm_C} {scr : Option (Nat × (Nat → Int32))} {rb : Bool} {Cs : Nat → List Value → mm_M → (Int32 → mm_M → Prop) → (mm_M → Prop) → Prop} {K : Nat → mm_L → List Value → mm_M → Prop} {RI : Int32 → mm_M → Prop} {RV : mm_M → Prop} {cut : Nat → Bool} {n : Nat} {loc : mm_L} {st : List Value} {μ : mm_M} : mm_wp Sh scr rb Cs K RI RV lab_101 cut (n + 1) 25 loc st μ = (if cut 25 = true then K 25 loc st μ else mm_wpB Sh scr rb Cs (mm_wp Sh scr rb Cs K RI RV lab_101 cut n) RI RV [(some (.aload_n 0), 0, 0, [], 0), (some (.aload_n 0), 0, 0, [], 0), (some (.getfield 74), 8, 29, [], 0), (some (.iload_n 1), 0, 0, [], 0), (some (.iaload), 0, 0, [], 0), (some (.invokevirtual 189), 98, 2, [], 0), (some (.istore_n 2), 0, 0, [], 0), (some (.iconst 0), 0, 0, [], 0), (some (.istore_n 3), 0, 0, [], 0), (some (.iconst 0), 0, 0, [], 0), (some (.istore 4), 0, 0, [], 0), (none, 41, 0, [], 0)] loc st μ) := by
  unfold mm_wp
  by_cases h : cut 25 = true
  · rw [if_pos h, if_pos h]
  · rw [if_neg h, if_neg h]; rfl
theorem wl_101_41 {Sh : List mm_C} {scr : Option (Nat × (Nat → Int32))} {rb : Bool} {Cs : Nat → List Value → mm_M → (Int32 → mm_M → Prop) → (mm_M → Prop) → Prop} {K : Nat → mm_L → List Value → mm_M → Prop} {RI : Int32 → mm_M → Prop} {RV : mm_M → Prop} {cut : Nat → Bool} {n : Nat} {loc : mm_L} {st : List Value} {μ : mm_M} : mm_wp Sh scr rb Cs K RI RV lab_101 cut (n + 1) 41 loc st μ = (if cut 41 = true then K 41 loc st μ else mm_wpB Sh scr rb Cs (mm_wp Sh scr rb Cs K RI RV lab_101 cut n) RI RV [(some (.iload 4), 0, 0, [], 0), (some (.aload_n 0), 0, 0, [], 0), (some (.getfield 173), 8, 27, [], 0), (some (.if_icmp .ge 110), 157, 0, [], 0), (some (.aload_n 0), 0, 0, [], 0), (some (.getfield 86), 8, 33, [], 0), (some (.iload 4), 0, 0, [], 0), (some (.baload), 0, 0, [], 0), (some (.ifCond .ne 94), 151, 0, [], 0), (some (.aload_n 0), 0, 0, [], 0), (some (.getfield 74), 8, 29, [], 0), (some (.iload 4), 0, 0, [], 0), (some (.iaload), 0, 0, [], 0), (some (.aload_n 0), 0, 0, [], 0), (some (.getfield 74), 8, 29, [], 0), (some (.iload_n 1), 0, 0, [], 0), (some (.iaload), 0, 0, [], 0), (some (.if_icmp .eq 6), 79, 0, [], 0), (some (.goto 75), 151, 0, [], 0)] loc st μ) := by
  unfold mm_wp
  by_cases h : cut 41 = true
  · rw [if_pos h, if_pos h]
  · rw [if_neg h, if_neg h]; rfl
theorem wl_101_79 {Sh : List mm_C} {scr : Option (Nat × (Nat → Int32))} {rb : Bool} {Cs : Nat → List Value → mm_M → (Int32 → mm_M → Prop) → (mm_M → Prop) → Prop} {K : Nat → mm_L → List Value → mm_M → Prop} {RI : Int32 → mm_M → Prop} {RV : mm_M → Prop} {cut : Nat → Bool} {n : Nat} {loc : mm_L} {st : List Value} {μ : mm_M} : mm_wp Sh scr rb Cs K RI RV lab_101 cut (n + 1) 79 loc st μ = (if cut 79 = true then K 79 loc st μ else mm_wpB Sh scr rb Cs (mm_wp Sh scr rb Cs K RI RV lab_101 cut n) RI RV [(some (.aload_n 0), 0, 0, [], 0), (some (.getfield 80), 8, 31, [], 0), (some (.iload 4), 0, 0, [], 0), (some (.iaload), 0, 0, [], 0), (some (.aload_n 0), 0, 0, [], 0), (some (.getfield 80), 8, 31, [], 0), (some (.iload_n 1), 0, 0, [], 0), (some (.iaload), 0, 0, [], 0), (some (.if_icmp .lt 25), 117, 0, [], 0), (some (.aload_n 0), 0, 0, [], 0), (some (.getfield 80), 8, 31, [], 0), (some (.iload 4), 0, 0, [], 0), (some (.iaload), 0, 0, [], 0), (some (.aload_n 0), 0, 0, [], 0), (some (.getfield 80), 8, 31, [], 0), (some (.iload_n 1), 0, 0, [], 0), (some (.iaload), 0, 0, [], 0), (some (.if_icmp .ne 13), 121, 0, [], 0), (some (.iload 4), 0, 0, [], 0), (some (.iload_n 1), 0, 0, [], 0), (some (.if_icmp .ge 7), 121, 0, [], 0), (none, 117, 0, [], 0)] loc st μ) := by
  unfold mm_wp
  by_cases h : cut 79 = true
  · rw [if_pos h, if_pos h]
  · rw [if_neg h, if_neg h]; rfl
theorem wl_101_117 {Sh : List mm_C} {scr : Option (Nat × (Nat → Int32))} {rb : Bool} {Cs : Nat → List Value → mm_M → (Int32 → mm_M → Prop) → (mm_M → Prop) → Prop} {K : Nat → mm_L → List Value → mm_M → Prop} {RI : Int32 → mm_M → Prop} {RV : mm_M → Prop} {cut : Nat → Bool} {n : Nat} {loc : mm_L} {st : List Value} {μ : mm_M} : mm_wp Sh scr rb Cs K RI RV lab_101 cut (n + 1) 117 loc st μ = (if cut 117 = true then K 117 loc st μ else mm_wpB Sh scr rb Cs (mm_wp Sh scr rb Cs K RI RV lab_101 cut n) RI RV [(some (.iconst 1), 0, 0, [], 1), (some (.goto 4), 122, 0, [], 0)] loc st μ) := by
  unfold mm_wp
  by_cases h : cut 117 = true
  · rw [if_pos h, if_pos h]
  · rw [if_neg h, if_neg h]; rfl
theorem wl_101_121 {Sh : List mm_C} {scr : Option (Nat × (Nat → Int32))} {rb : Bool} {Cs : Nat → List Value → mm_M → (Int32 → mm_M → Prop) → (mm_M → Prop) → Prop} {K : Nat → mm_L → List Value → mm_M → Prop} {RI : Int32 → mm_M → Prop} {RV : mm_M → Prop} {cut : Nat → Bool} {n : Nat} {loc : mm_L} {st : List Value} {μ : mm_M} : mm_wp Sh scr rb Cs K RI RV lab_101 cut (n + 1) 121 loc st μ = (if cut 121 = true then K 121 loc st μ else mm_wpB Sh scr rb Cs (mm_wp Sh scr rb Cs K RI RV lab_101 cut n) RI RV [(some (.iconst 0), 0, 0, [], 0), (none, 122, 0, [], 0)] loc st μ) := by
  unfold mm_wp
  by_cases h : cut 121 = true
  · rw [if_pos h, if_pos h]
  · rw [if_neg h, if_neg h]; rfl
theorem wl_101_122 {Sh : List mm_C} {scr : Option (Nat × (Nat → Int32))} {rb : Bool} {Cs : Nat → List Value → mm_M → (Int32 → mm_M → Prop) → (mm_M → Prop) → Prop} {K : Nat → mm_L → List Value → mm_M → Prop} {RI : Int32 → mm_M → Prop} {RV : mm_M → Prop} {cut : Nat → Bool} {n : Nat} {loc : mm_L} {st : List Value} {μ : mm_M} : mm_wp Sh scr rb Cs K RI RV lab_101 cut (n + 1) 122 loc st μ = (if cut 122 = true then K 122 loc st μ else mm_wpB Sh scr rb Cs (mm_wp Sh scr rb Cs K RI RV lab_101 cut n) RI RV [(some (.istore 5), 0, 0, [], 0), (some (.iload_n 3), 0, 0, [], 0), (some (.iload 5), 0, 0, [], 0), (some (.ifCond .eq 21), 148, 0, [], 0), (some (.aload_n 0), 0, 0, [], 0), (some (.getfield 77), 8, 30, [], 0), (some (.iload 4), 0, 0, [], 0), (some (.iaload), 0, 0, [], 0), (some (.aload_n 0), 0, 0, [], 0), (some (.getfield 83), 8, 32, [], 0), (some (.iload 4), 0, 0, [], 0), (some (.iaload), 0, 0, [], 0), (some (.isub), 0, 0, [], 0), (some (.goto 4), 149, 0, [], 0)] loc st μ) := by
  unfold mm_wp
  by_cases h : cut 122 = true
  · rw [if_pos h, if_pos h]
  · rw [if_neg h, if_neg h]; rfl
theorem wl_101_148 {Sh : List mm_C} {scr : Option (Nat × (Nat → Int32))} {rb : Bool} {Cs : Nat → List Value → mm_M → (Int32 → mm_M → Prop) → (mm_M → Prop) → Prop} {K : Nat → mm_L → List Value → mm_M → Prop} {RI : Int32 → mm_M → Prop} {RV : mm_M → Prop} {cut : Nat → Bool} {n : Nat} {loc : mm_L} {st : List Value} {μ : mm_M} : mm_wp Sh scr rb Cs K RI RV lab_101 cut (n + 1) 148 loc st μ = (if cut 148 = true then K 148 loc st μ else mm_wpB Sh scr rb Cs (mm_wp Sh scr rb Cs K RI RV lab_101 cut n) RI RV [(some (.iconst 0), 0, 0, [], 0), (none, 149, 0, [], 0)] loc st μ) := by
  unfold mm_wp
  by_cases h : cut 148 = true
  · rw [if_pos h, if_pos h]
  · rw [if_neg h, if_neg h]; rfl
theorem wl_101_149 {Sh : List mm_C} {scr : Option (Nat × (Nat → Int32))} {rb : Bool} {Cs : Nat → List Value → mm_M → (Int32 → mm_M → Prop) → (mm_M → Prop) → Prop} {K : Nat → mm_L → List Value → mm_M → Prop} {RI : Int32 → mm_M → Prop} {RV : mm_M → Prop} {cut : Nat → Bool} {n : Nat} {loc : mm_L} {st : List Value} {μ : mm_M} : mm_wp Sh scr rb Cs K RI RV lab_101 cut (n + 1) 149 loc st μ = (if cut 149 = true then K 149 loc st μ else mm_wpB Sh scr rb Cs (mm_wp Sh scr rb Cs K RI RV lab_101 cut n) RI RV [(some (.iadd), 0, 0, [], 0), (some (.istore_n 3), 0, 0, [], 0), (none, 151, 0, [], 0)] loc st μ) := by
  unfold mm_wp
  by_cases h : cut 149 = true
  · rw [if_pos h, if_pos h]
  · rw [if_neg h, if_neg h]; rfl
theorem wl_101_151 {Sh : List mm_C} {scr : Option (Nat × (Nat → Int32))} {rb : Bool} {Cs : Nat → List Value → mm_M → (Int32 → mm_M → Prop) → (mm_M → Prop) → Prop} {K : Nat → mm_L → List Value → mm_M → Prop} {RI : Int32 → mm_M → Prop} {RV : mm_M → Prop} {cut : Nat → Bool} {n : Nat} {loc : mm_L} {st : List Value} {μ : mm_M} : mm_wp Sh scr rb Cs K RI RV lab_101 cut (n + 1) 151 loc st μ = (if cut 151 = true then K 151 loc st μ else mm_wpB Sh scr rb Cs (mm_wp Sh scr rb Cs K RI RV lab_101 cut n) RI RV [(some (.iinc 4 1), 0, 0, [], 1), (some (.goto (-113)), 41, 0, [], 0)] loc st μ) := by
  unfold mm_wp
  by_cases h : cut 151 = true
  · rw [if_pos h, if_pos h]
  · rw [if_neg h, if_neg h]; rfl
theorem wl_101_157 {Sh : List mm_C} {scr : Option (Nat × (Nat → Int32))} {rb : Bool} {Cs : Nat → List Value → mm_M → (Int32 → mm_M → Prop) → (mm_M → Prop) → Prop} {K : Nat → mm_L → List Value → mm_M → Prop} {RI : Int32 → mm_M → Prop} {RV : mm_M → Prop} {cut : Nat → Bool} {n : Nat} {loc : mm_L} {st : List Value} {μ : mm_M} : mm_wp Sh scr rb Cs K RI RV lab_101 cut (n + 1) 157 loc st μ = (if cut 157 = true then K 157 loc st μ else mm_wpB Sh scr rb Cs (mm_wp Sh scr rb Cs K RI RV lab_101 cut n) RI RV [(some (.iload_n 2), 0, 0, [], 0), (some (.iload_n 3), 0, 0, [], 0), (some (.if_icmp .le 9), 168, 0, [], 0), (some (.iload_n 2), 0, 0, [], 0), (some (.iload_n 3), 0, 0, [], 0), (some (.isub), 0, 0, [], 0), (some (.goto 4), 169, 0, [], 0)] loc st μ) := by
  unfold mm_wp
  by_cases h : cut 157 = true
  · rw [if_pos h, if_pos h]
  · rw [if_neg h, if_neg h]; rfl
theorem wl_101_168 {Sh : List mm_C} {scr : Option (Nat × (Nat → Int32))} {rb : Bool} {Cs : Nat → List Value → mm_M → (Int32 → mm_M → Prop) → (mm_M → Prop) → Prop} {K : Nat → mm_L → List Value → mm_M → Prop} {RI : Int32 → mm_M → Prop} {RV : mm_M → Prop} {cut : Nat → Bool} {n : Nat} {loc : mm_L} {st : List Value} {μ : mm_M} : mm_wp Sh scr rb Cs K RI RV lab_101 cut (n + 1) 168 loc st μ = (if cut 168 = true then K 168 loc st μ else mm_wpB Sh scr rb Cs (mm_wp Sh scr rb Cs K RI RV lab_101 cut n) RI RV [(some (.iconst 0), 0, 0, [], 0), (none, 169, 0, [], 0)] loc st μ) := by
  unfold mm_wp
  by_cases h : cut 168 = true
  · rw [if_pos h, if_pos h]
  · rw [if_neg h, if_neg h]; rfl
theorem wl_101_169 {Sh : List mm_C} {scr : Option (Nat × (Nat → Int32))} {rb : Bool} {Cs : Nat → List Value → mm_M → (Int32 → mm_M → Prop) → (mm_M → Prop) → Prop} {K : Nat → mm_L → List Value → mm_M → Prop} {RI : Int32 → mm_M → Prop} {RV : mm_M → Prop} {cut : Nat → Bool} {n : Nat} {loc : mm_L} {st : List Value} {μ : mm_M} : mm_wp Sh scr rb Cs K RI RV lab_101 cut (n + 1) 169 loc st μ = (if cut 169 = true then K 169 loc st μ else mm_wpB Sh scr rb Cs (mm_wp Sh scr rb Cs K RI RV lab_101 cut n) RI RV [(some (.istore 4), 0, 0, [], 0), (some (.aload_n 0), 0, 0, [], 0), (some (.getfield 77), 8, 30, [], 0), (some (.iload_n 1), 0, 0, [], 0), (some (.iaload), 0, 0, [], 0), (some (.aload_n 0), 0, 0, [], 0), (some (.getfield 83), 8, 32, [], 0), (some (.iload_n 1), 0, 0, [], 0), (some (.iaload), 0, 0, [], 0), (some (.isub), 0, 0, [], 0), (some (.istore 5), 0, 0, [], 0), (some (.iload 5), 0, 0, [], 0), (some (.iload 4), 0, 0, [], 0), (some (.if_icmp .le 11), 201, 0, [], 0), (some (.iload 5), 0, 0, [], 0), (some (.iload 4), 0, 0, [], 0), (some (.isub), 0, 0, [], 0), (some (.goto 4), 202, 0, [], 0)] loc st μ) := by
  unfold mm_wp
  by_cases h : cut 169 = true
  · rw [if_pos h, if_pos h]
  · rw [if_neg h, if_neg h]; rfl
theorem wl_101_201 {Sh : List mm_C} {scr : Option (Nat × (Nat → Int32))} {rb : Bool} {Cs : Nat → List Value → mm_M → (Int32 → mm_M → Prop) → (mm_M → Prop) → Prop} {K : Nat → mm_L → List Value → mm_M → Prop} {RI : Int32 → mm_M → Prop} {RV : mm_M → Prop} {cut : Nat → Bool} {n : Nat} {loc : mm_L} {st : List Value} {μ : mm_M} : mm_wp Sh scr rb Cs K RI RV lab_101 cut (n + 1) 201 loc st μ = (if cut 201 = true then K 201 loc st μ else mm_wpB Sh scr rb Cs (mm_wp Sh scr rb Cs K RI RV lab_101 cut n) RI RV [(some (.iconst 0), 0, 0, [], 0), (none, 202, 0, [], 0)] loc st μ) := by
  unfold mm_wp
  by_cases h : cut 201 = true
  · rw [if_pos h, if_pos h]
  · rw [if_neg h, if_neg h]; rfl
theorem wl_101_202 {Sh : List mm_C} {scr : Option (Nat × (Nat → Int32))} {rb : Bool} {Cs : Nat → List Value → mm_M → (Int32 → mm_M → Prop) → (mm_M → Prop) → Prop} {K : Nat → mm_L → List Value → mm_M → Prop} {RI : Int32 → mm_M → Prop} {RV : mm_M → Prop} {cut : Nat → Bool} {n : Nat} {loc : mm_L} {st : List Value} {μ : mm_M} : mm_wp Sh scr rb Cs K RI RV lab_101 cut (n + 1) 202 loc st μ = (if cut 202 = true then K 202 loc st μ else mm_wpB Sh scr rb Cs (mm_wp Sh scr rb Cs K RI RV lab_101 cut n) RI RV [(some (.ireturn), 0, 0, [], 0)] loc st μ) := by
  unfold mm_wp
  by_cases h : cut 202 = true
  · rw [if_pos h, if_pos h]
  · rw [if_neg h, if_neg h]; rfl
theorem wl_102_0 {Sh : List mm_C} {scr : Option (Nat × (Nat → Int32))} {rb : Bool} {Cs : Nat → List Value → mm_M → (Int32 → mm_M → Prop) → (mm_M → Prop) → Prop} {K : Nat → mm_L → List Value → mm_M → Prop} {RI : Int32 → mm_M → Prop} {RV : mm_M → Prop} {cut : Nat → Bool} {n : Nat} {loc : mm_L} {st : List Value} {μ : mm_M} : mm_wp Sh scr rb Cs K RI RV lab_102 cut (n + 1) 0 loc st μ = (if cut 0 = true then K 0 loc st μ else mm_wpB Sh scr rb Cs (mm_wp Sh scr rb Cs K RI RV lab_102 cut n) RI RV [(some (.aload_n 0), 0, 0, [], 0), (some (.iload_n 1), 0, 0, [], 0), (some (.invokevirtual 118), 69, 2, [], 0), (some (.ifCond .eq 12), 17, 0, [], 0), (some (.aload_n 0), 0, 0, [], 0), (some (.getfield 23), 8, 6, [], 0), (some (.iload_n 1), 0, 0, [], 0), (some (.baload), 0, 0, [], 0), (some (.ifCond .eq 5), 19, 0, [], 0), (none, 17, 0, [], 0)] loc st μ) := by
  unfold mm_wp
  by_cases h : cut 0 = true
  · rw [if_pos h, if_pos h]
  · rw [if_neg h, if_neg h]; rfl
theorem wl_102_17 {Sh : List mm_C} {scr : Option (Nat × (Nat → Int32))} {rb : Bool} {Cs : Nat → List Value → mm_M → (Int32 → mm_M → Prop) → (mm_M → Prop) → Prop} {K : Nat → mm_L → List Value → mm_M → Prop} {RI : Int32 → mm_M → Prop} {RV : mm_M → Prop} {cut : Nat → Bool} {n : Nat} {loc : mm_L} {st : List Value} {μ : mm_M} : mm_wp Sh scr rb Cs K RI RV lab_102 cut (n + 1) 17 loc st μ = (if cut 17 = true then K 17 loc st μ else mm_wpB Sh scr rb Cs (mm_wp Sh scr rb Cs K RI RV lab_102 cut n) RI RV [(some (.iconst (-1)), 0, 0, [], (-1)), (some (.ireturn), 0, 0, [], 0)] loc st μ) := by
  unfold mm_wp
  by_cases h : cut 17 = true
  · rw [if_pos h, if_pos h]
  · rw [if_neg h, if_neg h]; rfl
theorem wl_102_19 {Sh : List mm_C} {scr : Option (Nat × (Nat → Int32))} {rb : Bool} {Cs : Nat → List Value → mm_M → (Int32 → mm_M → Prop) → (mm_M → Prop) → Prop} {K : Nat → mm_L → List Value → mm_M → Prop} {RI : Int32 → mm_M → Prop} {RV : mm_M → Prop} {cut : Nat → Bool} {n : Nat} {loc : mm_L} {st : List Value} {μ : mm_M} : mm_wp Sh scr rb Cs K RI RV lab_102 cut (n + 1) 19 loc st μ = (if cut 19 = true then K 19 loc st μ else mm_wpB Sh scr rb Cs (mm_wp Sh scr rb Cs K RI RV lab_102 cut n) RI RV [(some (.aload_n 0), 0, 0, [], 0), (some (.getfield 23), 8, 6, [], 0), (some (.iload_n 1), 0, 0, [], 0), (some (.iconst 1), 0, 0, [], 1), (some (.bastore), 0, 0, [], 0), (some (.iconst 0), 0, 0, [], 0), (some (.istore_n 2), 0, 0, [], 0), (some (.iconst 0), 0, 0, [], 0), (some (.istore_n 3), 0, 0, [], 0), (none, 30, 0, [], 0)] loc st μ) := by
  unfold mm_wp
  by_cases h : cut 19 = true
  · rw [if_pos h, if_pos h]
  · rw [if_neg h, if_neg h]; rfl
theorem wl_102_30 {Sh : List mm_C} {scr : Option (Nat × (Nat → Int32))} {rb : Bool} {Cs : Nat → List Value → mm_M → (Int32 → mm_M → Prop) → (mm_M → Prop) → Prop} {K : Nat → mm_L → List Value → mm_M → Prop} {RI : Int32 → mm_M → Prop} {RV : mm_M → Prop} {cut : Nat → Bool} {n : Nat} {loc : mm_L} {st : List Value} {μ : mm_M} : mm_wp Sh scr rb Cs K RI RV lab_102 cut (n + 1) 30 loc st μ = (if cut 30 = true then K 30 loc st μ else mm_wpB Sh scr rb Cs (mm_wp Sh scr rb Cs K RI RV lab_102 cut n) RI RV [(some (.iload_n 3), 0, 0, [], 0), (some (.aload_n 0), 0, 0, [], 0), (some (.getfield 135), 8, 18, [], 0), (some (.if_icmp .ge 42), 77, 0, [], 0), (some (.aload_n 0), 0, 0, [], 0), (some (.getfield 68), 8, 25, [], 0), (some (.bipush 60), 0, 0, [], 60), (some (.iload_n 3), 0, 0, [], 0), (some (.imul), 0, 0, [], 0), (some (.iload_n 1), 0, 0, [], 0), (some (.iadd), 0, 0, [], 0), (some (.iaload), 0, 0, [], 0), (some (.ifCond .ne 6), 55, 0, [], 0), (some (.goto 19), 71, 0, [], 0)] loc st μ) := by
  unfold mm_wp
  by_cases h : cut 30 = true
  · rw [if_pos h, if_pos h]
  · rw [if_neg h, if_neg h]; rfl
theorem wl_102_55 {Sh : List mm_C} {scr : Option (Nat × (Nat → Int32))} {rb : Bool} {Cs : Nat → List Value → mm_M → (Int32 → mm_M → Prop) → (mm_M → Prop) → Prop} {K : Nat → mm_L → List Value → mm_M → Prop} {RI : Int32 → mm_M → Prop} {RV : mm_M → Prop} {cut : Nat → Bool} {n : Nat} {loc : mm_L} {st : List Value} {μ : mm_M} : mm_wp Sh scr rb Cs K RI RV lab_102 cut (n + 1) 55 loc st μ = (if cut 55 = true then K 55 loc st μ else mm_wpB Sh scr rb Cs (mm_wp Sh scr rb Cs K RI RV lab_102 cut n) RI RV [(some (.aload_n 0), 0, 0, [], 0), (some (.getfield 62), 8, 23, [], 0), (some (.iload_n 3), 0, 0, [], 0), (some (.iconst 1), 0, 0, [], 1), (some (.bastore), 0, 0, [], 0), (some (.iload_n 2), 0, 0, [], 0), (some (.aload_n 0), 0, 0, [], 0), (some (.getfield 65), 8, 24, [], 0), (some (.iload_n 3), 0, 0, [], 0), (some (.iaload), 0, 0, [], 0), (some (.ior), 0, 0, [], 0), (some (.istore_n 2), 0, 0, [], 0), (none, 71, 0, [], 0)] loc st μ) := by
  unfold mm_wp
  by_cases h : cut 55 = true
  · rw [if_pos h, if_pos h]
  · rw [if_neg h, if_neg h]; rfl
theorem wl_102_71 {Sh : List mm_C} {scr : Option (Nat × (Nat → Int32))} {rb : Bool} {Cs : Nat → List Value → mm_M → (Int32 → mm_M → Prop) → (mm_M → Prop) → Prop} {K : Nat → mm_L → List Value → mm_M → Prop} {RI : Int32 → mm_M → Prop} {RV : mm_M → Prop} {cut : Nat → Bool} {n : Nat} {loc : mm_L} {st : List Value} {μ : mm_M} : mm_wp Sh scr rb Cs K RI RV lab_102 cut (n + 1) 71 loc st μ = (if cut 71 = true then K 71 loc st μ else mm_wpB Sh scr rb Cs (mm_wp Sh scr rb Cs K RI RV lab_102 cut n) RI RV [(some (.iinc 3 1), 0, 0, [], 1), (some (.goto (-44)), 30, 0, [], 0)] loc st μ) := by
  unfold mm_wp
  by_cases h : cut 71 = true
  · rw [if_pos h, if_pos h]
  · rw [if_neg h, if_neg h]; rfl
theorem wl_102_77 {Sh : List mm_C} {scr : Option (Nat × (Nat → Int32))} {rb : Bool} {Cs : Nat → List Value → mm_M → (Int32 → mm_M → Prop) → (mm_M → Prop) → Prop} {K : Nat → mm_L → List Value → mm_M → Prop} {RI : Int32 → mm_M → Prop} {RV : mm_M → Prop} {cut : Nat → Bool} {n : Nat} {loc : mm_L} {st : List Value} {μ : mm_M} : mm_wp Sh scr rb Cs K RI RV lab_102 cut (n + 1) 77 loc st μ = (if cut 77 = true then K 77 loc st μ else mm_wpB Sh scr rb Cs (mm_wp Sh scr rb Cs K RI RV lab_102 cut n) RI RV [(some (.iload_n 2), 0, 0, [], 0), (some (.ireturn), 0, 0, [], 0)] loc st μ) := by
  unfold mm_wp
  by_cases h : cut 77 = true
  · rw [if_pos h, if_pos h]
  · rw [if_neg h, if_neg h]; rfl
theorem wl_103_0 {Sh : List mm_C} {scr : Option (Nat × (Nat → Int32))} {rb : Bool} {Cs : Nat → List Value → mm_M → (Int32 → mm_M → Prop) → (mm_M → Prop) → Prop} {K : Nat → mm_L → List Value → mm_M → Prop} {RI : Int32 → mm_M → Prop} {RV : mm_M → Prop} {cut : Nat → Bool} {n : Nat} {loc : mm_L} {st : List Value} {μ : mm_M} : mm_wp Sh scr rb Cs K RI RV lab_103 cut (n + 1) 0 loc st μ = (if cut 0 = true then K 0 loc st μ else mm_wpB Sh scr rb Cs (mm_wp Sh scr rb Cs K RI RV lab_103 cut n) RI RV [(some (.aload_n 0), 0, 0, [], 0), (some (.iload_n 1), 0, 0, [], 0), (some (.invokevirtual 118), 69, 2, [], 0), (some (.ifCond .ne 5), 10, 0, [], 0), (some (.iconst (-1)), 0, 0, [], (-1)), (some (.ireturn), 0, 0, [], 0)] loc st μ) := by
  unfold mm_wp
  by_cases h : cut 0 = true
  · rw [if_pos h, if_pos h]
  · rw [if_neg h, if_neg h]; rfl
theorem wl_103_10 {Sh : List mm_C} {scr : Option (Nat × (Nat → Int32))} {rb : Bool} {Cs : Nat → List Value → mm_M → (Int32 → mm_M → Prop) → (mm_M → Prop) → Prop} {K : Nat → mm_L → List Value → mm_M → Prop} {RI : Int32 → mm_M → Prop} {RV : mm_M → Prop} {cut : Nat → Bool} {n : Nat} {loc : mm_L} {st : List Value} {μ : mm_M} : mm_wp Sh scr rb Cs K RI RV lab_103 cut (n + 1) 10 loc st μ = (if cut 10 = true then K 10 loc st μ else mm_wpB Sh scr rb Cs (mm_wp Sh scr rb Cs K RI RV lab_103 cut n) RI RV [(some (.iload_n 2), 0, 0, [], 0), (some (.tableswitch 83 0 4 #[33, 40, 47, 53, 68]), 94, 33, [44, 51, 58, 64, 79], 0)] loc st μ) := by
  unfold mm_wp
  by_cases h : cut 10 = true
  · rw [if_pos h, if_pos h]
  · rw [if_neg h, if_neg h]; rfl
theorem wl_103_44 {Sh : List mm_C} {scr : Option (Nat × (Nat → Int32))} {rb : Bool} {Cs : Nat → List Value → mm_M → (Int32 → mm_M → Prop) → (mm_M → Prop) → Prop} {K : Nat → mm_L → List Value → mm_M → Prop} {RI : Int32 → mm_M → Prop} {RV : mm_M → Prop} {cut : Nat → Bool} {n : Nat} {loc : mm_L} {st : List Value} {μ : mm_M} : mm_wp Sh scr rb Cs K RI RV lab_103 cut (n + 1) 44 loc st μ = (if cut 44 = true then K 44 loc st μ else mm_wpB Sh scr rb Cs (mm_wp Sh scr rb Cs K RI RV lab_103 cut n) RI RV [(some (.aload_n 0), 0, 0, [], 0), (some (.getfield 9), 8, 2, [], 0), (some (.iload_n 1), 0, 0, [], 0), (some (.iaload), 0, 0, [], 0), (some (.ireturn), 0, 0, [], 0)] loc st μ) := by
  unfold mm_wp
  by_cases h : cut 44 = true
  · rw [if_pos h, if_pos h]
  · rw [if_neg h, if_neg h]; rfl
theorem wl_103_51 {Sh : List mm_C} {scr : Option (Nat × (Nat → Int32))} {rb : Bool} {Cs : Nat → List Value → mm_M → (Int32 → mm_M → Prop) → (mm_M → Prop) → Prop} {K : Nat → mm_L → List Value → mm_M → Prop} {RI : Int32 → mm_M → Prop} {RV : mm_M → Prop} {cut : Nat → Bool} {n : Nat} {loc : mm_L} {st : List Value} {μ : mm_M} : mm_wp Sh scr rb Cs K RI RV lab_103 cut (n + 1) 51 loc st μ = (if cut 51 = true then K 51 loc st μ else mm_wpB Sh scr rb Cs (mm_wp Sh scr rb Cs K RI RV lab_103 cut n) RI RV [(some (.aload_n 0), 0, 0, [], 0), (some (.getfield 13), 8, 3, [], 0), (some (.iload_n 1), 0, 0, [], 0), (some (.iaload), 0, 0, [], 0), (some (.ireturn), 0, 0, [], 0)] loc st μ) := by
  unfold mm_wp
  by_cases h : cut 51 = true
  · rw [if_pos h, if_pos h]
  · rw [if_neg h, if_neg h]; rfl
theorem wl_103_58 {Sh : List mm_C} {scr : Option (Nat × (Nat → Int32))} {rb : Bool} {Cs : Nat → List Value → mm_M → (Int32 → mm_M → Prop) → (mm_M → Prop) → Prop} {K : Nat → mm_L → List Value → mm_M → Prop} {RI : Int32 → mm_M → Prop} {RV : mm_M → Prop} {cut : Nat → Bool} {n : Nat} {loc : mm_L} {st : List Value} {μ : mm_M} : mm_wp Sh scr rb Cs K RI RV lab_103 cut (n + 1) 58 loc st μ = (if cut 58 = true then K 58 loc st μ else mm_wpB Sh scr rb Cs (mm_wp Sh scr rb Cs K RI RV lab_103 cut n) RI RV [(some (.aload_n 0), 0, 0, [], 0), (some (.iload_n 1), 0, 0, [], 0), (some (.invokevirtual 109), 70, 2, [], 0), (some (.ireturn), 0, 0, [], 0)] loc st μ) := by
  unfold mm_wp
  by_cases h : cut 58 = true
  · rw [if_pos h, if_pos h]
  · rw [if_neg h, if_neg h]; rfl
theorem wl_103_64 {Sh : List mm_C} {scr : Option (Nat × (Nat → Int32))} {rb : Bool} {Cs : Nat → List Value → mm_M → (Int32 → mm_M → Prop) → (mm_M → Prop) → Prop} {K : Nat → mm_L → List Value → mm_M → Prop} {RI : Int32 → mm_M → Prop} {RV : mm_M → Prop} {cut : Nat → Bool} {n : Nat} {loc : mm_L} {st : List Value} {μ : mm_M} : mm_wp Sh scr rb Cs K RI RV lab_103 cut (n + 1) 64 loc st μ = (if cut 64 = true then K 64 loc st μ else mm_wpB Sh scr rb Cs (mm_wp Sh scr rb Cs K RI RV lab_103 cut n) RI RV [(some (.aload_n 0), 0, 0, [], 0), (some (.getfield 19), 8, 5, [], 0), (some (.iload_n 1), 0, 0, [], 0), (some (.baload), 0, 0, [], 0), (some (.ifCond .eq 7), 77, 0, [], 0), (some (.iconst 1), 0, 0, [], 1), (some (.goto 4), 78, 0, [], 0)] loc st μ) := by
  unfold mm_wp
  by_cases h : cut 64 = true
  · rw [if_pos h, if_pos h]
  · rw [if_neg h, if_neg h]; rfl
theorem wl_103_77 {Sh : List mm_C} {scr : Option (Nat × (Nat → Int32))} {rb : Bool} {Cs : Nat → List Value → mm_M → (Int32 → mm_M → Prop) → (mm_M → Prop) → Prop} {K : Nat → mm_L → List Value → mm_M → Prop} {RI : Int32 → mm_M → Prop} {RV : mm_M → Prop} {cut : Nat → Bool} {n : Nat} {loc : mm_L} {st : List Value} {μ : mm_M} : mm_wp Sh scr rb Cs K RI RV lab_103 cut (n + 1) 77 loc st μ = (if cut 77 = true then K 77 loc st μ else mm_wpB Sh scr rb Cs (mm_wp Sh scr rb Cs K RI RV lab_103 cut n) RI RV [(some (.iconst 0), 0, 0, [], 0), (none, 78, 0, [], 0)] loc st μ) := by
  unfold mm_wp
  by_cases h : cut 77 = true
  · rw [if_pos h, if_pos h]
  · rw [if_neg h, if_neg h]; rfl
theorem wl_103_78 {Sh : List mm_C} {scr : Option (Nat × (Nat → Int32))} {rb : Bool} {Cs : Nat → List Value → mm_M → (Int32 → mm_M → Prop) → (mm_M → Prop) → Prop} {K : Nat → mm_L → List Value → mm_M → Prop} {RI : Int32 → mm_M → Prop} {RV : mm_M → Prop} {cut : Nat → Bool} {n : Nat} {loc : mm_L} {st : List Value} {μ : mm_M} : mm_wp Sh scr rb Cs K RI RV lab_103 cut (n + 1) 78 loc st μ = (if cut 78 = true then K 78 loc st μ else mm_wpB Sh scr rb Cs (mm_wp Sh scr rb Cs K RI RV lab_103 cut n) RI RV [(some (.ireturn), 0, 0, [], 0)] loc st μ) := by
  unfold mm_wp
  by_cases h : cut 78 = true
  · rw [if_pos h, if_pos h]
  · rw [if_neg h, if_neg h]; rfl
theorem wl_103_79 {Sh : List mm_C} {scr : Option (Nat × (Nat → Int32))} {rb : Bool} {Cs : Nat → List Value → mm_M → (Int32 → mm_M → Prop) → (mm_M → Prop) → Prop} {K : Nat → mm_L → List Value → mm_M → Prop} {RI : Int32 → mm_M → Prop} {RV : mm_M → Prop} {cut : Nat → Bool} {n : Nat} {loc : mm_L} {st : List Value} {μ : mm_M} : mm_wp Sh scr rb Cs K RI RV lab_103 cut (n + 1) 79 loc st μ = (if cut 79 = true then K 79 loc st μ else mm_wpB Sh scr rb Cs (mm_wp Sh scr rb Cs K RI RV lab_103 cut n) RI RV [(some (.aload_n 0), 0, 0, [], 0), (some (.getfield 23), 8, 6, [], 0), (some (.iload_n 1), 0, 0, [], 0), (some (.baload), 0, 0, [], 0), (some (.ifCond .eq 7), 92, 0, [], 0), (some (.iconst 1), 0, 0, [], 1), (some (.goto 4), 93, 0, [], 0)] loc st μ) := by
  unfold mm_wp
  by_cases h : cut 79 = true
  · rw [if_pos h, if_pos h]
  · rw [if_neg h, if_neg h]; rfl
theorem wl_103_92 {Sh : List mm_C} {scr : Option (Nat × (Nat → Int32))} {rb : Bool} {Cs : Nat → List Value → mm_M → (Int32 → mm_M → Prop) → (mm_M → Prop) → Prop} {K : Nat → mm_L → List Value → mm_M → Prop} {RI : Int32 → mm_M → Prop} {RV : mm_M → Prop} {cut : Nat → Bool} {n : Nat} {loc : mm_L} {st : List Value} {μ : mm_M} : mm_wp Sh scr rb Cs K RI RV lab_103 cut (n + 1) 92 loc st μ = (if cut 92 = true then K 92 loc st μ else mm_wpB Sh scr rb Cs (mm_wp Sh scr rb Cs K RI RV lab_103 cut n) RI RV [(some (.iconst 0), 0, 0, [], 0), (none, 93, 0, [], 0)] loc st μ) := by
  unfold mm_wp
  by_cases h : cut 92 = true
  · rw [if_pos h, if_pos h]
  · rw [if_neg h, if_neg h]; rfl
theorem wl_103_93 {Sh : List mm_C} {scr : Option (Nat × (Nat → Int32))} {rb : Bool} {Cs : Nat → List Value → mm_M → (Int32 → mm_M → Prop) → (mm_M → Prop) → Prop} {K : Nat → mm_L → List Value → mm_M → Prop} {RI : Int32 → mm_M → Prop} {RV : mm_M → Prop} {cut : Nat → Bool} {n : Nat} {loc : mm_L} {st : List Value} {μ : mm_M} : mm_wp Sh scr rb Cs K RI RV lab_103 cut (n + 1) 93 loc st μ = (if cut 93 = true then K 93 loc st μ else mm_wpB Sh scr rb Cs (mm_wp Sh scr rb Cs K RI RV lab_103 cut n) RI RV [(some (.ireturn), 0, 0, [], 0)] loc st μ) := by
  unfold mm_wp
  by_cases h : cut 93 = true
  · rw [if_pos h, if_pos h]
  · rw [if_neg h, if_neg h]; rfl
theorem wl_103_94 {Sh : List mm_C} {scr : Option (Nat × (Nat → Int32))} {rb : Bool} {Cs : Nat → List Value → mm_M → (Int32 → mm_M → Prop) → (mm_M → Prop) → Prop} {K : Nat → mm_L → List Value → mm_M → Prop} {RI : Int32 → mm_M → Prop} {RV : mm_M → Prop} {cut : Nat → Bool} {n : Nat} {loc : mm_L} {st : List Value} {μ : mm_M} : mm_wp Sh scr rb Cs K RI RV lab_103 cut (n + 1) 94 loc st μ = (if cut 94 = true then K 94 loc st μ else mm_wpB Sh scr rb Cs (mm_wp Sh scr rb Cs K RI RV lab_103 cut n) RI RV [(some (.iconst (-1)), 0, 0, [], (-1)), (some (.ireturn), 0, 0, [], 0)] loc st μ) := by
  unfold mm_wp
  by_cases h : cut 94 = true
  · rw [if_pos h, if_pos h]
  · rw [if_neg h, if_neg h]; rfl
theorem wl_104_0 {Sh : List mm_C} {scr : Option (Nat × (Nat → Int32))} {rb : Bool} {Cs : Nat → List Value → mm_M → (Int32 → mm_M → Prop) → (mm_M → Prop) → Prop} {K : Nat → mm_L → List Value → mm_M → Prop} {RI : Int32 → mm_M → Prop} {RV : mm_M → Prop} {cut : Nat → Bool} {n : Nat} {loc : mm_L} {st : List Value} {μ : mm_M} : mm_wp Sh scr rb Cs K RI RV lab_104 cut (n + 1) 0 loc st μ = (if cut 0 = true then K 0 loc st μ else mm_wpB Sh scr rb Cs (mm_wp Sh scr rb Cs K RI RV lab_104 cut n) RI RV [(some (.iload_n 1), 0, 0, [], 0), (some (.iconst 0), 0, 0, [], 0), (some (.aload_n 0), 0, 0, [], 0), (some (.getfield 135), 8, 18, [], 0), (some (.iconst 1), 0, 0, [], 1), (some (.isub), 0, 0, [], 0), (some (.invokestatic 102), 68, 3, [], 0), (some (.ifCond .ne 5), 16, 0, [], 0), (some (.iconst (-1)), 0, 0, [], (-1)), (some (.ireturn), 0, 0, [], 0)] loc st μ) := by
  unfold mm_wp
  by_cases h : cut 0 = true
  · rw [if_pos h, if_pos h]
  · rw [if_neg h, if_neg h]; rfl
theorem wl_104_16 {Sh : List mm_C} {scr : Option (Nat × (Nat → Int32))} {rb : Bool} {Cs : Nat → List Value → mm_M → (Int32 → mm_M → Prop) → (mm_M → Prop) → Prop} {K : Nat → mm_L → List Value → mm_M → Prop} {RI : Int32 → mm_M → Prop} {RV : mm_M → Prop} {cut : Nat → Bool} {n : Nat} {loc : mm_L} {st : List Value} {μ : mm_M} : mm_wp Sh scr rb Cs K RI RV lab_104 cut (n + 1) 16 loc st μ = (if cut 16 = true then K 16 loc st μ else mm_wpB Sh scr rb Cs (mm_wp Sh scr rb Cs K RI RV lab_104 cut n) RI RV [(some (.iload_n 2), 0, 0, [], 0), (some (.tableswitch 88 0 5 #[39, 46, 53, 60, 75, 82]), 105, 39, [56, 63, 70, 77, 92, 99], 0)] loc st μ) := by
  unfold mm_wp
  by_cases h : cut 16 = true
  · rw [if_pos h, if_pos h]
  · rw [if_neg h, if_neg h]; rfl
theorem wl_104_56 {Sh : List mm_C} {scr : Option (Nat × (Nat → Int32))} {rb : Bool} {Cs : Nat → List Value → mm_M → (Int32 → mm_M → Prop) → (mm_M → Prop) → Prop} {K : Nat → mm_L → List Value → mm_M → Prop} {RI : Int32 → mm_M → Prop} {RV : mm_M → Prop} {cut : Nat → Bool} {n : Nat} {loc : mm_L} {st : List Value} {μ : mm_M} : mm_wp Sh scr rb Cs K RI RV lab_104 cut (n + 1) 56 loc st μ = (if cut 56 = true then K 56 loc st μ else mm_wpB Sh scr rb Cs (mm_wp Sh scr rb Cs K RI RV lab_104 cut n) RI RV [(some (.aload_n 0), 0, 0, [], 0), (some (.getfield 50), 8, 19, [], 0), (some (.iload_n 1), 0, 0, [], 0), (some (.iaload), 0, 0, [], 0), (some (.ireturn), 0, 0, [], 0)] loc st μ) := by
  unfold mm_wp
  by_cases h : cut 56 = true
  · rw [if_pos h, if_pos h]
  · rw [if_neg h, if_neg h]; rfl
theorem wl_104_63 {Sh : List mm_C} {scr : Option (Nat × (Nat → Int32))} {rb : Bool} {Cs : Nat → List Value → mm_M → (Int32 → mm_M → Prop) → (mm_M → Prop) → Prop} {K : Nat → mm_L → List Value → mm_M → Prop} {RI : Int32 → mm_M → Prop} {RV : mm_M → Prop} {cut : Nat → Bool} {n : Nat} {loc : mm_L} {st : List Value} {μ : mm_M} : mm_wp Sh scr rb Cs K RI RV lab_104 cut (n + 1) 63 loc st μ = (if cut 63 = true then K 63 loc st μ else mm_wpB Sh scr rb Cs (mm_wp Sh scr rb Cs K RI RV lab_104 cut n) RI RV [(some (.aload_n 0), 0, 0, [], 0), (some (.getfield 53), 8, 20, [], 0), (some (.iload_n 1), 0, 0, [], 0), (some (.iaload), 0, 0, [], 0), (some (.ireturn), 0, 0, [], 0)] loc st μ) := by
  unfold mm_wp
  by_cases h : cut 63 = true
  · rw [if_pos h, if_pos h]
  · rw [if_neg h, if_neg h]; rfl
theorem wl_104_70 {Sh : List mm_C} {scr : Option (Nat × (Nat → Int32))} {rb : Bool} {Cs : Nat → List Value → mm_M → (Int32 → mm_M → Prop) → (mm_M → Prop) → Prop} {K : Nat → mm_L → List Value → mm_M → Prop} {RI : Int32 → mm_M → Prop} {RV : mm_M → Prop} {cut : Nat → Bool} {n : Nat} {loc : mm_L} {st : List Value} {μ : mm_M} : mm_wp Sh scr rb Cs K RI RV lab_104 cut (n + 1) 70 loc st μ = (if cut 70 = true then K 70 loc st μ else mm_wpB Sh scr rb Cs (mm_wp Sh scr rb Cs K RI RV lab_104 cut n) RI RV [(some (.aload_n 0), 0, 0, [], 0), (some (.getfield 59), 8, 22, [], 0), (some (.iload_n 1), 0, 0, [], 0), (some (.iaload), 0, 0, [], 0), (some (.ireturn), 0, 0, [], 0)] loc st μ) := by
  unfold mm_wp
  by_cases h : cut 70 = true
  · rw [if_pos h, if_pos h]
  · rw [if_neg h, if_neg h]; rfl
theorem wl_104_77 {Sh : List mm_C} {scr : Option (Nat × (Nat → Int32))} {rb : Bool} {Cs : Nat → List Value → mm_M → (Int32 → mm_M → Prop) → (mm_M → Prop) → Prop} {K : Nat → mm_L → List Value → mm_M → Prop} {RI : Int32 → mm_M → Prop} {RV : mm_M → Prop} {cut : Nat → Bool} {n : Nat} {loc : mm_L} {st : List Value} {μ : mm_M} : mm_wp Sh scr rb Cs K RI RV lab_104 cut (n + 1) 77 loc st μ = (if cut 77 = true then K 77 loc st μ else mm_wpB Sh scr rb Cs (mm_wp Sh scr rb Cs K RI RV lab_104 cut n) RI RV [(some (.aload_n 0), 0, 0, [], 0), (some (.getfield 62), 8, 23, [], 0), (some (.iload_n 1), 0, 0, [], 0), (some (.baload), 0, 0, [], 0), (some (.ifCond .eq 7), 90, 0, [], 0), (some (.iconst 1), 0, 0, [], 1), (some (.goto 4), 91, 0, [], 0)] loc st μ) := by
  unfold mm_wp
  by_cases h : cut 77 = true
  · rw [if_pos h, if_pos h]
  · rw [if_neg h, if_neg h]; rfl
theorem wl_104_90 {Sh : List mm_C} {scr : Option (Nat × (Nat → Int32))} {rb : Bool} {Cs : Nat → List Value → mm_M → (Int32 → mm_M → Prop) → (mm_M → Prop) → Prop} {K : Nat → mm_L → List Value → mm_M → Prop} {RI : Int32 → mm_M → Prop} {RV : mm_M → Prop} {cut : Nat → Bool} {n : Nat} {loc : mm_L} {st : List Value} {μ : mm_M} : mm_wp Sh scr rb Cs K RI RV lab_104 cut (n + 1) 90 loc st μ = (if cut 90 = true then K 90 loc st μ else mm_wpB Sh scr rb Cs (mm_wp Sh scr rb Cs K RI RV lab_104 cut n) RI RV [(some (.iconst 0), 0, 0, [], 0), (none, 91, 0, [], 0)] loc st μ) := by
  unfold mm_wp
  by_cases h : cut 90 = true
  · rw [if_pos h, if_pos h]
  · rw [if_neg h, if_neg h]; rfl
theorem wl_104_91 {Sh : List mm_C} {scr : Option (Nat × (Nat → Int32))} {rb : Bool} {Cs : Nat → List Value → mm_M → (Int32 → mm_M → Prop) → (mm_M → Prop) → Prop} {K : Nat → mm_L → List Value → mm_M → Prop} {RI : Int32 → mm_M → Prop} {RV : mm_M → Prop} {cut : Nat → Bool} {n : Nat} {loc : mm_L} {st : List Value} {μ : mm_M} : mm_wp Sh scr rb Cs K RI RV lab_104 cut (n + 1) 91 loc st μ = (if cut 91 = true then K 91 loc st μ else mm_wpB Sh scr rb Cs (mm_wp Sh scr rb Cs K RI RV lab_104 cut n) RI RV [(some (.ireturn), 0, 0, [], 0)] loc st μ) := by
  unfold mm_wp
  by_cases h : cut 91 = true
  · rw [if_pos h, if_pos h]
  · rw [if_neg h, if_neg h]; rfl
theorem wl_104_92 {Sh : List mm_C} {scr : Option (Nat × (Nat → Int32))} {rb : Bool} {Cs : Nat → List Value → mm_M → (Int32 → mm_M → Prop) → (mm_M → Prop) → Prop} {K : Nat → mm_L → List Value → mm_M → Prop} {RI : Int32 → mm_M → Prop} {RV : mm_M → Prop} {cut : Nat → Bool} {n : Nat} {loc : mm_L} {st : List Value} {μ : mm_M} : mm_wp Sh scr rb Cs K RI RV lab_104 cut (n + 1) 92 loc st μ = (if cut 92 = true then K 92 loc st μ else mm_wpB Sh scr rb Cs (mm_wp Sh scr rb Cs K RI RV lab_104 cut n) RI RV [(some (.aload_n 0), 0, 0, [], 0), (some (.getfield 56), 8, 21, [], 0), (some (.iload_n 1), 0, 0, [], 0), (some (.iaload), 0, 0, [], 0), (some (.ireturn), 0, 0, [], 0)] loc st μ) := by
  unfold mm_wp
  by_cases h : cut 92 = true
  · rw [if_pos h, if_pos h]
  · rw [if_neg h, if_neg h]; rfl
theorem wl_104_99 {Sh : List mm_C} {scr : Option (Nat × (Nat → Int32))} {rb : Bool} {Cs : Nat → List Value → mm_M → (Int32 → mm_M → Prop) → (mm_M → Prop) → Prop} {K : Nat → mm_L → List Value → mm_M → Prop} {RI : Int32 → mm_M → Prop} {RV : mm_M → Prop} {cut : Nat → Bool} {n : Nat} {loc : mm_L} {st : List Value} {μ : mm_M} : mm_wp Sh scr rb Cs K RI RV lab_104 cut (n + 1) 99 loc st μ = (if cut 99 = true then K 99 loc st μ else mm_wpB Sh scr rb Cs (mm_wp Sh scr rb Cs K RI RV lab_104 cut n) RI RV [(some (.aload_n 0), 0, 0, [], 0), (some (.iload_n 1), 0, 0, [], 0), (some (.invokevirtual 192), 97, 2, [], 0), (some (.ireturn), 0, 0, [], 0)] loc st μ) := by
  unfold mm_wp
  by_cases h : cut 99 = true
  · rw [if_pos h, if_pos h]
  · rw [if_neg h, if_neg h]; rfl
theorem wl_104_105 {Sh : List mm_C} {scr : Option (Nat × (Nat → Int32))} {rb : Bool} {Cs : Nat → List Value → mm_M → (Int32 → mm_M → Prop) → (mm_M → Prop) → Prop} {K : Nat → mm_L → List Value → mm_M → Prop} {RI : Int32 → mm_M → Prop} {RV : mm_M → Prop} {cut : Nat → Bool} {n : Nat} {loc : mm_L} {st : List Value} {μ : mm_M} : mm_wp Sh scr rb Cs K RI RV lab_104 cut (n + 1) 105 loc st μ = (if cut 105 = true then K 105 loc st μ else mm_wpB Sh scr rb Cs (mm_wp Sh scr rb Cs K RI RV lab_104 cut n) RI RV [(some (.iconst (-1)), 0, 0, [], (-1)), (some (.ireturn), 0, 0, [], 0)] loc st μ) := by
  unfold mm_wp
  by_cases h : cut 105 = true
  · rw [if_pos h, if_pos h]
  · rw [if_neg h, if_neg h]; rfl
theorem wl_105_0 {Sh : List mm_C} {scr : Option (Nat × (Nat → Int32))} {rb : Bool} {Cs : Nat → List Value → mm_M → (Int32 → mm_M → Prop) → (mm_M → Prop) → Prop} {K : Nat → mm_L → List Value → mm_M → Prop} {RI : Int32 → mm_M → Prop} {RV : mm_M → Prop} {cut : Nat → Bool} {n : Nat} {loc : mm_L} {st : List Value} {μ : mm_M} : mm_wp Sh scr rb Cs K RI RV lab_105 cut (n + 1) 0 loc st μ = (if cut 0 = true then K 0 loc st μ else mm_wpB Sh scr rb Cs (mm_wp Sh scr rb Cs K RI RV lab_105 cut n) RI RV [(some (.iload_n 1), 0, 0, [], 0), (some (.iconst 0), 0, 0, [], 0), (some (.aload_n 0), 0, 0, [], 0), (some (.getfield 135), 8, 18, [], 0), (some (.iconst 1), 0, 0, [], 1), (some (.isub), 0, 0, [], 0), (some (.invokestatic 102), 68, 3, [], 0), (some (.ifCond .eq 25), 36, 0, [], 0), (some (.aload_n 0), 0, 0, [], 0), (some (.iload_n 2), 0, 0, [], 0), (some (.invokevirtual 118), 69, 2, [], 0), (some (.ifCond .eq 17), 36, 0, [], 0), (some (.aload_n 0), 0, 0, [], 0), (some (.getfield 68), 8, 25, [], 0), (some (.bipush 60), 0, 0, [], 60), (some (.iload_n 1), 0, 0, [], 0), (some (.imul), 0, 0, [], 0), (some (.iload_n 2), 0, 0, [], 0), (some (.iadd), 0, 0, [], 0), (some (.iaload), 0, 0, [], 0), (some (.goto 4), 37, 0, [], 0)] loc st μ) := by
  unfold mm_wp
  by_cases h : cut 0 = true
  · rw [if_pos h, if_pos h]
  · rw [if_neg h, if_neg h]; rfl
theorem wl_105_36 {Sh : List mm_C} {scr : Option (Nat × (Nat → Int32))} {rb : Bool} {Cs : Nat → List Value → mm_M → (Int32 → mm_M → Prop) → (mm_M → Prop) → Prop} {K : Nat → mm_L → List Value → mm_M → Prop} {RI : Int32 → mm_M → Prop} {RV : mm_M → Prop} {cut : Nat → Bool} {n : Nat} {loc : mm_L} {st : List Value} {μ : mm_M} : mm_wp Sh scr rb Cs K RI RV lab_105 cut (n + 1) 36 loc st μ = (if cut 36 = true then K 36 loc st μ else mm_wpB Sh scr rb Cs (mm_wp Sh scr rb Cs K RI RV lab_105 cut n) RI RV [(some (.iconst (-1)), 0, 0, [], (-1)), (none, 37, 0, [], 0)] loc st μ) := by
  unfold mm_wp
  by_cases h : cut 36 = true
  · rw [if_pos h, if_pos h]
  · rw [if_neg h, if_neg h]; rfl
theorem wl_105_37 {Sh : List mm_C} {scr : Option (Nat × (Nat → Int32))} {rb : Bool} {Cs : Nat → List Value → mm_M → (Int32 → mm_M → Prop) → (mm_M → Prop) → Prop} {K : Nat → mm_L → List Value → mm_M → Prop} {RI : Int32 → mm_M → Prop} {RV : mm_M → Prop} {cut : Nat → Bool} {n : Nat} {loc : mm_L} {st : List Value} {μ : mm_M} : mm_wp Sh scr rb Cs K RI RV lab_105 cut (n + 1) 37 loc st μ = (if cut 37 = true then K 37 loc st μ else mm_wpB Sh scr rb Cs (mm_wp Sh scr rb Cs K RI RV lab_105 cut n) RI RV [(some (.ireturn), 0, 0, [], 0)] loc st μ) := by
  unfold mm_wp
  by_cases h : cut 37 = true
  · rw [if_pos h, if_pos h]
  · rw [if_neg h, if_neg h]; rfl
theorem wl_106_0 {Sh : List mm_C} {scr : Option (Nat × (Nat → Int32))} {rb : Bool} {Cs : Nat → List Value → mm_M → (Int32 → mm_M → Prop) → (mm_M → Prop) → Prop} {K : Nat → mm_L → List Value → mm_M → Prop} {RI : Int32 → mm_M → Prop} {RV : mm_M → Prop} {cut : Nat → Bool} {n : Nat} {loc : mm_L} {st : List Value} {μ : mm_M} : mm_wp Sh scr rb Cs K RI RV lab_106 cut (n + 1) 0 loc st μ = (if cut 0 = true then K 0 loc st μ else mm_wpB Sh scr rb Cs (mm_wp Sh scr rb Cs K RI RV lab_106 cut n) RI RV [(some (.iload_n 1), 0, 0, [], 0), (some (.iconst 0), 0, 0, [], 0), (some (.iconst 2), 0, 0, [], 2), (some (.invokestatic 102), 68, 3, [], 0), (some (.ifCond .ne 5), 11, 0, [], 0), (some (.iconst (-1)), 0, 0, [], (-1)), (some (.ireturn), 0, 0, [], 0)] loc st μ) := by
  unfold mm_wp
  by_cases h : cut 0 = true
  · rw [if_pos h, if_pos h]
  · rw [if_neg h, if_neg h]; rfl
theorem wl_106_11 {Sh : List mm_C} {scr : Option (Nat × (Nat → Int32))} {rb : Bool} {Cs : Nat → List Value → mm_M → (Int32 → mm_M → Prop) → (mm_M → Prop) → Prop} {K : Nat → mm_L → List Value → mm_M → Prop} {RI : Int32 → mm_M → Prop} {RV : mm_M → Prop} {cut : Nat → Bool} {n : Nat} {loc : mm_L} {st : List Value} {μ : mm_M} : mm_wp Sh scr rb Cs K RI RV lab_106 cut (n + 1) 11 loc st μ = (if cut 11 = true then K 11 loc st μ else mm_wpB Sh scr rb Cs (mm_wp Sh scr rb Cs K RI RV lab_106 cut n) RI RV [(some (.aload_n 0), 0, 0, [], 0), (some (.getfield 38), 8, 13, [], 0), (some (.iload_n 1), 0, 0, [], 0), (some (.iaload), 0, 0, [], 0), (some (.iconst (-1)), 0, 0, [], (-1)), (some (.if_icmp .eq 7), 25, 0, [], 0), (some (.iconst 1), 0, 0, [], 1), (some (.goto 4), 26, 0, [], 0)] loc st μ) := by
  unfold mm_wp
  by_cases h : cut 11 = true
  · rw [if_pos h, if_pos h]
  · rw [if_neg h, if_neg h]; rfl
theorem wl_106_25 {Sh : List mm_C} {scr : Option (Nat × (Nat → Int32))} {rb : Bool} {Cs : Nat → List Value → mm_M → (Int32 → mm_M → Prop) → (mm_M → Prop) → Prop} {K : Nat → mm_L → List Value → mm_M → Prop} {RI : Int32 → mm_M → Prop} {RV : mm_M → Prop} {cut : Nat → Bool} {n : Nat} {loc : mm_L} {st : List Value} {μ : mm_M} : mm_wp Sh scr rb Cs K RI RV lab_106 cut (n + 1) 25 loc st μ = (if cut 25 = true then K 25 loc st μ else mm_wpB Sh scr rb Cs (mm_wp Sh scr rb Cs K RI RV lab_106 cut n) RI RV [(some (.iconst 0), 0, 0, [], 0), (none, 26, 0, [], 0)] loc st μ) := by
  unfold mm_wp
  by_cases h : cut 25 = true
  · rw [if_pos h, if_pos h]
  · rw [if_neg h, if_neg h]; rfl
theorem wl_106_26 {Sh : List mm_C} {scr : Option (Nat × (Nat → Int32))} {rb : Bool} {Cs : Nat → List Value → mm_M → (Int32 → mm_M → Prop) → (mm_M → Prop) → Prop} {K : Nat → mm_L → List Value → mm_M → Prop} {RI : Int32 → mm_M → Prop} {RV : mm_M → Prop} {cut : Nat → Bool} {n : Nat} {loc : mm_L} {st : List Value} {μ : mm_M} : mm_wp Sh scr rb Cs K RI RV lab_106 cut (n + 1) 26 loc st μ = (if cut 26 = true then K 26 loc st μ else mm_wpB Sh scr rb Cs (mm_wp Sh scr rb Cs K RI RV lab_106 cut n) RI RV [(some (.istore_n 3), 0, 0, [], 0), (some (.iload_n 2), 0, 0, [], 0), (some (.tableswitch 65 0 2 #[28, 35, 50]), 93, 28, [56, 63, 78], 0)] loc st μ) := by
  unfold mm_wp
  by_cases h : cut 26 = true
  · rw [if_pos h, if_pos h]
  · rw [if_neg h, if_neg h]; rfl
theorem wl_106_56 {Sh : List mm_C} {scr : Option (Nat × (Nat → Int32))} {rb : Bool} {Cs : Nat → List Value → mm_M → (Int32 → mm_M → Prop) → (mm_M → Prop) → Prop} {K : Nat → mm_L → List Value → mm_M → Prop} {RI : Int32 → mm_M → Prop} {RV : mm_M → Prop} {cut : Nat → Bool} {n : Nat} {loc : mm_L} {st : List Value} {μ : mm_M} : mm_wp Sh scr rb Cs K RI RV lab_106 cut (n + 1) 56 loc st μ = (if cut 56 = true then K 56 loc st μ else mm_wpB Sh scr rb Cs (mm_wp Sh scr rb Cs K RI RV lab_106 cut n) RI RV [(some (.aload_n 0), 0, 0, [], 0), (some (.getfield 38), 8, 13, [], 0), (some (.iload_n 1), 0, 0, [], 0), (some (.iaload), 0, 0, [], 0), (some (.ireturn), 0, 0, [], 0)] loc st μ) := by
  unfold mm_wp
  by_cases h : cut 56 = true
  · rw [if_pos h, if_pos h]
  · rw [if_neg h, if_neg h]; rfl
theorem wl_106_63 {Sh : List mm_C} {scr : Option (Nat × (Nat → Int32))} {rb : Bool} {Cs : Nat → List Value → mm_M → (Int32 → mm_M → Prop) → (mm_M → Prop) → Prop} {K : Nat → mm_L → List Value → mm_M → Prop} {RI : Int32 → mm_M → Prop} {RV : mm_M → Prop} {cut : Nat → Bool} {n : Nat} {loc : mm_L} {st : List Value} {μ : mm_M} : mm_wp Sh scr rb Cs K RI RV lab_106 cut (n + 1) 63 loc st μ = (if cut 63 = true then K 63 loc st μ else mm_wpB Sh scr rb Cs (mm_wp Sh scr rb Cs K RI RV lab_106 cut n) RI RV [(some (.iload_n 3), 0, 0, [], 0), (some (.ifCond .eq 12), 76, 0, [], 0), (some (.aload_n 0), 0, 0, [], 0), (some (.getfield 41), 8, 14, [], 0), (some (.iload_n 1), 0, 0, [], 0), (some (.iaload), 0, 0, [], 0), (some (.goto 4), 77, 0, [], 0)] loc st μ) := by
  unfold mm_wp
  by_cases h : cut 63 = true
  · rw [if_pos h, if_pos h]
  · rw [if_neg h, if_neg h]; rfl
theorem wl_106_76 {Sh : List mm_C} {scr : Option (Nat × (Nat → Int32))} {rb : Bool} {Cs : Nat → List Value → mm_M → (Int32 → mm_M → Prop) → (mm_M → Prop) → Prop} {K : Nat → mm_L → List Value → mm_M → Prop} {RI : Int32 → mm_M → Prop} {RV : mm_M → Prop} {cut : Nat → Bool} {n : Nat} {loc : mm_L} {st : List Value} {μ : mm_M} : mm_wp Sh scr rb Cs K RI RV lab_106 cut (n + 1) 76 loc st μ = (if cut 76 = true then K 76 loc st μ else mm_wpB Sh scr rb Cs (mm_wp Sh scr rb Cs K RI RV lab_106 cut n) RI RV [(some (.iconst 0), 0, 0, [], 0), (none, 77, 0, [], 0)] loc st μ) := by
  unfold mm_wp
  by_cases h : cut 76 = true
  · rw [if_pos h, if_pos h]
  · rw [if_neg h, if_neg h]; rfl
theorem wl_106_77 {Sh : List mm_C} {scr : Option (Nat × (Nat → Int32))} {rb : Bool} {Cs : Nat → List Value → mm_M → (Int32 → mm_M → Prop) → (mm_M → Prop) → Prop} {K : Nat → mm_L → List Value → mm_M → Prop} {RI : Int32 → mm_M → Prop} {RV : mm_M → Prop} {cut : Nat → Bool} {n : Nat} {loc : mm_L} {st : List Value} {μ : mm_M} : mm_wp Sh scr rb Cs K RI RV lab_106 cut (n + 1) 77 loc st μ = (if cut 77 = true then K 77 loc st μ else mm_wpB Sh scr rb Cs (mm_wp Sh scr rb Cs K RI RV lab_106 cut n) RI RV [(some (.ireturn), 0, 0, [], 0)] loc st μ) := by
  unfold mm_wp
  by_cases h : cut 77 = true
  · rw [if_pos h, if_pos h]
  · rw [if_neg h, if_neg h]; rfl
theorem wl_106_78 {Sh : List mm_C} {scr : Option (Nat × (Nat → Int32))} {rb : Bool} {Cs : Nat → List Value → mm_M → (Int32 → mm_M → Prop) → (mm_M → Prop) → Prop} {K : Nat → mm_L → List Value → mm_M → Prop} {RI : Int32 → mm_M → Prop} {RV : mm_M → Prop} {cut : Nat → Bool} {n : Nat} {loc : mm_L} {st : List Value} {μ : mm_M} : mm_wp Sh scr rb Cs K RI RV lab_106 cut (n + 1) 78 loc st μ = (if cut 78 = true then K 78 loc st μ else mm_wpB Sh scr rb Cs (mm_wp Sh scr rb Cs K RI RV lab_106 cut n) RI RV [(some (.iload_n 3), 0, 0, [], 0), (some (.ifCond .eq 12), 91, 0, [], 0), (some (.aload_n 0), 0, 0, [], 0), (some (.getfield 44), 8, 15, [], 0), (some (.iload_n 1), 0, 0, [], 0), (some (.iaload), 0, 0, [], 0), (some (.goto 4), 92, 0, [], 0)] loc st μ) := by
  unfold mm_wp
  by_cases h : cut 78 = true
  · rw [if_pos h, if_pos h]
  · rw [if_neg h, if_neg h]; rfl
theorem wl_106_91 {Sh : List mm_C} {scr : Option (Nat × (Nat → Int32))} {rb : Bool} {Cs : Nat → List Value → mm_M → (Int32 → mm_M → Prop) → (mm_M → Prop) → Prop} {K : Nat → mm_L → List Value → mm_M → Prop} {RI : Int32 → mm_M → Prop} {RV : mm_M → Prop} {cut : Nat → Bool} {n : Nat} {loc : mm_L} {st : List Value} {μ : mm_M} : mm_wp Sh scr rb Cs K RI RV lab_106 cut (n + 1) 91 loc st μ = (if cut 91 = true then K 91 loc st μ else mm_wpB Sh scr rb Cs (mm_wp Sh scr rb Cs K RI RV lab_106 cut n) RI RV [(some (.iconst (-1)), 0, 0, [], (-1)), (none, 92, 0, [], 0)] loc st μ) := by
  unfold mm_wp
  by_cases h : cut 91 = true
  · rw [if_pos h, if_pos h]
  · rw [if_neg h, if_neg h]; rfl
theorem wl_106_92 {Sh : List mm_C} {scr : Option (Nat × (Nat → Int32))} {rb : Bool} {Cs : Nat → List Value → mm_M → (Int32 → mm_M → Prop) → (mm_M → Prop) → Prop} {K : Nat → mm_L → List Value → mm_M → Prop} {RI : Int32 → mm_M → Prop} {RV : mm_M → Prop} {cut : Nat → Bool} {n : Nat} {loc : mm_L} {st : List Value} {μ : mm_M} : mm_wp Sh scr rb Cs K RI RV lab_106 cut (n + 1) 92 loc st μ = (if cut 92 = true then K 92 loc st μ else mm_wpB Sh scr rb Cs (mm_wp Sh scr rb Cs K RI RV lab_106 cut n) RI RV [(some (.ireturn), 0, 0, [], 0)] loc st μ) := by
  unfold mm_wp
  by_cases h : cut 92 = true
  · rw [if_pos h, if_pos h]
  · rw [if_neg h, if_neg h]; rfl
theorem wl_106_93 {Sh : List mm_C} {scr : Option (Nat × (Nat → Int32))} {rb : Bool} {Cs : Nat → List Value → mm_M → (Int32 → mm_M → Prop) → (mm_M → Prop) → Prop} {K : Nat → mm_L → List Value → mm_M → Prop} {RI : Int32 → mm_M → Prop} {RV : mm_M → Prop} {cut : Nat → Bool} {n : Nat} {loc : mm_L} {st : List Value} {μ : mm_M} : mm_wp Sh scr rb Cs K RI RV lab_106 cut (n + 1) 93 loc st μ = (if cut 93 = true then K 93 loc st μ else mm_wpB Sh scr rb Cs (mm_wp Sh scr rb Cs K RI RV lab_106 cut n) RI RV [(some (.iconst (-1)), 0, 0, [], (-1)), (some (.ireturn), 0, 0, [], 0)] loc st μ) := by
  unfold mm_wp
  by_cases h : cut 93 = true
  · rw [if_pos h, if_pos h]
  · rw [if_neg h, if_neg h]; rfl
theorem wl_107_0 {Sh : List mm_C} {scr : Option (Nat × (Nat → Int32))} {rb : Bool} {Cs : Nat → List Value → mm_M → (Int32 → mm_M → Prop) → (mm_M → Prop) → Prop} {K : Nat → mm_L → List Value → mm_M → Prop} {RI : Int32 → mm_M → Prop} {RV : mm_M → Prop} {cut : Nat → Bool} {n : Nat} {loc : mm_L} {st : List Value} {μ : mm_M} : mm_wp Sh scr rb Cs K RI RV lab_107 cut (n + 1) 0 loc st μ = (if cut 0 = true then K 0 loc st μ else mm_wpB Sh scr rb Cs (mm_wp Sh scr rb Cs K RI RV lab_107 cut n) RI RV [(some (.iload_n 1), 0, 0, [], 0), (some (.iconst 0), 0, 0, [], 0), (some (.aload_n 0), 0, 0, [], 0), (some (.getfield 173), 8, 27, [], 0), (some (.iconst 1), 0, 0, [], 1), (some (.isub), 0, 0, [], 0), (some (.invokestatic 102), 68, 3, [], 0), (some (.ifCond .ne 5), 16, 0, [], 0), (some (.iconst (-1)), 0, 0, [], (-1)), (some (.ireturn), 0, 0, [], 0)] loc st μ) := by
  unfold mm_wp
  by_cases h : cut 0 = true
  · rw [if_pos h, if_pos h]
  · rw [if_neg h, if_neg h]; rfl
theorem wl_107_16 {Sh : List mm_C} {scr : Option (Nat × (Nat → Int32))} {rb : Bool} {Cs : Nat → List Value → mm_M → (Int32 → mm_M → Prop) → (mm_M → Prop) → Prop} {K : Nat → mm_L → List Value → mm_M → Prop} {RI : Int32 → mm_M → Prop} {RV : mm_M → Prop} {cut : Nat → Bool} {n : Nat} {loc : mm_L} {st : List Value} {μ : mm_M} : mm_wp Sh scr rb Cs K RI RV lab_107 cut (n + 1) 16 loc st μ = (if cut 16 = true then K 16 loc st μ else mm_wpB Sh scr rb Cs (mm_wp Sh scr rb Cs K RI RV lab_107 cut n) RI RV [(some (.iload_n 2), 0, 0, [], 0), (some (.tableswitch 89 0 5 #[39, 46, 53, 60, 67, 74]), 106, 39, [56, 63, 70, 77, 84, 91], 0)] loc st μ) := by
  unfold mm_wp
  by_cases h : cut 16 = true
  · rw [if_pos h, if_pos h]
  · rw [if_neg h, if_neg h]; rfl
theorem wl_107_56 {Sh : List mm_C} {scr : Option (Nat × (Nat → Int32))} {rb : Bool} {Cs : Nat → List Value → mm_M → (Int32 → mm_M → Prop) → (mm_M → Prop) → Prop} {K : Nat → mm_L → List Value → mm_M → Prop} {RI : Int32 → mm_M → Prop} {RV : mm_M → Prop} {cut : Nat → Bool} {n : Nat} {loc : mm_L} {st : List Value} {μ : mm_M} : mm_wp Sh scr rb Cs K RI RV lab_107 cut (n + 1) 56 loc st μ = (if cut 56 = true then K 56 loc st μ else mm_wpB Sh scr rb Cs (mm_wp Sh scr rb Cs K RI RV lab_107 cut n) RI RV [(some (.aload_n 0), 0, 0, [], 0), (some (.getfield 71), 8, 28, [], 0), (some (.iload_n 1), 0, 0, [], 0), (some (.iaload), 0, 0, [], 0), (some (.ireturn), 0, 0, [], 0)] loc st μ) := by
  unfold mm_wp
  by_cases h : cut 56 = true
  · rw [if_pos h, if_pos h]
  · rw [if_neg h, if_neg h]; rfl
theorem wl_107_63 {Sh : List mm_C} {scr : Option (Nat × (Nat → Int32))} {rb : Bool} {Cs : Nat → List Value → mm_M → (Int32 → mm_M → Prop) → (mm_M → Prop) → Prop} {K : Nat → mm_L → List Value → mm_M → Prop} {RI : Int32 → mm_M → Prop} {RV : mm_M → Prop} {cut : Nat → Bool} {n : Nat} {loc : mm_L} {st : List Value} {μ : mm_M} : mm_wp Sh scr rb Cs K RI RV lab_107 cut (n + 1) 63 loc st μ = (if cut 63 = true then K 63 loc st μ else mm_wpB Sh scr rb Cs (mm_wp Sh scr rb Cs K RI RV lab_107 cut n) RI RV [(some (.aload_n 0), 0, 0, [], 0), (some (.getfield 74), 8, 29, [], 0), (some (.iload_n 1), 0, 0, [], 0), (some (.iaload), 0, 0, [], 0), (some (.ireturn), 0, 0, [], 0)] loc st μ) := by
  unfold mm_wp
  by_cases h : cut 63 = true
  · rw [if_pos h, if_pos h]
  · rw [if_neg h, if_neg h]; rfl
theorem wl_107_70 {Sh : List mm_C} {scr : Option (Nat × (Nat → Int32))} {rb : Bool} {Cs : Nat → List Value → mm_M → (Int32 → mm_M → Prop) → (mm_M → Prop) → Prop} {K : Nat → mm_L → List Value → mm_M → Prop} {RI : Int32 → mm_M → Prop} {RV : mm_M → Prop} {cut : Nat → Bool} {n : Nat} {loc : mm_L} {st : List Value} {μ : mm_M} : mm_wp Sh scr rb Cs K RI RV lab_107 cut (n + 1) 70 loc st μ = (if cut 70 = true then K 70 loc st μ else mm_wpB Sh scr rb Cs (mm_wp Sh scr rb Cs K RI RV lab_107 cut n) RI RV [(some (.aload_n 0), 0, 0, [], 0), (some (.getfield 77), 8, 30, [], 0), (some (.iload_n 1), 0, 0, [], 0), (some (.iaload), 0, 0, [], 0), (some (.ireturn), 0, 0, [], 0)] loc st μ) := by
  unfold mm_wp
  by_cases h : cut 70 = true
  · rw [if_pos h, if_pos h]
  · rw [if_neg h, if_neg h]; rfl
theorem wl_107_77 {Sh : List mm_C} {scr : Option (Nat × (Nat → Int32))} {rb : Bool} {Cs : Nat → List Value → mm_M → (Int32 → mm_M → Prop) → (mm_M → Prop) → Prop} {K : Nat → mm_L → List Value → mm_M → Prop} {RI : Int32 → mm_M → Prop} {RV : mm_M → Prop} {cut : Nat → Bool} {n : Nat} {loc : mm_L} {st : List Value} {μ : mm_M} : mm_wp Sh scr rb Cs K RI RV lab_107 cut (n + 1) 77 loc st μ = (if cut 77 = true then K 77 loc st μ else mm_wpB Sh scr rb Cs (mm_wp Sh scr rb Cs K RI RV lab_107 cut n) RI RV [(some (.aload_n 0), 0, 0, [], 0), (some (.getfield 80), 8, 31, [], 0), (some (.iload_n 1), 0, 0, [], 0), (some (.iaload), 0, 0, [], 0), (some (.ireturn), 0, 0, [], 0)] loc st μ) := by
  unfold mm_wp
  by_cases h : cut 77 = true
  · rw [if_pos h, if_pos h]
  · rw [if_neg h, if_neg h]; rfl
theorem wl_107_84 {Sh : List mm_C} {scr : Option (Nat × (Nat → Int32))} {rb : Bool} {Cs : Nat → List Value → mm_M → (Int32 → mm_M → Prop) → (mm_M → Prop) → Prop} {K : Nat → mm_L → List Value → mm_M → Prop} {RI : Int32 → mm_M → Prop} {RV : mm_M → Prop} {cut : Nat → Bool} {n : Nat} {loc : mm_L} {st : List Value} {μ : mm_M} : mm_wp Sh scr rb Cs K RI RV lab_107 cut (n + 1) 84 loc st μ = (if cut 84 = true then K 84 loc st μ else mm_wpB Sh scr rb Cs (mm_wp Sh scr rb Cs K RI RV lab_107 cut n) RI RV [(some (.aload_n 0), 0, 0, [], 0), (some (.getfield 83), 8, 32, [], 0), (some (.iload_n 1), 0, 0, [], 0), (some (.iaload), 0, 0, [], 0), (some (.ireturn), 0, 0, [], 0)] loc st μ) := by
  unfold mm_wp
  by_cases h : cut 84 = true
  · rw [if_pos h, if_pos h]
  · rw [if_neg h, if_neg h]; rfl
theorem wl_107_91 {Sh : List mm_C} {scr : Option (Nat × (Nat → Int32))} {rb : Bool} {Cs : Nat → List Value → mm_M → (Int32 → mm_M → Prop) → (mm_M → Prop) → Prop} {K : Nat → mm_L → List Value → mm_M → Prop} {RI : Int32 → mm_M → Prop} {RV : mm_M → Prop} {cut : Nat → Bool} {n : Nat} {loc : mm_L} {st : List Value} {μ : mm_M} : mm_wp Sh scr rb Cs K RI RV lab_107 cut (n + 1) 91 loc st μ = (if cut 91 = true then K 91 loc st μ else mm_wpB Sh scr rb Cs (mm_wp Sh scr rb Cs K RI RV lab_107 cut n) RI RV [(some (.aload_n 0), 0, 0, [], 0), (some (.getfield 86), 8, 33, [], 0), (some (.iload_n 1), 0, 0, [], 0), (some (.baload), 0, 0, [], 0), (some (.ifCond .eq 7), 104, 0, [], 0), (some (.iconst 1), 0, 0, [], 1), (some (.goto 4), 105, 0, [], 0)] loc st μ) := by
  unfold mm_wp
  by_cases h : cut 91 = true
  · rw [if_pos h, if_pos h]
  · rw [if_neg h, if_neg h]; rfl
theorem wl_107_104 {Sh : List mm_C} {scr : Option (Nat × (Nat → Int32))} {rb : Bool} {Cs : Nat → List Value → mm_M → (Int32 → mm_M → Prop) → (mm_M → Prop) → Prop} {K : Nat → mm_L → List Value → mm_M → Prop} {RI : Int32 → mm_M → Prop} {RV : mm_M → Prop} {cut : Nat → Bool} {n : Nat} {loc : mm_L} {st : List Value} {μ : mm_M} : mm_wp Sh scr rb Cs K RI RV lab_107 cut (n + 1) 104 loc st μ = (if cut 104 = true then K 104 loc st μ else mm_wpB Sh scr rb Cs (mm_wp Sh scr rb Cs K RI RV lab_107 cut n) RI RV [(some (.iconst 0), 0, 0, [], 0), (none, 105, 0, [], 0)] loc st μ) := by
  unfold mm_wp
  by_cases h : cut 104 = true
  · rw [if_pos h, if_pos h]
  · rw [if_neg h, if_neg h]; rfl
theorem wl_107_105 {Sh : List mm_C} {scr : Option (Nat × (Nat → Int32))} {rb : Bool} {Cs : Nat → List Value → mm_M → (Int32 → mm_M → Prop) → (mm_M → Prop) → Prop} {K : Nat → mm_L → List Value → mm_M → Prop} {RI : Int32 → mm_M → Prop} {RV : mm_M → Prop} {cut : Nat → Bool} {n : Nat} {loc : mm_L} {st : List Value} {μ : mm_M} : mm_wp Sh scr rb Cs K RI RV lab_107 cut (n + 1) 105 loc st μ = (if cut 105 = true then K 105 loc st μ else mm_wpB Sh scr rb Cs (mm_wp Sh scr rb Cs K RI RV lab_107 cut n) RI RV [(some (.ireturn), 0, 0, [], 0)] loc st μ) := by
  unfold mm_wp
  by_cases h : cut 105 = true
  · rw [if_pos h, if_pos h]
  · rw [if_neg h, if_neg h]; rfl
theorem wl_107_106 {Sh : List mm_C} {scr : Option (Nat × (Nat → Int32))} {rb : Bool} {Cs : Nat → List Value → mm_M → (Int32 → mm_M → Prop) → (mm_M → Prop) → Prop} {K : Nat → mm_L → List Value → mm_M → Prop} {RI : Int32 → mm_M → Prop} {RV : mm_M → Prop} {cut : Nat → Bool} {n : Nat} {loc : mm_L} {st : List Value} {μ : mm_M} : mm_wp Sh scr rb Cs K RI RV lab_107 cut (n + 1) 106 loc st μ = (if cut 106 = true then K 106 loc st μ else mm_wpB Sh scr rb Cs (mm_wp Sh scr rb Cs K RI RV lab_107 cut n) RI RV [(some (.iconst (-1)), 0, 0, [], (-1)), (some (.ireturn), 0, 0, [], 0)] loc st μ) := by
  unfold mm_wp
  by_cases h : cut 106 = true
  · rw [if_pos h, if_pos h]
  · rw [if_neg h, if_neg h]; rfl
theorem wl_108_0 {Sh : List mm_C} {scr : Option (Nat × (Nat → Int32))} {rb : Bool} {Cs : Nat → List Value → mm_M → (Int32 → mm_M → Prop) → (mm_M → Prop) → Prop} {K : Nat → mm_L → List Value → mm_M → Prop} {RI : Int32 → mm_M → Prop} {RV : mm_M → Prop} {cut : Nat → Bool} {n : Nat} {loc : mm_L} {st : List Value} {μ : mm_M} : mm_wp Sh scr rb Cs K RI RV lab_108 cut (n + 1) 0 loc st μ = (if cut 0 = true then K 0 loc st μ else mm_wpB Sh scr rb Cs (mm_wp Sh scr rb Cs K RI RV lab_108 cut n) RI RV [(some (.iconst 0), 0, 0, [], 0), (some (.istore_n 2), 0, 0, [], 0), (some (.iload_n 1), 0, 0, [], 0), (some (.tableswitch 208 0 13 #[69, 74, 79, 106, 129, 159, 164, 169, 174, 179, 184, 189, 194, 201]), 211, 69, [72, 77, 82, 109, 132, 162, 167, 172, 177, 182, 187, 192, 197, 204], 0)] loc st μ) := by
  unfold mm_wp
  by_cases h : cut 0 = true
  · rw [if_pos h, if_pos h]
  · rw [if_neg h, if_neg h]; rfl
theorem wl_108_72 {Sh : List mm_C} {scr : Option (Nat × (Nat → Int32))} {rb : Bool} {Cs : Nat → List Value → mm_M → (Int32 → mm_M → Prop) → (mm_M → Prop) → Prop} {K : Nat → mm_L → List Value → mm_M → Prop} {RI : Int32 → mm_M → Prop} {RV : mm_M → Prop} {cut : Nat → Bool} {n : Nat} {loc : mm_L} {st : List Value} {μ : mm_M} : mm_wp Sh scr rb Cs K RI RV lab_108 cut (n + 1) 72 loc st μ = (if cut 72 = true then K 72 loc st μ else mm_wpB Sh scr rb Cs (mm_wp Sh scr rb Cs K RI RV lab_108 cut n) RI RV [(some (.aload_n 0), 0, 0, [], 0), (some (.getfield 106), 8, 0, [], 0), (some (.ireturn), 0, 0, [], 0)] loc st μ) := by
  unfold mm_wp
  by_cases h : cut 72 = true
  · rw [if_pos h, if_pos h]
  · rw [if_neg h, if_neg h]; rfl
theorem wl_108_77 {Sh : List mm_C} {scr : Option (Nat × (Nat → Int32))} {rb : Bool} {Cs : Nat → List Value → mm_M → (Int32 → mm_M → Prop) → (mm_M → Prop) → Prop} {K : Nat → mm_L → List Value → mm_M → Prop} {RI : Int32 → mm_M → Prop} {RV : mm_M → Prop} {cut : Nat → Bool} {n : Nat} {loc : mm_L} {st : List Value} {μ : mm_M} : mm_wp Sh scr rb Cs K RI RV lab_108 cut (n + 1) 77 loc st μ = (if cut 77 = true then K 77 loc st μ else mm_wpB Sh scr rb Cs (mm_wp Sh scr rb Cs K RI RV lab_108 cut n) RI RV [(some (.aload_n 0), 0, 0, [], 0), (some (.getfield 98), 8, 1, [], 0), (some (.ireturn), 0, 0, [], 0)] loc st μ) := by
  unfold mm_wp
  by_cases h : cut 77 = true
  · rw [if_pos h, if_pos h]
  · rw [if_neg h, if_neg h]; rfl
theorem wl_108_82 {Sh : List mm_C} {scr : Option (Nat × (Nat → Int32))} {rb : Bool} {Cs : Nat → List Value → mm_M → (Int32 → mm_M → Prop) → (mm_M → Prop) → Prop} {K : Nat → mm_L → List Value → mm_M → Prop} {RI : Int32 → mm_M → Prop} {RV : mm_M → Prop} {cut : Nat → Bool} {n : Nat} {loc : mm_L} {st : List Value} {μ : mm_M} : mm_wp Sh scr rb Cs K RI RV lab_108 cut (n + 1) 82 loc st μ = (if cut 82 = true then K 82 loc st μ else mm_wpB Sh scr rb Cs (mm_wp Sh scr rb Cs K RI RV lab_108 cut n) RI RV [(some (.iconst 0), 0, 0, [], 0), (some (.istore_n 3), 0, 0, [], 0), (none, 84, 0, [], 0)] loc st μ) := by
  unfold mm_wp
  by_cases h : cut 82 = true
  · rw [if_pos h, if_pos h]
  · rw [if_neg h, if_neg h]; rfl
theorem wl_108_84 {Sh : List mm_C} {scr : Option (Nat × (Nat → Int32))} {rb : Bool} {Cs : Nat → List Value → mm_M → (Int32 → mm_M → Prop) → (mm_M → Prop) → Prop} {K : Nat → mm_L → List Value → mm_M → Prop} {RI : Int32 → mm_M → Prop} {RV : mm_M → Prop} {cut : Nat → Bool} {n : Nat} {loc : mm_L} {st : List Value} {μ : mm_M} : mm_wp Sh scr rb Cs K RI RV lab_108 cut (n + 1) 84 loc st μ = (if cut 84 = true then K 84 loc st μ else mm_wpB Sh scr rb Cs (mm_wp Sh scr rb Cs K RI RV lab_108 cut n) RI RV [(some (.iload_n 3), 0, 0, [], 0), (some (.aload_n 0), 0, 0, [], 0), (some (.getfield 98), 8, 1, [], 0), (some (.if_icmp .ge 18), 107, 0, [], 0), (some (.iload_n 2), 0, 0, [], 0), (some (.aload_n 0), 0, 0, [], 0), (some (.getfield 13), 8, 3, [], 0), (some (.iload_n 3), 0, 0, [], 0), (some (.iaload), 0, 0, [], 0), (some (.iadd), 0, 0, [], 0), (some (.istore_n 2), 0, 0, [], 0), (some (.iinc 3 1), 0, 0, [], 1), (some (.goto (-20)), 84, 0, [], 0)] loc st μ) := by
  unfold mm_wp
  by_cases h : cut 84 = true
  · rw [if_pos h, if_pos h]
  · rw [if_neg h, if_neg h]; rfl
theorem wl_108_107 {Sh : List mm_C} {scr : Option (Nat × (Nat → Int32))} {rb : Bool} {Cs : Nat → List Value → mm_M → (Int32 → mm_M → Prop) → (mm_M → Prop) → Prop} {K : Nat → mm_L → List Value → mm_M → Prop} {RI : Int32 → mm_M → Prop} {RV : mm_M → Prop} {cut : Nat → Bool} {n : Nat} {loc : mm_L} {st : List Value} {μ : mm_M} : mm_wp Sh scr rb Cs K RI RV lab_108 cut (n + 1) 107 loc st μ = (if cut 107 = true then K 107 loc st μ else mm_wpB Sh scr rb Cs (mm_wp Sh scr rb Cs K RI RV lab_108 cut n) RI RV [(some (.iload_n 2), 0, 0, [], 0), (some (.ireturn), 0, 0, [], 0)] loc st μ) := by
  unfold mm_wp
  by_cases h : cut 107 = true
  · rw [if_pos h, if_pos h]
  · rw [if_neg h, if_neg h]; rfl
theorem wl_108_109 {Sh : List mm_C} {scr : Option (Nat × (Nat → Int32))} {rb : Bool} {Cs : Nat → List Value → mm_M → (Int32 → mm_M → Prop) → (mm_M → Prop) → Prop} {K : Nat → mm_L → List Value → mm_M → Prop} {RI : Int32 → mm_M → Prop} {RV : mm_M → Prop} {cut : Nat → Bool} {n : Nat} {loc : mm_L} {st : List Value} {μ : mm_M} : mm_wp Sh scr rb Cs K RI RV lab_108 cut (n + 1) 109 loc st μ = (if cut 109 = true then K 109 loc st μ else mm_wpB Sh scr rb Cs (mm_wp Sh scr rb Cs K RI RV lab_108 cut n) RI RV [(some (.iconst 0), 0, 0, [], 0), (some (.istore_n 3), 0, 0, [], 0), (none, 111, 0, [], 0)] loc st μ) := by
  unfold mm_wp
  by_cases h : cut 109 = true
  · rw [if_pos h, if_pos h]
  · rw [if_neg h, if_neg h]; rfl
theorem wl_108_111 {Sh : List mm_C} {scr : Option (Nat × (Nat → Int32))} {rb : Bool} {Cs : Nat → List Value → mm_M → (Int32 → mm_M → Prop) → (mm_M → Prop) → Prop} {K : Nat → mm_L → List Value → mm_M → Prop} {RI : Int32 → mm_M → Prop} {RV : mm_M → Prop} {cut : Nat → Bool} {n : Nat} {loc : mm_L} {st : List Value} {μ : mm_M} : mm_wp Sh scr rb Cs K RI RV lab_108 cut (n + 1) 111 loc st μ = (if cut 111 = true then K 111 loc st μ else mm_wpB Sh scr rb Cs (mm_wp Sh scr rb Cs K RI RV lab_108 cut n) RI RV [(some (.iload_n 3), 0, 0, [], 0), (some (.iconst 3), 0, 0, [], 3), (some (.if_icmp .ge 17), 130, 0, [], 0), (some (.iload_n 2), 0, 0, [], 0), (some (.aload_n 0), 0, 0, [], 0), (some (.iload_n 3), 0, 0, [], 0), (some (.invokevirtual 160), 88, 2, [], 0), (some (.iadd), 0, 0, [], 0), (some (.istore_n 2), 0, 0, [], 0), (some (.iinc 3 1), 0, 0, [], 1), (some (.goto (-16)), 111, 0, [], 0)] loc st μ) := by
  unfold mm_wp
  by_cases h : cut 111 = true
  · rw [if_pos h, if_pos h]
  · rw [if_neg h, if_neg h]; rfl
theorem wl_108_130 {Sh : List mm_C} {scr : Option (Nat × (Nat → Int32))} {rb : Bool} {Cs : Nat → List Value → mm_M → (Int32 → mm_M → Prop) → (mm_M → Prop) → Prop} {K : Nat → mm_L → List Value → mm_M → Prop} {RI : Int32 → mm_M → Prop} {RV : mm_M → Prop} {cut : Nat → Bool} {n : Nat} {loc : mm_L} {st : List Value} {μ : mm_M} : mm_wp Sh scr rb Cs K RI RV lab_108 cut (n + 1) 130 loc st μ = (if cut 130 = true then K 130 loc st μ else mm_wpB Sh scr rb Cs (mm_wp Sh scr rb Cs K RI RV lab_108 cut n) RI RV [(some (.iload_n 2), 0, 0, [], 0), (some (.ireturn), 0, 0, [], 0)] loc st μ) := by
  unfold mm_wp
  by_cases h : cut 130 = true
  · rw [if_pos h, if_pos h]
  · rw [if_neg h, if_neg h]; rfl
theorem wl_108_132 {Sh : List mm_C} {scr : Option (Nat × (Nat → Int32))} {rb : Bool} {Cs : Nat → List Value → mm_M → (Int32 → mm_M → Prop) → (mm_M → Prop) → Prop} {K : Nat → mm_L → List Value → mm_M → Prop} {RI : Int32 → mm_M → Prop} {RV : mm_M → Prop} {cut : Nat → Bool} {n : Nat} {loc : mm_L} {st : List Value} {μ : mm_M} : mm_wp Sh scr rb Cs K RI RV lab_108 cut (n + 1) 132 loc st μ = (if cut 132 = true then K 132 loc st μ else mm_wpB Sh scr rb Cs (mm_wp Sh scr rb Cs K RI RV lab_108 cut n) RI RV [(some (.iconst 0), 0, 0, [], 0), (some (.istore_n 3), 0, 0, [], 0), (none, 134, 0, [], 0)] loc st μ) := by
  unfold mm_wp
  by_cases h : cut 132 = true
  · rw [if_pos h, if_pos h]
  · rw [if_neg h, if_neg h]; rfl
theorem wl_108_134 {Sh : List mm_C} {scr : Option (Nat × (Nat → Int32))} {rb : Bool} {Cs : Nat → List Value → mm_M → (Int32 → mm_M → Prop) → (mm_M → Prop) → Prop} {K : Nat → mm_L → List Value → mm_M → Prop} {RI : Int32 → mm_M → Prop} {RV : mm_M → Prop} {cut : Nat → Bool} {n : Nat} {loc : mm_L} {st : List Value} {μ : mm_M} : mm_wp Sh scr rb Cs K RI RV lab_108 cut (n + 1) 134 loc st μ = (if cut 134 = true then K 134 loc st μ else mm_wpB Sh scr rb Cs (mm_wp Sh scr rb Cs K RI RV lab_108 cut n) RI RV [(some (.iload_n 3), 0, 0, [], 0), (some (.aload_n 0), 0, 0, [], 0), (some (.getfield 135), 8, 18, [], 0), (some (.bipush 60), 0, 0, [], 60), (some (.imul), 0, 0, [], 0), (some (.if_icmp .ge 18), 160, 0, [], 0), (some (.iload_n 2), 0, 0, [], 0), (some (.aload_n 0), 0, 0, [], 0), (some (.getfield 68), 8, 25, [], 0), (some (.iload_n 3), 0, 0, [], 0), (some (.iaload), 0, 0, [], 0), (some (.iadd), 0, 0, [], 0), (some (.istore_n 2), 0, 0, [], 0), (some (.iinc 3 1), 0, 0, [], 1), (some (.goto (-23)), 134, 0, [], 0)] loc st μ) := by
  unfold mm_wp
  by_cases h : cut 134 = true
  · rw [if_pos h, if_pos h]
  · rw [if_neg h, if_neg h]; rfl
theorem wl_108_160 {Sh : List mm_C} {scr : Option (Nat × (Nat → Int32))} {rb : Bool} {Cs : Nat → List Value → mm_M → (Int32 → mm_M → Prop) → (mm_M → Prop) → Prop} {K : Nat → mm_L → List Value → mm_M → Prop} {RI : Int32 → mm_M → Prop} {RV : mm_M → Prop} {cut : Nat → Bool} {n : Nat} {loc : mm_L} {st : List Value} {μ : mm_M} : mm_wp Sh scr rb Cs K RI RV lab_108 cut (n + 1) 160 loc st μ = (if cut 160 = true then K 160 loc st μ else mm_wpB Sh scr rb Cs (mm_wp Sh scr rb Cs K RI RV lab_108 cut n) RI RV [(some (.iload_n 2), 0, 0, [], 0), (some (.ireturn), 0, 0, [], 0)] loc st μ) := by
  unfold mm_wp
  by_cases h : cut 160 = true
  · rw [if_pos h, if_pos h]
  · rw [if_neg h, if_neg h]; rfl
theorem wl_108_162 {Sh : List mm_C} {scr : Option (Nat × (Nat → Int32))} {rb : Bool} {Cs : Nat → List Value → mm_M → (Int32 → mm_M → Prop) → (mm_M → Prop) → Prop} {K : Nat → mm_L → List Value → mm_M → Prop} {RI : Int32 → mm_M → Prop} {RV : mm_M → Prop} {cut : Nat → Bool} {n : Nat} {loc : mm_L} {st : List Value} {μ : mm_M} : mm_wp Sh scr rb Cs K RI RV lab_108 cut (n + 1) 162 loc st μ = (if cut 162 = true then K 162 loc st μ else mm_wpB Sh scr rb Cs (mm_wp Sh scr rb Cs K RI RV lab_108 cut n) RI RV [(some (.aload_n 0), 0, 0, [], 0), (some (.getfield 163), 8, 17, [], 0), (some (.ireturn), 0, 0, [], 0)] loc st μ) := by
  unfold mm_wp
  by_cases h : cut 162 = true
  · rw [if_pos h, if_pos h]
  · rw [if_neg h, if_neg h]; rfl
theorem wl_108_167 {Sh : List mm_C} {scr : Option (Nat × (Nat → Int32))} {rb : Bool} {Cs : Nat → List Value → mm_M → (Int32 → mm_M → Prop) → (mm_M → Prop) → Prop} {K : Nat → mm_L → List Value → mm_M → Prop} {RI : Int32 → mm_M → Prop} {RV : mm_M → Prop} {cut : Nat → Bool} {n : Nat} {loc : mm_L} {st : List Value} {μ : mm_M} : mm_wp Sh scr rb Cs K RI RV lab_108 cut (n + 1) 167 loc st μ = (if cut 167 = true then K 167 loc st μ else mm_wpB Sh scr rb Cs (mm_wp Sh scr rb Cs K RI RV lab_108 cut n) RI RV [(some (.aload_n 0), 0, 0, [], 0), (some (.getfield 135), 8, 18, [], 0), (some (.ireturn), 0, 0, [], 0)] loc st μ) := by
  unfold mm_wp
  by_cases h : cut 167 = true
  · rw [if_pos h, if_pos h]
  · rw [if_neg h, if_neg h]; rfl
theorem wl_108_172 {Sh : List mm_C} {scr : Option (Nat × (Nat → Int32))} {rb : Bool} {Cs : Nat → List Value → mm_M → (Int32 → mm_M → Prop) → (mm_M → Prop) → Prop} {K : Nat → mm_L → List Value → mm_M → Prop} {RI : Int32 → mm_M → Prop} {RV : mm_M → Prop} {cut : Nat → Bool} {n : Nat} {loc : mm_L} {st : List Value} {μ : mm_M} : mm_wp Sh scr rb Cs K RI RV lab_108 cut (n + 1) 172 loc st μ = (if cut 172 = true then K 172 loc st μ else mm_wpB Sh scr rb Cs (mm_wp Sh scr rb Cs K RI RV lab_108 cut n) RI RV [(some (.aload_n 0), 0, 0, [], 0), (some (.invokevirtual 154), 83, 1, [], 0), (some (.ireturn), 0, 0, [], 0)] loc st μ) := by
  unfold mm_wp
  by_cases h : cut 172 = true
  · rw [if_pos h, if_pos h]
  · rw [if_neg h, if_neg h]; rfl
theorem wl_108_177 {Sh : List mm_C} {scr : Option (Nat × (Nat → Int32))} {rb : Bool} {Cs : Nat → List Value → mm_M → (Int32 → mm_M → Prop) → (mm_M → Prop) → Prop} {K : Nat → mm_L → List Value → mm_M → Prop} {RI : Int32 → mm_M → Prop} {RV : mm_M → Prop} {cut : Nat → Bool} {n : Nat} {loc : mm_L} {st : List Value} {μ : mm_M} : mm_wp Sh scr rb Cs K RI RV lab_108 cut (n + 1) 177 loc st μ = (if cut 177 = true then K 177 loc st μ else mm_wpB Sh scr rb Cs (mm_wp Sh scr rb Cs K RI RV lab_108 cut n) RI RV [(some (.aload_n 0), 0, 0, [], 0), (some (.getfield 151), 8, 12, [], 0), (some (.ireturn), 0, 0, [], 0)] loc st μ) := by
  unfold mm_wp
  by_cases h : cut 177 = true
  · rw [if_pos h, if_pos h]
  · rw [if_neg h, if_neg h]; rfl
theorem wl_108_182 {Sh : List mm_C} {scr : Option (Nat × (Nat → Int32))} {rb : Bool} {Cs : Nat → List Value → mm_M → (Int32 → mm_M → Prop) → (mm_M → Prop) → Prop} {K : Nat → mm_L → List Value → mm_M → Prop} {RI : Int32 → mm_M → Prop} {RV : mm_M → Prop} {cut : Nat → Bool} {n : Nat} {loc : mm_L} {st : List Value} {μ : mm_M} : mm_wp Sh scr rb Cs K RI RV lab_108 cut (n + 1) 182 loc st μ = (if cut 182 = true then K 182 loc st μ else mm_wpB Sh scr rb Cs (mm_wp Sh scr rb Cs K RI RV lab_108 cut n) RI RV [(some (.aload_n 0), 0, 0, [], 0), (some (.getfield 195), 8, 26, [], 0), (some (.ireturn), 0, 0, [], 0)] loc st μ) := by
  unfold mm_wp
  by_cases h : cut 182 = true
  · rw [if_pos h, if_pos h]
  · rw [if_neg h, if_neg h]; rfl
theorem wl_108_187 {Sh : List mm_C} {scr : Option (Nat × (Nat → Int32))} {rb : Bool} {Cs : Nat → List Value → mm_M → (Int32 → mm_M → Prop) → (mm_M → Prop) → Prop} {K : Nat → mm_L → List Value → mm_M → Prop} {RI : Int32 → mm_M → Prop} {RV : mm_M → Prop} {cut : Nat → Bool} {n : Nat} {loc : mm_L} {st : List Value} {μ : mm_M} : mm_wp Sh scr rb Cs K RI RV lab_108 cut (n + 1) 187 loc st μ = (if cut 187 = true then K 187 loc st μ else mm_wpB Sh scr rb Cs (mm_wp Sh scr rb Cs K RI RV lab_108 cut n) RI RV [(some (.aload_n 0), 0, 0, [], 0), (some (.getfield 176), 8, 34, [], 0), (some (.ireturn), 0, 0, [], 0)] loc st μ) := by
  unfold mm_wp
  by_cases h : cut 187 = true
  · rw [if_pos h, if_pos h]
  · rw [if_neg h, if_neg h]; rfl
theorem wl_108_192 {Sh : List mm_C} {scr : Option (Nat × (Nat → Int32))} {rb : Bool} {Cs : Nat → List Value → mm_M → (Int32 → mm_M → Prop) → (mm_M → Prop) → Prop} {K : Nat → mm_L → List Value → mm_M → Prop} {RI : Int32 → mm_M → Prop} {RV : mm_M → Prop} {cut : Nat → Bool} {n : Nat} {loc : mm_L} {st : List Value} {μ : mm_M} : mm_wp Sh scr rb Cs K RI RV lab_108 cut (n + 1) 192 loc st μ = (if cut 192 = true then K 192 loc st μ else mm_wpB Sh scr rb Cs (mm_wp Sh scr rb Cs K RI RV lab_108 cut n) RI RV [(some (.aload_n 0), 0, 0, [], 0), (some (.getfield 114), 8, 7, [], 0), (some (.ireturn), 0, 0, [], 0)] loc st μ) := by
  unfold mm_wp
  by_cases h : cut 192 = true
  · rw [if_pos h, if_pos h]
  · rw [if_neg h, if_neg h]; rfl
theorem wl_108_197 {Sh : List mm_C} {scr : Option (Nat × (Nat → Int32))} {rb : Bool} {Cs : Nat → List Value → mm_M → (Int32 → mm_M → Prop) → (mm_M → Prop) → Prop} {K : Nat → mm_L → List Value → mm_M → Prop} {RI : Int32 → mm_M → Prop} {RV : mm_M → Prop} {cut : Nat → Bool} {n : Nat} {loc : mm_L} {st : List Value} {μ : mm_M} : mm_wp Sh scr rb Cs K RI RV lab_108 cut (n + 1) 197 loc st μ = (if cut 197 = true then K 197 loc st μ else mm_wpB Sh scr rb Cs (mm_wp Sh scr rb Cs K RI RV lab_108 cut n) RI RV [(some (.aload_n 0), 0, 0, [], 0), (some (.getfield 32), 8, 10, [], 0), (some (.iconst 0), 0, 0, [], 0), (some (.iaload), 0, 0, [], 0), (some (.ireturn), 0, 0, [], 0)] loc st μ) := by
  unfold mm_wp
  by_cases h : cut 197 = true
  · rw [if_pos h, if_pos h]
  · rw [if_neg h, if_neg h]; rfl
theorem wl_108_204 {Sh : List mm_C} {scr : Option (Nat × (Nat → Int32))} {rb : Bool} {Cs : Nat → List Value → mm_M → (Int32 → mm_M → Prop) → (mm_M → Prop) → Prop} {K : Nat → mm_L → List Value → mm_M → Prop} {RI : Int32 → mm_M → Prop} {RV : mm_M → Prop} {cut : Nat → Bool} {n : Nat} {loc : mm_L} {st : List Value} {μ : mm_M} : mm_wp Sh scr rb Cs K RI RV lab_108 cut (n + 1) 204 loc st μ = (if cut 204 = true then K 204 loc st μ else mm_wpB Sh scr rb Cs (mm_wp Sh scr rb Cs K RI RV lab_108 cut n) RI RV [(some (.aload_n 0), 0, 0, [], 0), (some (.getfield 32), 8, 10, [], 0), (some (.iconst 1), 0, 0, [], 1), (some (.iaload), 0, 0, [], 0), (some (.ireturn), 0, 0, [], 0)] loc st μ) := by
  unfold mm_wp
  by_cases h : cut 204 = true
  · rw [if_pos h, if_pos h]
  · rw [if_neg h, if_neg h]; rfl
theorem wl_108_211 {Sh : List mm_C} {scr : Option (Nat × (Nat → Int32))} {rb : Bool} {Cs : Nat → List Value → mm_M → (Int32 → mm_M → Prop) → (mm_M → Prop) → Prop} {K : Nat → mm_L → List Value → mm_M → Prop} {RI : Int32 → mm_M → Prop} {RV : mm_M → Prop} {cut : Nat → Bool} {n : Nat} {loc : mm_L} {st : List Value} {μ : mm_M} : mm_wp Sh scr rb Cs K RI RV lab_108 cut (n + 1) 211 loc st μ = (if cut 211 = true then K 211 loc st μ else mm_wpB Sh scr rb Cs (mm_wp Sh scr rb Cs K RI RV lab_108 cut n) RI RV [(some (.iconst (-1)), 0, 0, [], (-1)), (some (.ireturn), 0, 0, [], 0)] loc st μ) := by
  unfold mm_wp
  by_cases h : cut 211 = true
  · rw [if_pos h, if_pos h]
  · rw [if_neg h, if_neg h]; rfl
theorem wl_109_0 {Sh : List mm_C} {scr : Option (Nat × (Nat → Int32))} {rb : Bool} {Cs : Nat → List Value → mm_M → (Int32 → mm_M → Prop) → (mm_M → Prop) → Prop} {K : Nat → mm_L → List Value → mm_M → Prop} {RI : Int32 → mm_M → Prop} {RV : mm_M → Prop} {cut : Nat → Bool} {n : Nat} {loc : mm_L} {st : List Value} {μ : mm_M} : mm_wp Sh scr rb Cs K RI RV lab_109 cut (n + 1) 0 loc st μ = (if cut 0 = true then K 0 loc st μ else mm_wpB Sh scr rb Cs (mm_wp Sh scr rb Cs K RI RV lab_109 cut n) RI RV [(some (.iload_n 2), 0, 0, [], 0), (some (.iconst 4), 0, 0, [], 4), (some (.if_icmp .lt 9), 11, 0, [], 0), (some (.aload_n 0), 0, 0, [], 0), (some (.iload_n 3), 0, 0, [], 0), (some (.invokevirtual 63), 38, 2, [], 0), (some (.return_), 0, 0, [], 0)] loc st μ) := by
  unfold mm_wp
  by_cases h : cut 0 = true
  · rw [if_pos h, if_pos h]
  · rw [if_neg h, if_neg h]; rfl
theorem wl_109_11 {Sh : List mm_C} {scr : Option (Nat × (Nat → Int32))} {rb : Bool} {Cs : Nat → List Value → mm_M → (Int32 → mm_M → Prop) → (mm_M → Prop) → Prop} {K : Nat → mm_L → List Value → mm_M → Prop} {RI : Int32 → mm_M → Prop} {RV : mm_M → Prop} {cut : Nat → Bool} {n : Nat} {loc : mm_L} {st : List Value} {μ : mm_M} : mm_wp Sh scr rb Cs K RI RV lab_109 cut (n + 1) 11 loc st μ = (if cut 11 = true then K 11 loc st μ else mm_wpB Sh scr rb Cs (mm_wp Sh scr rb Cs K RI RV lab_109 cut n) RI RV [(some (.aload_n 0), 0, 0, [], 0), (some (.aload_n 1), 0, 0, [], 0), (some (.iload_n 2), 0, 0, [], 0), (some (.invokevirtual 56), 39, 3, [], 0), (some (.istore 4), 0, 0, [], 0), (some (.iload_n 2), 0, 0, [], 0), (some (.iconst 3), 0, 0, [], 3), (some (.if_icmp .ne 8), 29, 0, [], 0), (some (.iload 4), 0, 0, [], 0), (some (.goto 4), 30, 0, [], 0)] loc st μ) := by
  unfold mm_wp
  by_cases h : cut 11 = true
  · rw [if_pos h, if_pos h]
  · rw [if_neg h, if_neg h]; rfl
theorem wl_109_29 {Sh : List mm_C} {scr : Option (Nat × (Nat → Int32))} {rb : Bool} {Cs : Nat → List Value → mm_M → (Int32 → mm_M → Prop) → (mm_M → Prop) → Prop} {K : Nat → mm_L → List Value → mm_M → Prop} {RI : Int32 → mm_M → Prop} {RV : mm_M → Prop} {cut : Nat → Bool} {n : Nat} {loc : mm_L} {st : List Value} {μ : mm_M} : mm_wp Sh scr rb Cs K RI RV lab_109 cut (n + 1) 29 loc st μ = (if cut 29 = true then K 29 loc st μ else mm_wpB Sh scr rb Cs (mm_wp Sh scr rb Cs K RI RV lab_109 cut n) RI RV [(some (.iconst 0), 0, 0, [], 0), (none, 30, 0, [], 0)] loc st μ) := by
  unfold mm_wp
  by_cases h : cut 29 = true
  · rw [if_pos h, if_pos h]
  · rw [if_neg h, if_neg h]; rfl
theorem wl_109_30 {Sh : List mm_C} {scr : Option (Nat × (Nat → Int32))} {rb : Bool} {Cs : Nat → List Value → mm_M → (Int32 → mm_M → Prop) → (mm_M → Prop) → Prop} {K : Nat → mm_L → List Value → mm_M → Prop} {RI : Int32 → mm_M → Prop} {RV : mm_M → Prop} {cut : Nat → Bool} {n : Nat} {loc : mm_L} {st : List Value} {μ : mm_M} : mm_wp Sh scr rb Cs K RI RV lab_109 cut (n + 1) 30 loc st μ = (if cut 30 = true then K 30 loc st μ else mm_wpB Sh scr rb Cs (mm_wp Sh scr rb Cs K RI RV lab_109 cut n) RI RV [(some (.istore 5), 0, 0, [], 0), (some (.iload 4), 0, 0, [], 0), (some (.istore 6), 0, 0, [], 0), (none, 36, 0, [], 0)] loc st μ) := by
  unfold mm_wp
  by_cases h : cut 30 = true
  · rw [if_pos h, if_pos h]
  · rw [if_neg h, if_neg h]; rfl
theorem wl_109_36 {Sh : List mm_C} {scr : Option (Nat × (Nat → Int32))} {rb : Bool} {Cs : Nat → List Value → mm_M → (Int32 → mm_M → Prop) → (mm_M → Prop) → Prop} {K : Nat → mm_L → List Value → mm_M → Prop} {RI : Int32 → mm_M → Prop} {RV : mm_M → Prop} {cut : Nat → Bool} {n : Nat} {loc : mm_L} {st : List Value} {μ : mm_M} : mm_wp Sh scr rb Cs K RI RV lab_109 cut (n + 1) 36 loc st μ = (if cut 36 = true then K 36 loc st μ else mm_wpB Sh scr rb Cs (mm_wp Sh scr rb Cs K RI RV lab_109 cut n) RI RV [(some (.iload 6), 0, 0, [], 0), (some (.iload 5), 0, 0, [], 0), (some (.if_icmp .lt 76), 116, 0, [], 0), (some (.iload_n 3), 0, 0, [], 0), (some (.iload 6), 0, 0, [], 0), (some (.aload_n 1), 0, 0, [], 0), (some (.getfield 53), 4, 5, [], 0), (some (.iload_n 2), 0, 0, [], 0), (some (.iaload), 0, 0, [], 0), (some (.imul), 0, 0, [], 0), (some (.iadd), 0, 0, [], 0), (some (.istore 7), 0, 0, [], 0), (some (.iload 7), 0, 0, [], 0), (some (.aload_n 0), 0, 0, [], 0), (some (.getfield 21), 6, 3, [], 0), (some (.iload_n 2), 0, 0, [], 0), (some (.iconst 1), 0, 0, [], 1), (some (.iadd), 0, 0, [], 0), (some (.iaload), 0, 0, [], 0), (some (.iadd), 0, 0, [], 0), (some (.aload_n 0), 0, 0, [], 0), (some (.getfield 60), 6, 7, [], 0), (some (.if_icmp .ge 4), 75, 0, [], 0), (some (.return_), 0, 0, [], 0)] loc st μ) := by
  unfold mm_wp
  by_cases h : cut 36 = true
  · rw [if_pos h, if_pos h]
  · rw [if_neg h, if_neg h]; rfl
theorem wl_109_75 {Sh : List mm_C} {scr : Option (Nat × (Nat → Int32))} {rb : Bool} {Cs : Nat → List Value → mm_M → (Int32 → mm_M → Prop) → (mm_M → Prop) → Prop} {K : Nat → mm_L → List Value → mm_M → Prop} {RI : Int32 → mm_M → Prop} {RV : mm_M → Prop} {cut : Nat → Bool} {n : Nat} {loc : mm_L} {st : List Value} {μ : mm_M} : mm_wp Sh scr rb Cs K RI RV lab_109 cut (n + 1) 75 loc st μ = (if cut 75 = true then K 75 loc st μ else mm_wpB Sh scr rb Cs (mm_wp Sh scr rb Cs K RI RV lab_109 cut n) RI RV [(some (.aload_n 0), 0, 0, [], 0), (some (.getfield 24), 6, 4, [], 0), (some (.iload_n 2), 0, 0, [], 0), (some (.iload 6), 0, 0, [], 0), (some (.iastore), 0, 0, [], 0), (some (.aload_n 0), 0, 0, [], 0), (some (.aload_n 1), 0, 0, [], 0), (some (.iload_n 2), 0, 0, [], 0), (some (.iload 6), 0, 0, [], 0), (some (.invokevirtual 67), 40, 4, [], 0), (some (.aload_n 0), 0, 0, [], 0), (some (.aload_n 1), 0, 0, [], 0), (some (.iload_n 2), 0, 0, [], 0), (some (.iconst 1), 0, 0, [], 1), (some (.iadd), 0, 0, [], 0), (some (.iload 7), 0, 0, [], 0), (some (.invokestatic 49), 110, 4, [], 0), (some (.aload_n 0), 0, 0, [], 0), (some (.aload_n 1), 0, 0, [], 0), (some (.iload_n 2), 0, 0, [], 0), (some (.iload 6), 0, 0, [], 0), (some (.ineg), 0, 0, [], 0), (some (.invokevirtual 67), 40, 4, [], 0), (some (.iinc 6 (-1)), 0, 0, [], (-1)), (some (.goto (-77)), 36, 0, [], 0)] loc st μ) := by
  unfold mm_wp
  by_cases h : cut 75 = true
  · rw [if_pos h, if_pos h]
  · rw [if_neg h, if_neg h]; rfl
theorem wl_109_116 {Sh : List mm_C} {scr : Option (Nat × (Nat → Int32))} {rb : Bool} {Cs : Nat → List Value → mm_M → (Int32 → mm_M → Prop) → (mm_M → Prop) → Prop} {K : Nat → mm_L → List Value → mm_M → Prop} {RI : Int32 → mm_M → Prop} {RV : mm_M → Prop} {cut : Nat → Bool} {n : Nat} {loc : mm_L} {st : List Value} {μ : mm_M} : mm_wp Sh scr rb Cs K RI RV lab_109 cut (n + 1) 116 loc st μ = (if cut 116 = true then K 116 loc st μ else mm_wpB Sh scr rb Cs (mm_wp Sh scr rb Cs K RI RV lab_109 cut n) RI RV [(some (.return_), 0, 0, [], 0)] loc st μ) := by
  unfold mm_wp
  by_cases h : cut 116 = true
  · rw [if_pos h, if_pos h]
  · rw [if_neg h, if_neg h]; rfl
theorem wl_110_0 {Sh : List mm_C} {scr : Option (Nat × (Nat → Int32))} {rb : Bool} {Cs : Nat → List Value → mm_M → (Int32 → mm_M → Prop) → (mm_M → Prop) → Prop} {K : Nat → mm_L → List Value → mm_M → Prop} {RI : Int32 → mm_M → Prop} {RV : mm_M → Prop} {cut : Nat → Bool} {n : Nat} {loc : mm_L} {st : List Value} {μ : mm_M} : mm_wp Sh scr rb Cs K RI RV lab_110 cut (n + 1) 0 loc st μ = (if cut 0 = true then K 0 loc st μ else mm_wpB Sh scr rb Cs (mm_wp Sh scr rb Cs K RI RV lab_110 cut n) RI RV [(some (.iload_n 2), 0, 0, [], 0), (some (.iconst 4), 0, 0, [], 4), (some (.if_icmp .lt 9), 11, 0, [], 0), (some (.aload_n 0), 0, 0, [], 0), (some (.iload_n 3), 0, 0, [], 0), (some (.invokevirtual 63), 38, 2, [], 0), (some (.return_), 0, 0, [], 0)] loc st μ) := by
  unfold mm_wp
  by_cases h : cut 0 = true
  · rw [if_pos h, if_pos h]
  · rw [if_neg h, if_neg h]; rfl
theorem wl_110_11 {Sh : List mm_C} {scr : Option (Nat × (Nat → Int32))} {rb : Bool} {Cs : Nat → List Value → mm_M → (Int32 → mm_M → Prop) → (mm_M → Prop) → Prop} {K : Nat → mm_L → List Value → mm_M → Prop} {RI : Int32 → mm_M → Prop} {RV : mm_M → Prop} {cut : Nat → Bool} {n : Nat} {loc : mm_L} {st : List Value} {μ : mm_M} : mm_wp Sh scr rb Cs K RI RV lab_110 cut (n + 1) 11 loc st μ = (if cut 11 = true then K 11 loc st μ else mm_wpB Sh scr rb Cs (mm_wp Sh scr rb Cs K RI RV lab_110 cut n) RI RV [(some (.aload_n 0), 0, 0, [], 0), (some (.aload_n 1), 0, 0, [], 0), (some (.iload_n 2), 0, 0, [], 0), (some (.invokevirtual 56), 39, 3, [], 0), (some (.istore 4), 0, 0, [], 0), (some (.iload_n 2), 0, 0, [], 0), (some (.iconst 3), 0, 0, [], 3), (some (.if_icmp .ne 8), 29, 0, [], 0), (some (.iload 4), 0, 0, [], 0), (some (.goto 4), 30, 0, [], 0)] loc st μ) := by
  unfold mm_wp
  by_cases h : cut 11 = true
  · rw [if_pos h, if_pos h]
  · rw [if_neg h, if_neg h]; rfl
theorem wl_110_29 {Sh : List mm_C} {scr : Option (Nat × (Nat → Int32))} {rb : Bool} {Cs : Nat → List Value → mm_M → (Int32 → mm_M → Prop) → (mm_M → Prop) → Prop} {K : Nat → mm_L → List Value → mm_M → Prop} {RI : Int32 → mm_M → Prop} {RV : mm_M → Prop} {cut : Nat → Bool} {n : Nat} {loc : mm_L} {st : List Value} {μ : mm_M} : mm_wp Sh scr rb Cs K RI RV lab_110 cut (n + 1) 29 loc st μ = (if cut 29 = true then K 29 loc st μ else mm_wpB Sh scr rb Cs (mm_wp Sh scr rb Cs K RI RV lab_110 cut n) RI RV [(some (.iconst 0), 0, 0, [], 0), (none, 30, 0, [], 0)] loc st μ) := by
  unfold mm_wp
  by_cases h : cut 29 = true
  · rw [if_pos h, if_pos h]
  · rw [if_neg h, if_neg h]; rfl
theorem wl_110_30 {Sh : List mm_C} {scr : Option (Nat × (Nat → Int32))} {rb : Bool} {Cs : Nat → List Value → mm_M → (Int32 → mm_M → Prop) → (mm_M → Prop) → Prop} {K : Nat → mm_L → List Value → mm_M → Prop} {RI : Int32 → mm_M → Prop} {RV : mm_M → Prop} {cut : Nat → Bool} {n : Nat} {loc : mm_L} {st : List Value} {μ : mm_M} : mm_wp Sh scr rb Cs K RI RV lab_110 cut (n + 1) 30 loc st μ = (if cut 30 = true then K 30 loc st μ else mm_wpB Sh scr rb Cs (mm_wp Sh scr rb Cs K RI RV lab_110 cut n) RI RV [(some (.istore 5), 0, 0, [], 0), (some (.iload 4), 0, 0, [], 0), (some (.istore 6), 0, 0, [], 0), (none, 36, 0, [], 0)] loc st μ) := by
  unfold mm_wp
  by_cases h : cut 30 = true
  · rw [if_pos h, if_pos h]
  · rw [if_neg h, if_neg h]; rfl
theorem wl_110_36 {Sh : List mm_C} {scr : Option (Nat × (Nat → Int32))} {rb : Bool} {Cs : Nat → List Value → mm_M → (Int32 → mm_M → Prop) → (mm_M → Prop) → Prop} {K : Nat → mm_L → List Value → mm_M → Prop} {RI : Int32 → mm_M → Prop} {RV : mm_M → Prop} {cut : Nat → Bool} {n : Nat} {loc : mm_L} {st : List Value} {μ : mm_M} : mm_wp Sh scr rb Cs K RI RV lab_110 cut (n + 1) 36 loc st μ = (if cut 36 = true then K 36 loc st μ else mm_wpB Sh scr rb Cs (mm_wp Sh scr rb Cs K RI RV lab_110 cut n) RI RV [(some (.iload 6), 0, 0, [], 0), (some (.iload 5), 0, 0, [], 0), (some (.if_icmp .lt 76), 116, 0, [], 0), (some (.iload_n 3), 0, 0, [], 0), (some (.iload 6), 0, 0, [], 0), (some (.aload_n 1), 0, 0, [], 0), (some (.getfield 53), 4, 5, [], 0), (some (.iload_n 2), 0, 0, [], 0), (some (.iaload), 0, 0, [], 0), (some (.imul), 0, 0, [], 0), (some (.iadd), 0, 0, [], 0), (some (.istore 7), 0, 0, [], 0), (some (.iload 7), 0, 0, [], 0), (some (.aload_n 0), 0, 0, [], 0), (some (.getfield 21), 6, 3, [], 0), (some (.iload_n 2), 0, 0, [], 0), (some (.iconst 1), 0, 0, [], 1), (some (.iadd), 0, 0, [], 0), (some (.iaload), 0, 0, [], 0), (some (.iadd), 0, 0, [], 0), (some (.aload_n 0), 0, 0, [], 0), (some (.getfield 60), 6, 7, [], 0), (some (.if_icmp .ge 4), 75, 0, [], 0), (some (.return_), 0, 0, [], 0)] loc st μ) := by
  unfold mm_wp
  by_cases h : cut 36 = true
  · rw [if_pos h, if_pos h]
  · rw [if_neg h, if_neg h]; rfl
theorem wl_110_75 {Sh : List mm_C} {scr : Option (Nat × (Nat → Int32))} {rb : Bool} {Cs : Nat → List Value → mm_M → (Int32 → mm_M → Prop) → (mm_M → Prop) → Prop} {K : Nat → mm_L → List Value → mm_M → Prop} {RI : Int32 → mm_M → Prop} {RV : mm_M → Prop} {cut : Nat → Bool} {n : Nat} {loc : mm_L} {st : List Value} {μ : mm_M} : mm_wp Sh scr rb Cs K RI RV lab_110 cut (n + 1) 75 loc st μ = (if cut 75 = true then K 75 loc st μ else mm_wpB Sh scr rb Cs (mm_wp Sh scr rb Cs K RI RV lab_110 cut n) RI RV [(some (.aload_n 0), 0, 0, [], 0), (some (.getfield 24), 6, 4, [], 0), (some (.iload_n 2), 0, 0, [], 0), (some (.iload 6), 0, 0, [], 0), (some (.iastore), 0, 0, [], 0), (some (.aload_n 0), 0, 0, [], 0), (some (.aload_n 1), 0, 0, [], 0), (some (.iload_n 2), 0, 0, [], 0), (some (.iload 6), 0, 0, [], 0), (some (.invokevirtual 67), 40, 4, [], 0), (some (.aload_n 0), 0, 0, [], 0), (some (.aload_n 1), 0, 0, [], 0), (some (.iload_n 2), 0, 0, [], 0), (some (.iconst 1), 0, 0, [], 1), (some (.iadd), 0, 0, [], 0), (some (.iload 7), 0, 0, [], 0), (some (.invokestatic 49), 111, 4, [], 0), (some (.aload_n 0), 0, 0, [], 0), (some (.aload_n 1), 0, 0, [], 0), (some (.iload_n 2), 0, 0, [], 0), (some (.iload 6), 0, 0, [], 0), (some (.ineg), 0, 0, [], 0), (some (.invokevirtual 67), 40, 4, [], 0), (some (.iinc 6 (-1)), 0, 0, [], (-1)), (some (.goto (-77)), 36, 0, [], 0)] loc st μ) := by
  unfold mm_wp
  by_cases h : cut 75 = true
  · rw [if_pos h, if_pos h]
  · rw [if_neg h, if_neg h]; rfl
theorem wl_110_116 {Sh : List mm_C} {scr : Option (Nat × (Nat → Int32))} {rb : Bool} {Cs : Nat → List Value → mm_M → (Int32 → mm_M → Prop) → (mm_M → Prop) → Prop} {K : Nat → mm_L → List Value → mm_M → Prop} {RI : Int32 → mm_M → Prop} {RV : mm_M → Prop} {cut : Nat → Bool} {n : Nat} {loc : mm_L} {st : List Value} {μ : mm_M} : mm_wp Sh scr rb Cs K RI RV lab_110 cut (n + 1) 116 loc st μ = (if cut 116 = true then K 116 loc st μ else mm_wpB Sh scr rb Cs (mm_wp Sh scr rb Cs K RI RV lab_110 cut n) RI RV [(some (.return_), 0, 0, [], 0)] loc st μ) := by
  unfold mm_wp
  by_cases h : cut 116 = true
  · rw [if_pos h, if_pos h]
  · rw [if_neg h, if_neg h]; rfl
theorem wl_111_0 {Sh : List mm_C} {scr : Option (Nat × (Nat → Int32))} {rb : Bool} {Cs : Nat → List Value → mm_M → (Int32 → mm_M → Prop) → (mm_M → Prop) → Prop} {K : Nat → mm_L → List Value → mm_M → Prop} {RI : Int32 → mm_M → Prop} {RV : mm_M → Prop} {cut : Nat → Bool} {n : Nat} {loc : mm_L} {st : List Value} {μ : mm_M} : mm_wp Sh scr rb Cs K RI RV lab_111 cut (n + 1) 0 loc st μ = (if cut 0 = true then K 0 loc st μ else mm_wpB Sh scr rb Cs (mm_wp Sh scr rb Cs K RI RV lab_111 cut n) RI RV [(some (.iload_n 2), 0, 0, [], 0), (some (.iconst 4), 0, 0, [], 4), (some (.if_icmp .lt 9), 11, 0, [], 0), (some (.aload_n 0), 0, 0, [], 0), (some (.iload_n 3), 0, 0, [], 0), (some (.invokevirtual 63), 38, 2, [], 0), (some (.return_), 0, 0, [], 0)] loc st μ) := by
  unfold mm_wp
  by_cases h : cut 0 = true
  · rw [if_pos h, if_pos h]
  · rw [if_neg h, if_neg h]; rfl
theorem wl_111_11 {Sh : List mm_C} {scr : Option (Nat × (Nat → Int32))} {rb : Bool} {Cs : Nat → List Value → mm_M → (Int32 → mm_M → Prop) → (mm_M → Prop) → Prop} {K : Nat → mm_L → List Value → mm_M → Prop} {RI : Int32 → mm_M → Prop} {RV : mm_M → Prop} {cut : Nat → Bool} {n : Nat} {loc : mm_L} {st : List Value} {μ : mm_M} : mm_wp Sh scr rb Cs K RI RV lab_111 cut (n + 1) 11 loc st μ = (if cut 11 = true then K 11 loc st μ else mm_wpB Sh scr rb Cs (mm_wp Sh scr rb Cs K RI RV lab_111 cut n) RI RV [(some (.aload_n 0), 0, 0, [], 0), (some (.aload_n 1), 0, 0, [], 0), (some (.iload_n 2), 0, 0, [], 0), (some (.invokevirtual 56), 39, 3, [], 0), (some (.istore 4), 0, 0, [], 0), (some (.iload_n 2), 0, 0, [], 0), (some (.iconst 3), 0, 0, [], 3), (some (.if_icmp .ne 8), 29, 0, [], 0), (some (.iload 4), 0, 0, [], 0), (some (.goto 4), 30, 0, [], 0)] loc st μ) := by
  unfold mm_wp
  by_cases h : cut 11 = true
  · rw [if_pos h, if_pos h]
  · rw [if_neg h, if_neg h]; rfl
theorem wl_111_29 {Sh : List mm_C} {scr : Option (Nat × (Nat → Int32))} {rb : Bool} {Cs : Nat → List Value → mm_M → (Int32 → mm_M → Prop) → (mm_M → Prop) → Prop} {K : Nat → mm_L → List Value → mm_M → Prop} {RI : Int32 → mm_M → Prop} {RV : mm_M → Prop} {cut : Nat → Bool} {n : Nat} {loc : mm_L} {st : List Value} {μ : mm_M} : mm_wp Sh scr rb Cs K RI RV lab_111 cut (n + 1) 29 loc st μ = (if cut 29 = true then K 29 loc st μ else mm_wpB Sh scr rb Cs (mm_wp Sh scr rb Cs K RI RV lab_111 cut n) RI RV [(some (.iconst 0), 0, 0, [], 0), (none, 30, 0, [], 0)] loc st μ) := by
  unfold mm_wp
  by_cases h : cut 29 = true
  · rw [if_pos h, if_pos h]
  · rw [if_neg h, if_neg h]; rfl
theorem wl_111_30 {Sh : List mm_C} {scr : Option (Nat × (Nat → Int32))} {rb : Bool} {Cs : Nat → List Value → mm_M → (Int32 → mm_M → Prop) → (mm_M → Prop) → Prop} {K : Nat → mm_L → List Value → mm_M → Prop} {RI : Int32 → mm_M → Prop} {RV : mm_M → Prop} {cut : Nat → Bool} {n : Nat} {loc : mm_L} {st : List Value} {μ : mm_M} : mm_wp Sh scr rb Cs K RI RV lab_111 cut (n + 1) 30 loc st μ = (if cut 30 = true then K 30 loc st μ else mm_wpB Sh scr rb Cs (mm_wp Sh scr rb Cs K RI RV lab_111 cut n) RI RV [(some (.istore 5), 0, 0, [], 0), (some (.iload 4), 0, 0, [], 0), (some (.istore 6), 0, 0, [], 0), (none, 36, 0, [], 0)] loc st μ) := by
  unfold mm_wp
  by_cases h : cut 30 = true
  · rw [if_pos h, if_pos h]
  · rw [if_neg h, if_neg h]; rfl
theorem wl_111_36 {Sh : List mm_C} {scr : Option (Nat × (Nat → Int32))} {rb : Bool} {Cs : Nat → List Value → mm_M → (Int32 → mm_M → Prop) → (mm_M → Prop) → Prop} {K : Nat → mm_L → List Value → mm_M → Prop} {RI : Int32 → mm_M → Prop} {RV : mm_M → Prop} {cut : Nat → Bool} {n : Nat} {loc : mm_L} {st : List Value} {μ : mm_M} : mm_wp Sh scr rb Cs K RI RV lab_111 cut (n + 1) 36 loc st μ = (if cut 36 = true then K 36 loc st μ else mm_wpB Sh scr rb Cs (mm_wp Sh scr rb Cs K RI RV lab_111 cut n) RI RV [(some (.iload 6), 0, 0, [], 0), (some (.iload 5), 0, 0, [], 0), (some (.if_icmp .lt 76), 116, 0, [], 0), (some (.iload_n 3), 0, 0, [], 0), (some (.iload 6), 0, 0, [], 0), (some (.aload_n 1), 0, 0, [], 0), (some (.getfield 53), 4, 5, [], 0), (some (.iload_n 2), 0, 0, [], 0), (some (.iaload), 0, 0, [], 0), (some (.imul), 0, 0, [], 0), (some (.iadd), 0, 0, [], 0), (some (.istore 7), 0, 0, [], 0), (some (.iload 7), 0, 0, [], 0), (some (.aload_n 0), 0, 0, [], 0), (some (.getfield 21), 6, 3, [], 0), (some (.iload_n 2), 0, 0, [], 0), (some (.iconst 1), 0, 0, [], 1), (some (.iadd), 0, 0, [], 0), (some (.iaload), 0, 0, [], 0), (some (.iadd), 0, 0, [], 0), (some (.aload_n 0), 0, 0, [], 0), (some (.getfield 60), 6, 7, [], 0), (some (.if_icmp .ge 4), 75, 0, [], 0), (some (.return_), 0, 0, [], 0)] loc st μ) := by
  unfold mm_wp
  by_cases h : cut 36 = true
  · rw [if_pos h, if_pos h]
  · rw [if_neg h, if_neg h]; rfl
theorem wl_111_75 {Sh : List mm_C} {scr : Option (Nat × (Nat → Int32))} {rb : Bool} {Cs : Nat → List Value → mm_M → (Int32 → mm_M → Prop) → (mm_M → Prop) → Prop} {K : Nat → mm_L → List Value → mm_M → Prop} {RI : Int32 → mm_M → Prop} {RV : mm_M → Prop} {cut : Nat → Bool} {n : Nat} {loc : mm_L} {st : List Value} {μ : mm_M} : mm_wp Sh scr rb Cs K RI RV lab_111 cut (n + 1) 75 loc st μ = (if cut 75 = true then K 75 loc st μ else mm_wpB Sh scr rb Cs (mm_wp Sh scr rb Cs K RI RV lab_111 cut n) RI RV [(some (.aload_n 0), 0, 0, [], 0), (some (.getfield 24), 6, 4, [], 0), (some (.iload_n 2), 0, 0, [], 0), (some (.iload 6), 0, 0, [], 0), (some (.iastore), 0, 0, [], 0), (some (.aload_n 0), 0, 0, [], 0), (some (.aload_n 1), 0, 0, [], 0), (some (.iload_n 2), 0, 0, [], 0), (some (.iload 6), 0, 0, [], 0), (some (.invokevirtual 67), 40, 4, [], 0), (some (.aload_n 0), 0, 0, [], 0), (some (.aload_n 1), 0, 0, [], 0), (some (.iload_n 2), 0, 0, [], 0), (some (.iconst 1), 0, 0, [], 1), (some (.iadd), 0, 0, [], 0), (some (.iload 7), 0, 0, [], 0), (some (.invokestatic 49), 112, 4, [], 0), (some (.aload_n 0), 0, 0, [], 0), (some (.aload_n 1), 0, 0, [], 0), (some (.iload_n 2), 0, 0, [], 0), (some (.iload 6), 0, 0, [], 0), (some (.ineg), 0, 0, [], 0), (some (.invokevirtual 67), 40, 4, [], 0), (some (.iinc 6 (-1)), 0, 0, [], (-1)), (some (.goto (-77)), 36, 0, [], 0)] loc st μ) := by
  unfold mm_wp
  by_cases h : cut 75 = true
  · rw [if_pos h, if_pos h]
  · rw [if_neg h, if_neg h]; rfl
theorem wl_111_116 {Sh : List mm_C} {scr : Option (Nat × (Nat → Int32))} {rb : Bool} {Cs : Nat → List Value → mm_M → (Int32 → mm_M → Prop) → (mm_M → Prop) → Prop} {K : Nat → mm_L → List Value → mm_M → Prop} {RI : Int32 → mm_M → Prop} {RV : mm_M → Prop} {cut : Nat → Bool} {n : Nat} {loc : mm_L} {st : List Value} {μ : mm_M} : mm_wp Sh scr rb Cs K RI RV lab_111 cut (n + 1) 116 loc st μ = (if cut 116 = true then K 116 loc st μ else mm_wpB Sh scr rb Cs (mm_wp Sh scr rb Cs K RI RV lab_111 cut n) RI RV [(some (.return_), 0, 0, [], 0)] loc st μ) := by
  unfold mm_wp
  by_cases h : cut 116 = true
  · rw [if_pos h, if_pos h]
  · rw [if_neg h, if_neg h]; rfl
theorem wl_112_0 {Sh : List mm_C} {scr : Option (Nat × (Nat → Int32))} {rb : Bool} {Cs : Nat → List Value → mm_M → (Int32 → mm_M → Prop) → (mm_M → Prop) → Prop} {K : Nat → mm_L → List Value → mm_M → Prop} {RI : Int32 → mm_M → Prop} {RV : mm_M → Prop} {cut : Nat → Bool} {n : Nat} {loc : mm_L} {st : List Value} {μ : mm_M} : mm_wp Sh scr rb Cs K RI RV lab_112 cut (n + 1) 0 loc st μ = (if cut 0 = true then K 0 loc st μ else mm_wpB Sh scr rb Cs (mm_wp Sh scr rb Cs K RI RV lab_112 cut n) RI RV [(some (.iload_n 2), 0, 0, [], 0), (some (.iconst 4), 0, 0, [], 4), (some (.if_icmp .lt 9), 11, 0, [], 0), (some (.aload_n 0), 0, 0, [], 0), (some (.iload_n 3), 0, 0, [], 0), (some (.invokevirtual 63), 38, 2, [], 0), (some (.return_), 0, 0, [], 0)] loc st μ) := by
  unfold mm_wp
  by_cases h : cut 0 = true
  · rw [if_pos h, if_pos h]
  · rw [if_neg h, if_neg h]; rfl
theorem wl_112_11 {Sh : List mm_C} {scr : Option (Nat × (Nat → Int32))} {rb : Bool} {Cs : Nat → List Value → mm_M → (Int32 → mm_M → Prop) → (mm_M → Prop) → Prop} {K : Nat → mm_L → List Value → mm_M → Prop} {RI : Int32 → mm_M → Prop} {RV : mm_M → Prop} {cut : Nat → Bool} {n : Nat} {loc : mm_L} {st : List Value} {μ : mm_M} : mm_wp Sh scr rb Cs K RI RV lab_112 cut (n + 1) 11 loc st μ = (if cut 11 = true then K 11 loc st μ else mm_wpB Sh scr rb Cs (mm_wp Sh scr rb Cs K RI RV lab_112 cut n) RI RV [(some (.aload_n 0), 0, 0, [], 0), (some (.aload_n 1), 0, 0, [], 0), (some (.iload_n 2), 0, 0, [], 0), (some (.invokevirtual 56), 39, 3, [], 0), (some (.istore 4), 0, 0, [], 0), (some (.iload_n 2), 0, 0, [], 0), (some (.iconst 3), 0, 0, [], 3), (some (.if_icmp .ne 8), 29, 0, [], 0), (some (.iload 4), 0, 0, [], 0), (some (.goto 4), 30, 0, [], 0)] loc st μ) := by
  unfold mm_wp
  by_cases h : cut 11 = true
  · rw [if_pos h, if_pos h]
  · rw [if_neg h, if_neg h]; rfl
theorem wl_112_29 {Sh : List mm_C} {scr : Option (Nat × (Nat → Int32))} {rb : Bool} {Cs : Nat → List Value → mm_M → (Int32 → mm_M → Prop) → (mm_M → Prop) → Prop} {K : Nat → mm_L → List Value → mm_M → Prop} {RI : Int32 → mm_M → Prop} {RV : mm_M → Prop} {cut : Nat → Bool} {n : Nat} {loc : mm_L} {st : List Value} {μ : mm_M} : mm_wp Sh scr rb Cs K RI RV lab_112 cut (n + 1) 29 loc st μ = (if cut 29 = true then K 29 loc st μ else mm_wpB Sh scr rb Cs (mm_wp Sh scr rb Cs K RI RV lab_112 cut n) RI RV [(some (.iconst 0), 0, 0, [], 0), (none, 30, 0, [], 0)] loc st μ) := by
  unfold mm_wp
  by_cases h : cut 29 = true
  · rw [if_pos h, if_pos h]
  · rw [if_neg h, if_neg h]; rfl
theorem wl_112_30 {Sh : List mm_C} {scr : Option (Nat × (Nat → Int32))} {rb : Bool} {Cs : Nat → List Value → mm_M → (Int32 → mm_M → Prop) → (mm_M → Prop) → Prop} {K : Nat → mm_L → List Value → mm_M → Prop} {RI : Int32 → mm_M → Prop} {RV : mm_M → Prop} {cut : Nat → Bool} {n : Nat} {loc : mm_L} {st : List Value} {μ : mm_M} : mm_wp Sh scr rb Cs K RI RV lab_112 cut (n + 1) 30 loc st μ = (if cut 30 = true then K 30 loc st μ else mm_wpB Sh scr rb Cs (mm_wp Sh scr rb Cs K RI RV lab_112 cut n) RI RV [(some (.istore 5), 0, 0, [], 0), (some (.iload 4), 0, 0, [], 0), (some (.istore 6), 0, 0, [], 0), (none, 36, 0, [], 0)] loc st μ) := by
  unfold mm_wp
  by_cases h : cut 30 = true
  · rw [if_pos h, if_pos h]
  · rw [if_neg h, if_neg h]; rfl
theorem wl_112_36 {Sh : List mm_C} {scr : Option (Nat × (Nat → Int32))} {rb : Bool} {Cs : Nat → List Value → mm_M → (Int32 → mm_M → Prop) → (mm_M → Prop) → Prop} {K : Nat → mm_L → List Value → mm_M → Prop} {RI : Int32 → mm_M → Prop} {RV : mm_M → Prop} {cut : Nat → Bool} {n : Nat} {loc : mm_L} {st : List Value} {μ : mm_M} : mm_wp Sh scr rb Cs K RI RV lab_112 cut (n + 1) 36 loc st μ = (if cut 36 = true then K 36 loc st μ else mm_wpB Sh scr rb Cs (mm_wp Sh scr rb Cs K RI RV lab_112 cut n) RI RV [(some (.iload 6), 0, 0, [], 0), (some (.iload 5), 0, 0, [], 0), (some (.if_icmp .lt 76), 116, 0, [], 0), (some (.iload_n 3), 0, 0, [], 0), (some (.iload 6), 0, 0, [], 0), (some (.aload_n 1), 0, 0, [], 0), (some (.getfield 53), 4, 5, [], 0), (some (.iload_n 2), 0, 0, [], 0), (some (.iaload), 0, 0, [], 0), (some (.imul), 0, 0, [], 0), (some (.iadd), 0, 0, [], 0), (some (.istore 7), 0, 0, [], 0), (some (.iload 7), 0, 0, [], 0), (some (.aload_n 0), 0, 0, [], 0), (some (.getfield 21), 6, 3, [], 0), (some (.iload_n 2), 0, 0, [], 0), (some (.iconst 1), 0, 0, [], 1), (some (.iadd), 0, 0, [], 0), (some (.iaload), 0, 0, [], 0), (some (.iadd), 0, 0, [], 0), (some (.aload_n 0), 0, 0, [], 0), (some (.getfield 60), 6, 7, [], 0), (some (.if_icmp .ge 4), 75, 0, [], 0), (some (.return_), 0, 0, [], 0)] loc st μ) := by
  unfold mm_wp
  by_cases h : cut 36 = true
  · rw [if_pos h, if_pos h]
  · rw [if_neg h, if_neg h]; rfl
theorem wl_112_75 {Sh : List mm_C} {scr : Option (Nat × (Nat → Int32))} {rb : Bool} {Cs : Nat → List Value → mm_M → (Int32 → mm_M → Prop) → (mm_M → Prop) → Prop} {K : Nat → mm_L → List Value → mm_M → Prop} {RI : Int32 → mm_M → Prop} {RV : mm_M → Prop} {cut : Nat → Bool} {n : Nat} {loc : mm_L} {st : List Value} {μ : mm_M} : mm_wp Sh scr rb Cs K RI RV lab_112 cut (n + 1) 75 loc st μ = (if cut 75 = true then K 75 loc st μ else mm_wpB Sh scr rb Cs (mm_wp Sh scr rb Cs K RI RV lab_112 cut n) RI RV [(some (.aload_n 0), 0, 0, [], 0), (some (.getfield 24), 6, 4, [], 0), (some (.iload_n 2), 0, 0, [], 0), (some (.iload 6), 0, 0, [], 0), (some (.iastore), 0, 0, [], 0), (some (.aload_n 0), 0, 0, [], 0), (some (.aload_n 1), 0, 0, [], 0), (some (.iload_n 2), 0, 0, [], 0), (some (.iload 6), 0, 0, [], 0), (some (.invokevirtual 67), 40, 4, [], 0), (some (.aload_n 0), 0, 0, [], 0), (some (.aload_n 1), 0, 0, [], 0), (some (.iload_n 2), 0, 0, [], 0), (some (.iconst 1), 0, 0, [], 1), (some (.iadd), 0, 0, [], 0), (some (.iload 7), 0, 0, [], 0), (some (.invokestatic 49), 113, 4, [], 0), (some (.aload_n 0), 0, 0, [], 0), (some (.aload_n 1), 0, 0, [], 0), (some (.iload_n 2), 0, 0, [], 0), (some (.iload 6), 0, 0, [], 0), (some (.ineg), 0, 0, [], 0), (some (.invokevirtual 67), 40, 4, [], 0), (some (.iinc 6 (-1)), 0, 0, [], (-1)), (some (.goto (-77)), 36, 0, [], 0)] loc st μ) := by
  unfold mm_wp
  by_cases h : cut 75 = true
  · rw [if_pos h, if_pos h]
  · rw [if_neg h, if_neg h]; rfl
theorem wl_112_116 {Sh : List mm_C} {scr : Option (Nat × (Nat → Int32))} {rb : Bool} {Cs : Nat → List Value → mm_M → (Int32 → mm_M → Prop) → (mm_M → Prop) → Prop} {K : Nat → mm_L → List Value → mm_M → Prop} {RI : Int32 → mm_M → Prop} {RV : mm_M → Prop} {cut : Nat → Bool} {n : Nat} {loc : mm_L} {st : List Value} {μ : mm_M} : mm_wp Sh scr rb Cs K RI RV lab_112 cut (n + 1) 116 loc st μ = (if cut 116 = true then K 116 loc st μ else mm_wpB Sh scr rb Cs (mm_wp Sh scr rb Cs K RI RV lab_112 cut n) RI RV [(some (.return_), 0, 0, [], 0)] loc st μ) := by
  unfold mm_wp
  by_cases h : cut 116 = true
  · rw [if_pos h, if_pos h]
  · rw [if_neg h, if_neg h]; rfl
theorem wl_113_0 {Sh : List mm_C} {scr : Option (Nat × (Nat → Int32))} {rb : Bool} {Cs : Nat → List Value → mm_M → (Int32 → mm_M → Prop) → (mm_M → Prop) → Prop} {K : Nat → mm_L → List Value → mm_M → Prop} {RI : Int32 → mm_M → Prop} {RV : mm_M → Prop} {cut : Nat → Bool} {n : Nat} {loc : mm_L} {st : List Value} {μ : mm_M} : mm_wp Sh scr rb Cs K RI RV lab_113 cut (n + 1) 0 loc st μ = (if cut 0 = true then K 0 loc st μ else mm_wpB Sh scr rb Cs (mm_wp Sh scr rb Cs K RI RV lab_113 cut n) RI RV [(some (.iload_n 2), 0, 0, [], 0), (some (.iconst 4), 0, 0, [], 4), (some (.if_icmp .lt 9), 11, 0, [], 0), (some (.aload_n 0), 0, 0, [], 0), (some (.iload_n 3), 0, 0, [], 0), (some (.invokevirtual 63), 38, 2, [], 0), (some (.return_), 0, 0, [], 0)] loc st μ) := by
  unfold mm_wp
  by_cases h : cut 0 = true
  · rw [if_pos h, if_pos h]
  · rw [if_neg h, if_neg h]; rfl
theorem wl_113_11 {Sh : List mm_C} {scr : Option (Nat × (Nat → Int32))} {rb : Bool} {Cs : Nat → List Value → mm_M → (Int32 → mm_M → Prop) → (mm_M → Prop) → Prop} {K : Nat → mm_L → List Value → mm_M → Prop} {RI : Int32 → mm_M → Prop} {RV : mm_M → Prop} {cut : Nat → Bool} {n : Nat} {loc : mm_L} {st : List Value} {μ : mm_M} : mm_wp Sh scr rb Cs K RI RV lab_113 cut (n + 1) 11 loc st μ = (if cut 11 = true then K 11 loc st μ else mm_wpB Sh scr rb Cs (mm_wp Sh scr rb Cs K RI RV lab_113 cut n) RI RV [(some (.aload_n 0), 0, 0, [], 0), (some (.aload_n 1), 0, 0, [], 0), (some (.iload_n 2), 0, 0, [], 0), (some (.invokevirtual 56), 39, 3, [], 0), (some (.istore 4), 0, 0, [], 0), (some (.iload_n 2), 0, 0, [], 0), (some (.iconst 3), 0, 0, [], 3), (some (.if_icmp .ne 8), 29, 0, [], 0), (some (.iload 4), 0, 0, [], 0), (some (.goto 4), 30, 0, [], 0)] loc st μ) := by
  unfold mm_wp
  by_cases h : cut 11 = true
  · rw [if_pos h, if_pos h]
  · rw [if_neg h, if_neg h]; rfl
theorem wl_113_29 {Sh : List mm_C} {scr : Option (Nat × (Nat → Int32))} {rb : Bool} {Cs : Nat → List Value → mm_M → (Int32 → mm_M → Prop) → (mm_M → Prop) → Prop} {K : Nat → mm_L → List Value → mm_M → Prop} {RI : Int32 → mm_M → Prop} {RV : mm_M → Prop} {cut : Nat → Bool} {n : Nat} {loc : mm_L} {st : List Value} {μ : mm_M} : mm_wp Sh scr rb Cs K RI RV lab_113 cut (n + 1) 29 loc st μ = (if cut 29 = true then K 29 loc st μ else mm_wpB Sh scr rb Cs (mm_wp Sh scr rb Cs K RI RV lab_113 cut n) RI RV [(some (.iconst 0), 0, 0, [], 0), (none, 30, 0, [], 0)] loc st μ) := by
  unfold mm_wp
  by_cases h : cut 29 = true
  · rw [if_pos h, if_pos h]
  · rw [if_neg h, if_neg h]; rfl
theorem wl_113_30 {Sh : List mm_C} {scr : Option (Nat × (Nat → Int32))} {rb : Bool} {Cs : Nat → List Value → mm_M → (Int32 → mm_M → Prop) → (mm_M → Prop) → Prop} {K : Nat → mm_L → List Value → mm_M → Prop} {RI : Int32 → mm_M → Prop} {RV : mm_M → Prop} {cut : Nat → Bool} {n : Nat} {loc : mm_L} {st : List Value} {μ : mm_M} : mm_wp Sh scr rb Cs K RI RV lab_113 cut (n + 1) 30 loc st μ = (if cut 30 = true then K 30 loc st μ else mm_wpB Sh scr rb Cs (mm_wp Sh scr rb Cs K RI RV lab_113 cut n) RI RV [(some (.istore 5), 0, 0, [], 0), (some (.iload 4), 0, 0, [], 0), (some (.istore 6), 0, 0, [], 0), (none, 36, 0, [], 0)] loc st μ) := by
  unfold mm_wp
  by_cases h : cut 30 = true
  · rw [if_pos h, if_pos h]
  · rw [if_neg h, if_neg h]; rfl
theorem wl_113_36 {Sh : List mm_C} {scr : Option (Nat × (Nat → Int32))} {rb : Bool} {Cs : Nat → List Value → mm_M → (Int32 → mm_M → Prop) → (mm_M → Prop) → Prop} {K : Nat → mm_L → List Value → mm_M → Prop} {RI : Int32 → mm_M → Prop} {RV : mm_M → Prop} {cut : Nat → Bool} {n : Nat} {loc : mm_L} {st : List Value} {μ : mm_M} : mm_wp Sh scr rb Cs K RI RV lab_113 cut (n + 1) 36 loc st μ = (if cut 36 = true then K 36 loc st μ else mm_wpB Sh scr rb Cs (mm_wp Sh scr rb Cs K RI RV lab_113 cut n) RI RV [(some (.iload 6), 0, 0, [], 0), (some (.iload 5), 0, 0, [], 0), (some (.if_icmp .lt 76), 116, 0, [], 0), (some (.iload_n 3), 0, 0, [], 0), (some (.iload 6), 0, 0, [], 0), (some (.aload_n 1), 0, 0, [], 0), (some (.getfield 53), 4, 5, [], 0), (some (.iload_n 2), 0, 0, [], 0), (some (.iaload), 0, 0, [], 0), (some (.imul), 0, 0, [], 0), (some (.iadd), 0, 0, [], 0), (some (.istore 7), 0, 0, [], 0), (some (.iload 7), 0, 0, [], 0), (some (.aload_n 0), 0, 0, [], 0), (some (.getfield 21), 6, 3, [], 0), (some (.iload_n 2), 0, 0, [], 0), (some (.iconst 1), 0, 0, [], 1), (some (.iadd), 0, 0, [], 0), (some (.iaload), 0, 0, [], 0), (some (.iadd), 0, 0, [], 0), (some (.aload_n 0), 0, 0, [], 0), (some (.getfield 60), 6, 7, [], 0), (some (.if_icmp .ge 4), 75, 0, [], 0), (some (.return_), 0, 0, [], 0)] loc st μ) := by
  unfold mm_wp
  by_cases h : cut 36 = true
  · rw [if_pos h, if_pos h]
  · rw [if_neg h, if_neg h]; rfl
theorem wl_113_75 {Sh : List mm_C} {scr : Option (Nat × (Nat → Int32))} {rb : Bool} {Cs : Nat → List Value → mm_M → (Int32 → mm_M → Prop) → (mm_M → Prop) → Prop} {K : Nat → mm_L → List Value → mm_M → Prop} {RI : Int32 → mm_M → Prop} {RV : mm_M → Prop} {cut : Nat → Bool} {n : Nat} {loc : mm_L} {st : List Value} {μ : mm_M} : mm_wp Sh scr rb Cs K RI RV lab_113 cut (n + 1) 75 loc st μ = (if cut 75 = true then K 75 loc st μ else mm_wpB Sh scr rb Cs (mm_wp Sh scr rb Cs K RI RV lab_113 cut n) RI RV [(some (.aload_n 0), 0, 0, [], 0), (some (.getfield 24), 6, 4, [], 0), (some (.iload_n 2), 0, 0, [], 0), (some (.iload 6), 0, 0, [], 0), (some (.iastore), 0, 0, [], 0), (some (.aload_n 0), 0, 0, [], 0), (some (.aload_n 1), 0, 0, [], 0), (some (.iload_n 2), 0, 0, [], 0), (some (.iload 6), 0, 0, [], 0), (some (.invokevirtual 67), 40, 4, [], 0), (some (.aload_n 0), 0, 0, [], 0), (some (.aload_n 1), 0, 0, [], 0), (some (.iload_n 2), 0, 0, [], 0), (some (.iconst 1), 0, 0, [], 1), (some (.iadd), 0, 0, [], 0), (some (.iload 7), 0, 0, [], 0)] loc st μ) := by
  unfold mm_wp
  by_cases h : cut 75 = true
  · rw [if_pos h, if_pos h]
  · rw [if_neg h, if_neg h]; rfl
theorem wl_113_116 {Sh : List mm_C} {scr : Option (Nat × (Nat → Int32))} {rb : Bool} {Cs : Nat → List Value → mm_M → (Int32 → mm_M → Prop) → (mm_M → Prop) → Prop} {K : Nat → mm_L → List Value → mm_M → Prop} {RI : Int32 → mm_M → Prop} {RV : mm_M → Prop} {cut : Nat → Bool} {n : Nat} {loc : mm_L} {st : List Value} {μ : mm_M} : mm_wp Sh scr rb Cs K RI RV lab_113 cut (n + 1) 116 loc st μ = (if cut 116 = true then K 116 loc st μ else mm_wpB Sh scr rb Cs (mm_wp Sh scr rb Cs K RI RV lab_113 cut n) RI RV [(some (.return_), 0, 0, [], 0)] loc st μ) := by
  unfold mm_wp
  by_cases h : cut 116 = true
  · rw [if_pos h, if_pos h]
  · rw [if_neg h, if_neg h]; rfl
