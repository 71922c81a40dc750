/-! the constructor of FishTins -/
def hh_F : List mm_C := [.inr (7, [some 1, some 2, some 3, some 4, some 5, some 6, some 7, some 8, none, none, none, none, none, none]),
  .inr (5, [some 9, some 10, some 11, some 12, some 13, some 14, none]),
  .inr (4, [some 15, some 16, some 17, some 18, some 19, some 20, none]),
  .inr (3, [some 21, some 22]),
  .inr (2, [some 23, some 24, some 25, some 26, some 27]),
  .inr (0, [some 28, some 29, some 30, some 31, some 32, some 33, some 34, none, none]),
  .inr (1, [some 35, some 36, some 37, some 38, some 39, some 40, some 41, none]),
  .inr (6, [some 42, some 43, some 44, some 45, some 46, some 47, none, none]),
  .inl (false, 2),
  .inl (false, 60),
  .inl (false, 60),
  .inl (false, 60),
  .inl (true, 60),
  .inl (true, 60),
  .inl (false, 60),
  .inl (true, 4),
  .inl (false, 4),
  .inl (false, 4),
  .inl (false, 4),
  .inl (false, 4),
  .inl (false, 4),
  .inl (true, 3),
  .inl (false, 3),
  .inl (false, 3),
  .inl (false, 3),
  .inl (false, 3),
  .inl (false, 3),
  .inl (false, 180),
  .inl (false, 100),
  .inl (false, 100),
  .inl (false, 100),
  .inl (false, 100),
  .inl (false, 100),
  .inl (true, 100),
  .inl (false, 6000),
  .inl (false, 20),
  .inl (false, 20),
  .inl (false, 20),
  .inl (false, 20),
  .inl (false, 20),
  .inl (true, 20),
  .inl (false, 20),
  .inl (false, 3),
  .inl (false, 2),
  .inl (false, 8),
  .inl (false, 5),
  .inl (false, 4),
  .inl (false, 4)]
def ckM (ν : mm_M) : mm_M := fun c => if c = 23 then ν 1 else if c = 24 then ν 2 else if c = 25 then ν 3 else if c = 26 then ν 4 else if c = 27 then ν 5 else fun _ => 0
theorem len6 {l : List Nat} (h : l.length = 6) : ∃ a b c d e f, l = [a, b, c, d, e, f] := by
  match l, h with
  | [a, b, c, d, e, f], _ => exact ⟨a, b, c, d, e, f, rfl⟩
theorem len7 {l : List Nat} (h : l.length = 7) : ∃ a b c d e f g, l = [a, b, c, d, e, f, g] := by
  match l, h with
  | [a, b, c, d, e, f, g], _ => exact ⟨a, b, c, d, e, f, g, rfl⟩
theorem len2 {l : List Nat} (h : l.length = 2) : ∃ a b, l = [a, b] := by
  match l, h with
  | [a, b], _ => exact ⟨a, b, rfl⟩
abbrev fs_7 : List Value := [.null, .null, .null, .null, .null, .null, .null, .null, .int 0, .int 0, .int 0, .int 0, .int 0, .int 0]
theorem ol_7 : Cond.methodLink (mm_R 7) 1 objectInit ∈ mm_GW := mm_gw 42 rfl rfl
theorem df_5 : ∀ j, j < mm_N 5 → defaultValue (mm_ty 5 j) = vp_V fs_5 j := by
  intro j hj
  have h : j < 7 := hj
  rcases (show j = 0 ∨ j = 1 ∨ j = 2 ∨ j = 3 ∨ j = 4 ∨ j = 5 ∨ j = 6 by omega) with rfl | rfl | rfl | rfl | rfl | rfl | rfl <;> rfl
theorem df_4 : ∀ j, j < mm_N 4 → defaultValue (mm_ty 4 j) = vp_V fs_4 j := by
  intro j hj
  have h : j < 7 := hj
  rcases (show j = 0 ∨ j = 1 ∨ j = 2 ∨ j = 3 ∨ j = 4 ∨ j = 5 ∨ j = 6 by omega) with rfl | rfl | rfl | rfl | rfl | rfl | rfl <;> rfl
theorem df_3 : ∀ j, j < mm_N 3 → defaultValue (mm_ty 3 j) = vp_V fs_3 j := by
  intro j hj
  have h : j < 2 := hj
  rcases (show j = 0 ∨ j = 1 by omega) with rfl | rfl <;> rfl
theorem df_2 : ∀ j, j < mm_N 2 → defaultValue (mm_ty 2 j) = vp_V fs_2 j := by
  intro j hj
  have h : j < 5 := hj
  rcases (show j = 0 ∨ j = 1 ∨ j = 2 ∨ j = 3 ∨ j = 4 by omega) with rfl | rfl | rfl | rfl | rfl <;> rfl
theorem df_0 : ∀ j, j < mm_N 0 → defaultValue (mm_ty 0 j) = vp_V fs_0 j := by
  intro j hj
  have h : j < 9 := hj
  rcases (show j = 0 ∨ j = 1 ∨ j = 2 ∨ j = 3 ∨ j = 4 ∨ j = 5 ∨ j = 6 ∨ j = 7 ∨ j = 8 by omega) with rfl | rfl | rfl | rfl | rfl | rfl | rfl | rfl | rfl <;> rfl
theorem df_1 : ∀ j, j < mm_N 1 → defaultValue (mm_ty 1 j) = vp_V fs_1 j := by
  intro j hj
  have h : j < 8 := hj
  rcases (show j = 0 ∨ j = 1 ∨ j = 2 ∨ j = 3 ∨ j = 4 ∨ j = 5 ∨ j = 6 ∨ j = 7 by omega) with rfl | rfl | rfl | rfl | rfl | rfl | rfl | rfl <;> rfl
theorem df_6 : ∀ j, j < mm_N 6 → defaultValue (mm_ty 6 j) = vp_V fs_6 j := by
  intro j hj
  have h : j < 8 := hj
  rcases (show j = 0 ∨ j = 1 ∨ j = 2 ∨ j = 3 ∨ j = 4 ∨ j = 5 ∨ j = 6 ∨ j = 7 by omega) with rfl | rfl | rfl | rfl | rfl | rfl | rfl | rfl <;> rfl
theorem gd_5 : GoodIn mm_GW (.code yX5_init cX5_init 1 none :: mm_GW) := mm_gw_good (fun w hw => (List.mem_cons.mp hw).elim (fun h => h ▸ mm_gw 49 rfl rfl) (fun h => h))
theorem gd_4 : GoodIn mm_GW (.code yX4_init cX4_init 1 none :: mm_GW) := mm_gw_good (fun w hw => (List.mem_cons.mp hw).elim (fun h => h ▸ mm_gw 84 rfl rfl) (fun h => h))
theorem gd_3 : GoodIn mm_GW (.code yX3_init cX3_init 1 none :: mm_GW) := mm_gw_good (fun w hw => (List.mem_cons.mp hw).elim (fun h => h ▸ mm_gw 123 rfl rfl) (fun h => h))
theorem gd_2 : GoodIn mm_GW (.code yX2_init cX2_init 2 none :: mm_GW) := mm_gw_good (fun w hw => (List.mem_cons.mp hw).elim (fun h => h ▸ mm_gw 138 rfl rfl) (fun h => h))
theorem gd_0 : GoodIn mm_GW (.code yX0_init cX0_init 1 none :: mm_GW) := mm_gw_good (fun w hw => (List.mem_cons.mp hw).elim (fun h => h ▸ mm_gw 178 rfl rfl) (fun h => h))
theorem gd_1 : GoodIn mm_GW (.code yX1_init cX1_init 1 none :: mm_GW) := mm_gw_good (fun w hw => (List.mem_cons.mp hw).elim (fun h => h ▸ mm_gw 220 rfl rfl) (fun h => h))
theorem gd_6 : GoodIn mm_GW (.code yX6_init cX6_init 1 none :: mm_GW) := mm_gw_good (fun w hw => (List.mem_cons.mp hw).elim (fun h => h ▸ mm_gw 257 rfl rfl) (fun h => h))
def ix_F : List Nat := [0, 1, 8, 15, 18, 24, 32, 40, 47, 2, 3, 4, 5, 6, 7, 9, 10, 11, 12, 13, 14, 16, 17, 19, 20, 21, 22, 23, 25, 26, 27, 28, 29, 30, 31, 33, 34, 35, 36, 37, 38, 39, 41, 42, 43, 44, 45, 46]
theorem ix_inj : ∀ i, i < 48 → ∀ j, j < 48 → ix_F.getD i 0 = ix_F.getD j 0 → i = j := by decide +kernel
section REF
variable {A : Nat → Prop} {dC : Nat → ClassId} {dI : Nat → Nat → Nat} {cI cZ : ClassId} {h0 q5 q4 q3 q2 q0 q1 q6 q8 l0 l1 l2 l3 l4 l5 k0 k1 k2 k3 k4 k5 c0 c1 o0 o1 o2 o3 o4 b0 b1 b2 b3 b4 b5 b6 t0 t1 t2 t3 t4 t5 t6 p0 p1 p2 p3 p4 p5 : Nat} {ν : mm_M} {H : Heap}
set_option maxRecDepth 20000 in
theorem key_F : ∀ (k : Nat) (z : mm_C), hh_F[k]? = some z → ([(h0, .inr (7, [.ref q5, .ref q4, .ref q3, .ref q2, .ref q0, .ref q1, .ref q6, .ref q8, .int 0, .int 0, .int 0, .int 0, .int 0, .int 0])), (q5, .inr (5, [.ref l0, .ref l1, .ref l2, .ref l3, .ref l4, .ref l5, .int 0])), (l0, .inl (cI, 60, .inl (fun _ => 0))), (l1, .inl (cI, 60, .inl (fun _ => 0))), (l2, .inl (cI, 60, .inl (fun _ => 0))), (l3, .inl (cZ, 60, .inl (fun _ => 0))), (l4, .inl (cZ, 60, .inl (fun _ => 0))), (l5, .inl (cI, 60, .inl (fun _ => 0))), (q4, .inr (4, [.ref k0, .ref k1, .ref k2, .ref k3, .ref k4, .ref k5, .int 0])), (k0, .inl (cZ, 4, .inl (fun _ => 0))), (k1, .inl (cI, 4, .inl (fun _ => 0))), (k2, .inl (cI, 4, .inl (fun _ => 0))), (k3, .inl (cI, 4, .inl (fun _ => 0))), (k4, .inl (cI, 4, .inl (fun _ => 0))), (k5, .inl (cI, 4, .inl (fun _ => 0))), (q3, .inr (3, [.ref c0, .ref c1])), (c0, .inl (cZ, 3, .inl (fun _ => 0))), (c1, .inl (cI, 3, .inl (fun _ => 0))), (q2, .inr (2, [.ref o0, .ref o1, .ref o2, .ref o3, .ref o4])), (o0, .inl (cI, 3, .inl (ν 1))), (o1, .inl (cI, 3, .inl (ν 2))), (o2, .inl (cI, 3, .inl (ν 3))), (o3, .inl (cI, 3, .inl (ν 4))), (o4, .inl (cI, 180, .inl (ν 5))), (q0, .inr (0, [.ref b0, .ref b1, .ref b2, .ref b3, .ref b4, .ref b5, .ref b6, .int 0, .int 0])), (b0, .inl (cI, 100, .inl (fun _ => 0))), (b1, .inl (cI, 100, .inl (fun _ => 0))), (b2, .inl (cI, 100, .inl (fun _ => 0))), (b3, .inl (cI, 100, .inl (fun _ => 0))), (b4, .inl (cI, 100, .inl (fun _ => 0))), (b5, .inl (cZ, 100, .inl (fun _ => 0))), (b6, .inl (cI, 6000, .inl (fun _ => 0))), (q1, .inr (1, [.ref t0, .ref t1, .ref t2, .ref t3, .ref t4, .ref t5, .ref t6, .int 0])), (t0, .inl (cI, 20, .inl (fun _ => 0))), (t1, .inl (cI, 20, .inl (fun _ => 0))), (t2, .inl (cI, 20, .inl (fun _ => 0))), (t3, .inl (cI, 20, .inl (fun _ => 0))), (t4, .inl (cI, 20, .inl (fun _ => 0))), (t5, .inl (cZ, 20, .inl (fun _ => 0))), (t6, .inl (cI, 20, .inl (fun _ => 0))), (q6, .inr (6, [.ref p0, .ref p1, .ref p2, .ref p3, .ref p4, .ref p5, .int 0, .int 0])), (p0, .inl (cI, 3, .inl (fun _ => 0))), (p1, .inl (cI, 2, .inl (fun _ => 0))), (p2, .inl (cI, 8, .inl (fun _ => 0))), (p3, .inl (cI, 5, .inl (fun _ => 0))), (p4, .inl (cI, 4, .inl (fun _ => 0))), (p5, .inl (cI, 4, .inl (fun _ => 0))), (q8, .inl (cI, 2, .inl (fun _ => 0)))] : va_W)[ix_F.getD k 0]? = some (mm_cell (dC, dI, fun i => ([h0, q5, q4, q3, q2, q0, q1, q6, q8, l0, l1, l2, l3, l4, l5, k0, k1, k2, k3, k4, k5, c0, c1, o0, o1, o2, o3, o4, b0, b1, b2, b3, b4, b5, b6, t0, t1, t2, t3, t4, t5, t6, p0, p1, p2, p3, p4, p5] : List Nat).getD i 0, cI, cZ) (ckM ν) k z) := by
  intro k z h
  match k, h with
  | 0, h => cases h; rfl
  | 1, h => cases h; rfl
  | 2, h => cases h; rfl
  | 3, h => cases h; rfl
  | 4, h => cases h; rfl
  | 5, h => cases h; rfl
  | 6, h => cases h; rfl
  | 7, h => cases h; rfl
  | 8, h => cases h; rfl
  | 9, h => cases h; rfl
  | 10, h => cases h; rfl
  | 11, h => cases h; rfl
  | 12, h => cases h; rfl
  | 13, h => cases h; rfl
  | 14, h => cases h; rfl
  | 15, h => cases h; rfl
  | 16, h => cases h; rfl
  | 17, h => cases h; rfl
  | 18, h => cases h; rfl
  | 19, h => cases h; rfl
  | 20, h => cases h; rfl
  | 21, h => cases h; rfl
  | 22, h => cases h; rfl
  | 23, h => cases h; rfl
  | 24, h => cases h; rfl
  | 25, h => cases h; rfl
  | 26, h => cases h; rfl
  | 27, h => cases h; rfl
  | 28, h => cases h; rfl
  | 29, h => cases h; rfl
  | 30, h => cases h; rfl
  | 31, h => cases h; rfl
  | 32, h => cases h; rfl
  | 33, h => cases h; rfl
  | 34, h => cases h; rfl
  | 35, h => cases h; rfl
  | 36, h => cases h; rfl
  | 37, h => cases h; rfl
  | 38, h => cases h; rfl
  | 39, h => cases h; rfl
  | 40, h => cases h; rfl
  | 41, h => cases h; rfl
  | 42, h => cases h; rfl
  | 43, h => cases h; rfl
  | 44, h => cases h; rfl
  | 45, h => cases h; rfl
  | 46, h => cases h; rfl
  | 47, h => cases h; rfl
  | k + 48, h => exact absurd (List.getElem?_eq_some_iff.mp h).1 (Nat.not_lt.mpr (Nat.le_add_left 48 k))
theorem re_F (hP : va_P (dC, dI) vwCl [(h0, .inr (7, [.ref q5, .ref q4, .ref q3, .ref q2, .ref q0, .ref q1, .ref q6, .ref q8, .int 0, .int 0, .int 0, .int 0, .int 0, .int 0])), (q5, .inr (5, [.ref l0, .ref l1, .ref l2, .ref l3, .ref l4, .ref l5, .int 0])), (l0, .inl (cI, 60, .inl (fun _ => 0))), (l1, .inl (cI, 60, .inl (fun _ => 0))), (l2, .inl (cI, 60, .inl (fun _ => 0))), (l3, .inl (cZ, 60, .inl (fun _ => 0))), (l4, .inl (cZ, 60, .inl (fun _ => 0))), (l5, .inl (cI, 60, .inl (fun _ => 0))), (q4, .inr (4, [.ref k0, .ref k1, .ref k2, .ref k3, .ref k4, .ref k5, .int 0])), (k0, .inl (cZ, 4, .inl (fun _ => 0))), (k1, .inl (cI, 4, .inl (fun _ => 0))), (k2, .inl (cI, 4, .inl (fun _ => 0))), (k3, .inl (cI, 4, .inl (fun _ => 0))), (k4, .inl (cI, 4, .inl (fun _ => 0))), (k5, .inl (cI, 4, .inl (fun _ => 0))), (q3, .inr (3, [.ref c0, .ref c1])), (c0, .inl (cZ, 3, .inl (fun _ => 0))), (c1, .inl (cI, 3, .inl (fun _ => 0))), (q2, .inr (2, [.ref o0, .ref o1, .ref o2, .ref o3, .ref o4])), (o0, .inl (cI, 3, .inl (ν 1))), (o1, .inl (cI, 3, .inl (ν 2))), (o2, .inl (cI, 3, .inl (ν 3))), (o3, .inl (cI, 3, .inl (ν 4))), (o4, .inl (cI, 180, .inl (ν 5))), (q0, .inr (0, [.ref b0, .ref b1, .ref b2, .ref b3, .ref b4, .ref b5, .ref b6, .int 0, .int 0])), (b0, .inl (cI, 100, .inl (fun _ => 0))), (b1, .inl (cI, 100, .inl (fun _ => 0))), (b2, .inl (cI, 100, .inl (fun _ => 0))), (b3, .inl (cI, 100, .inl (fun _ => 0))), (b4, .inl (cI, 100, .inl (fun _ => 0))), (b5, .inl (cZ, 100, .inl (fun _ => 0))), (b6, .inl (cI, 6000, .inl (fun _ => 0))), (q1, .inr (1, [.ref t0, .ref t1, .ref t2, .ref t3, .ref t4, .ref t5, .ref t6, .int 0])), (t0, .inl (cI, 20, .inl (fun _ => 0))), (t1, .inl (cI, 20, .inl (fun _ => 0))), (t2, .inl (cI, 20, .inl (fun _ => 0))), (t3, .inl (cI, 20, .inl (fun _ => 0))), (t4, .inl (cI, 20, .inl (fun _ => 0))), (t5, .inl (cZ, 20, .inl (fun _ => 0))), (t6, .inl (cI, 20, .inl (fun _ => 0))), (q6, .inr (6, [.ref p0, .ref p1, .ref p2, .ref p3, .ref p4, .ref p5, .int 0, .int 0])), (p0, .inl (cI, 3, .inl (fun _ => 0))), (p1, .inl (cI, 2, .inl (fun _ => 0))), (p2, .inl (cI, 8, .inl (fun _ => 0))), (p3, .inl (cI, 5, .inl (fun _ => 0))), (p4, .inl (cI, 4, .inl (fun _ => 0))), (p5, .inl (cI, 4, .inl (fun _ => 0))), (q8, .inl (cI, 2, .inl (fun _ => 0)))] H) (hD : va_D A [(h0, .inr (7, [.ref q5, .ref q4, .ref q3, .ref q2, .ref q0, .ref q1, .ref q6, .ref q8, .int 0, .int 0, .int 0, .int 0, .int 0, .int 0])), (q5, .inr (5, [.ref l0, .ref l1, .ref l2, .ref l3, .ref l4, .ref l5, .int 0])), (l0, .inl (cI, 60, .inl (fun _ => 0))), (l1, .inl (cI, 60, .inl (fun _ => 0))), (l2, .inl (cI, 60, .inl (fun _ => 0))), (l3, .inl (cZ, 60, .inl (fun _ => 0))), (l4, .inl (cZ, 60, .inl (fun _ => 0))), (l5, .inl (cI, 60, .inl (fun _ => 0))), (q4, .inr (4, [.ref k0, .ref k1, .ref k2, .ref k3, .ref k4, .ref k5, .int 0])), (k0, .inl (cZ, 4, .inl (fun _ => 0))), (k1, .inl (cI, 4, .inl (fun _ => 0))), (k2, .inl (cI, 4, .inl (fun _ => 0))), (k3, .inl (cI, 4, .inl (fun _ => 0))), (k4, .inl (cI, 4, .inl (fun _ => 0))), (k5, .inl (cI, 4, .inl (fun _ => 0))), (q3, .inr (3, [.ref c0, .ref c1])), (c0, .inl (cZ, 3, .inl (fun _ => 0))), (c1, .inl (cI, 3, .inl (fun _ => 0))), (q2, .inr (2, [.ref o0, .ref o1, .ref o2, .ref o3, .ref o4])), (o0, .inl (cI, 3, .inl (ν 1))), (o1, .inl (cI, 3, .inl (ν 2))), (o2, .inl (cI, 3, .inl (ν 3))), (o3, .inl (cI, 3, .inl (ν 4))), (o4, .inl (cI, 180, .inl (ν 5))), (q0, .inr (0, [.ref b0, .ref b1, .ref b2, .ref b3, .ref b4, .ref b5, .ref b6, .int 0, .int 0])), (b0, .inl (cI, 100, .inl (fun _ => 0))), (b1, .inl (cI, 100, .inl (fun _ => 0))), (b2, .inl (cI, 100, .inl (fun _ => 0))), (b3, .inl (cI, 100, .inl (fun _ => 0))), (b4, .inl (cI, 100, .inl (fun _ => 0))), (b5, .inl (cZ, 100, .inl (fun _ => 0))), (b6, .inl (cI, 6000, .inl (fun _ => 0))), (q1, .inr (1, [.ref t0, .ref t1, .ref t2, .ref t3, .ref t4, .ref t5, .ref t6, .int 0])), (t0, .inl (cI, 20, .inl (fun _ => 0))), (t1, .inl (cI, 20, .inl (fun _ => 0))), (t2, .inl (cI, 20, .inl (fun _ => 0))), (t3, .inl (cI, 20, .inl (fun _ => 0))), (t4, .inl (cI, 20, .inl (fun _ => 0))), (t5, .inl (cZ, 20, .inl (fun _ => 0))), (t6, .inl (cI, 20, .inl (fun _ => 0))), (q6, .inr (6, [.ref p0, .ref p1, .ref p2, .ref p3, .ref p4, .ref p5, .int 0, .int 0])), (p0, .inl (cI, 3, .inl (fun _ => 0))), (p1, .inl (cI, 2, .inl (fun _ => 0))), (p2, .inl (cI, 8, .inl (fun _ => 0))), (p3, .inl (cI, 5, .inl (fun _ => 0))), (p4, .inl (cI, 4, .inl (fun _ => 0))), (p5, .inl (cI, 4, .inl (fun _ => 0))), (q8, .inl (cI, 2, .inl (fun _ => 0)))]) : va_P (dC, dI) vwCl (mm_cells (dC, dI, fun i => ([h0, q5, q4, q3, q2, q0, q1, q6, q8, l0, l1, l2, l3, l4, l5, k0, k1, k2, k3, k4, k5, c0, c1, o0, o1, o2, o3, o4, b0, b1, b2, b3, b4, b5, b6, t0, t1, t2, t3, t4, t5, t6, p0, p1, p2, p3, p4, p5] : List Nat).getD i 0, cI, cZ) hh_F (ckM ν)) H ∧ va_D A (mm_cells (dC, dI, fun i => ([h0, q5, q4, q3, q2, q0, q1, q6, q8, l0, l1, l2, l3, l4, l5, k0, k1, k2, k3, k4, k5, c0, c1, o0, o1, o2, o3, o4, b0, b1, b2, b3, b4, b5, b6, t0, t1, t2, t3, t4, t5, t6, p0, p1, p2, p3, p4, p5] : List Nat).getD i 0, cI, cZ) hh_F (ckM ν)) := by
  have lt : ∀ k z, hh_F[k]? = some z → k < 48 := fun k z h => (List.getElem?_eq_some_iff.mp h).1
  refine ⟨fun k q hk => ?_, fun i j a b ha hb hab => ?_, fun k q hk => ?_⟩
  · obtain ⟨z, h1, rfl⟩ := mm_cells_inv hk
    exact hP _ _ (key_F k z h1)
  · obtain ⟨z1, h1, rfl⟩ := mm_cells_inv ha
    obtain ⟨z2, h2, rfl⟩ := mm_cells_inv hb
    exact ix_inj i (lt _ _ h1) j (lt _ _ h2) (hD.1 _ _ _ _ (key_F i z1 h1) (key_F j z2 h2) hab)
  · obtain ⟨z, h1, rfl⟩ := mm_cells_inv hk
    exact hD.2 _ _ (key_F k z h1)
end REF
set_option maxHeartbeats 2000000 in
set_option maxRecDepth 20000 in
theorem ct_7 {l : Launch} {dC : Nat → ClassId} {dI : Nat → Nat → Nat} {cI cZ : ClassId} : ct_M l dC dI cI cZ yX7_init cX7_init 1 { frames := 3, cells := 47, slots := 7396, locals := 120 } 7 fs_7 (fun h0 (u : List Nat × mm_M) => u.1.getD 0 0 = h0 ∧ ∃ ν, ckP 3 ν ∧ u.2 = ckM ν) (fun _ (u : List Nat × mm_M) => mm_cells (dC, dI, fun i => u.1.getD i 0, cI, cZ) hh_F u.2) 47 7396 := by
  intro h0 sz
  refine Met.ofW (cc := cX7_init) (maxL := 1) (ret := none) (by decide +kernel) rfl ?_
  intro p e s m args below meth c s₁ B hml hv
  obtain ⟨rfl, hsz, hP, hK, hD0, hN⟩ := hv
  have hx := B.exec
  have hb := B.bytes
  have hr := B.returns
  have hts0 := atoms_spec (ws := .code yX7_init cX7_init 1 none :: mm_GW) B.pre
  have hts : ∀ w ∈ mm_GW, w.before ([.ref h0] : List Value).toArray s = true := fun w hw => hts0 w (List.mem_cons_of_mem _ hw)
  have hown : s.vm.findClass (mm_R 7) = some m.cls := findClass_of_methodNamed B.named
  have hlocks := B.notSynchronized
  have hin : meth.name = "<init>" := (name_of_methodNamed B.named B.method).1
  subst hsz
  have hD := hD0.self (sz := s.heap.size)
  generalize hAe : va_A [(h0, .inr (7, fs_7))] s.heap.size = A at hD ⊢
  have hA : ∀ q : Nat, s.heap.size ≤ q → A q := fun q h => by rw [← hAe]; exact Or.inr h
  have hS : va_S A s.heap s.heap [] := va_S.rf
  have hl := lv_entry ([.ref h0]) (n := 1) (Nat.le_of_ble_eq_true rfl)
  rw [lg_entry_eq]
  generalize (lg_sl ([.ref h0]) ++ List.replicate (1 - (lg_sl ([.ref h0])).length) Slot.unset).toArray = ls at hl ⊢
  have hl : lv_has ls 1 [(0, .ref h0)] := hl
  have hls := lv_at hl 0 rfl
  refine lv_aload_n hx hb (show decode cX7_init 0 = .ok (.aload_n 0, 1) by decide +kernel) rfl hls ?_
  refine W.objInit hx hb hown (hts _ ol_7) (hts _ (mm_gw 43 rfl rfl)) (hts _ (mm_gw 44 rfl rfl)) rfl (by rw [hml]; exact hl.1) rfl (show decode cX7_init 1 = .ok (.invokespecial 1, 3) by decide +kernel) (Nat.le_of_ble_eq_true rfl) (Nat.le_of_ble_eq_true rfl) ?_
  refine W.eq (g2 := F0 m 4 ls []) rfl ?_
  refine ct_sub (o := 7) (ci := 5) (k := 0) (cn := mm_R 5) (x1 := 7) (x2 := 9) (x3 := 10) (pc := 4) hx hb hml hl.1 hts hown hin hN hK hA hls (by decide) (mm_gw 45 rfl rfl) (mm_gw 46 rfl rfl) (mm_gw 27 rfl rfl) df_5 ct_5 (Or.inl ⟨va_cnB 0 hts gd_5 rfl rfl rfl (hN (RX7, 9, yX5_init) (List.mem_append_right _ (List.mem_of_getElem? (i := 0) rfl))) (hts _ (mm_gw 27 rfl rfl)) ⟨by decide +kernel, by decide +kernel, by decide +kernel⟩ ⟨Nat.le_of_ble_eq_true rfl, Nat.le_of_ble_eq_true rfl⟩, rfl, hts _ (mm_gw 48 rfl rfl)⟩) (Nat.le_of_ble_eq_true rfl) (Nat.le_of_ble_eq_true rfl) (show decode cX7_init 4 = .ok (.aload_n 0, 1) by decide +kernel) (show decode cX7_init 5 = .ok (.new 7, 3) by decide +kernel) (show decode cX7_init 8 = .ok (.dup, 1) by decide +kernel) (show decode cX7_init 9 = .ok (.invokespecial 9, 3) by decide +kernel) (show decode cX7_init 12 = .ok (.putfield 10, 3) by decide +kernel) (by decide +kernel) rfl rfl (by decide +kernel) (Nat.le_of_ble_eq_true rfl) hP hD hS (fun q5 u5 H locs hu5 hP hD hS => ?_)
  refine ct_sub (o := 7) (ci := 4) (k := 1) (cn := mm_R 4) (x1 := 16) (x2 := 18) (x3 := 19) (pc := 15) hx hb hml hl.1 hts hown hin hN hK hA hls (by decide) (mm_gw 80 rfl rfl) (mm_gw 81 rfl rfl) (mm_gw 28 rfl rfl) df_4 ct_4 (Or.inl ⟨va_cnB 0 hts gd_4 rfl rfl rfl (hN (RX7, 18, yX4_init) (List.mem_append_right _ (List.mem_of_getElem? (i := 1) rfl))) (hts _ (mm_gw 28 rfl rfl)) ⟨by decide +kernel, by decide +kernel, by decide +kernel⟩ ⟨Nat.le_of_ble_eq_true rfl, Nat.le_of_ble_eq_true rfl⟩, rfl, hts _ (mm_gw 83 rfl rfl)⟩) (Nat.le_of_ble_eq_true rfl) (Nat.le_of_ble_eq_true rfl) (show decode cX7_init 15 = .ok (.aload_n 0, 1) by decide +kernel) (show decode cX7_init 16 = .ok (.new 16, 3) by decide +kernel) (show decode cX7_init 19 = .ok (.dup, 1) by decide +kernel) (show decode cX7_init 20 = .ok (.invokespecial 18, 3) by decide +kernel) (show decode cX7_init 23 = .ok (.putfield 19, 3) by decide +kernel) (by decide +kernel) rfl rfl (by decide +kernel) (Nat.le_of_ble_eq_true rfl) hP hD hS (fun q4 u4 H locs hu4 hP hD hS => ?_)
  refine ct_sub (o := 7) (ci := 3) (k := 2) (cn := mm_R 3) (x1 := 23) (x2 := 25) (x3 := 26) (pc := 26) hx hb hml hl.1 hts hown hin hN hK hA hls (by decide) (mm_gw 119 rfl rfl) (mm_gw 120 rfl rfl) (mm_gw 29 rfl rfl) df_3 ct_3 (Or.inl ⟨va_cnB 0 hts gd_3 rfl rfl rfl (hN (RX7, 25, yX3_init) (List.mem_append_right _ (List.mem_of_getElem? (i := 2) rfl))) (hts _ (mm_gw 29 rfl rfl)) ⟨by decide +kernel, by decide +kernel, by decide +kernel⟩ ⟨Nat.le_of_ble_eq_true rfl, Nat.le_of_ble_eq_true rfl⟩, rfl, hts _ (mm_gw 122 rfl rfl)⟩) (Nat.le_of_ble_eq_true rfl) (Nat.le_of_ble_eq_true rfl) (show decode cX7_init 26 = .ok (.aload_n 0, 1) by decide +kernel) (show decode cX7_init 27 = .ok (.new 23, 3) by decide +kernel) (show decode cX7_init 30 = .ok (.dup, 1) by decide +kernel) (show decode cX7_init 31 = .ok (.invokespecial 25, 3) by decide +kernel) (show decode cX7_init 34 = .ok (.putfield 26, 3) by decide +kernel) (by decide +kernel) rfl rfl (by decide +kernel) (Nat.le_of_ble_eq_true rfl) hP hD hS (fun q3 u3 H locs hu3 hP hD hS => ?_)
  refine ct_sub (o := 7) (ci := 2) (k := 3) (cn := mm_R 2) (x1 := 30) (x2 := 32) (x3 := 33) (pc := 37) hx hb hml hl.1 hts hown hin hN hK hA hls (by decide) (mm_gw 134 rfl rfl) (mm_gw 135 rfl rfl) (mm_gw 30 rfl rfl) df_2 ct_2 (Or.inr (cwI 0 hts gd_2 rfl rfl rfl (hts _ (mm_gw 30 rfl rfl)) (hts _ (mm_gw 136 rfl rfl)) (hts _ (mm_gw 137 rfl rfl)) rfl ⟨by decide +kernel, by decide +kernel, by decide +kernel⟩ ⟨Nat.le_of_ble_eq_true rfl, Nat.le_of_ble_eq_true rfl⟩)) (Nat.le_of_ble_eq_true rfl) (Nat.le_of_ble_eq_true rfl) (show decode cX7_init 37 = .ok (.aload_n 0, 1) by decide +kernel) (show decode cX7_init 38 = .ok (.new 30, 3) by decide +kernel) (show decode cX7_init 41 = .ok (.dup, 1) by decide +kernel) (show decode cX7_init 42 = .ok (.invokespecial 32, 3) by decide +kernel) (show decode cX7_init 45 = .ok (.putfield 33, 3) by decide +kernel) (by decide +kernel) rfl rfl (by decide +kernel) (Nat.le_of_ble_eq_true rfl) hP hD hS (fun q2 u2 H locs hu2 hP hD hS => ?_)
  refine ct_sub (o := 7) (ci := 0) (k := 4) (cn := mm_R 0) (x1 := 37) (x2 := 39) (x3 := 40) (pc := 48) hx hb hml hl.1 hts hown hin hN hK hA hls (by decide) (mm_gw 174 rfl rfl) (mm_gw 175 rfl rfl) (mm_gw 31 rfl rfl) df_0 ct_0 (Or.inl ⟨va_cnB 0 hts gd_0 rfl rfl rfl (hN (RX7, 39, yX0_init) (List.mem_append_right _ (List.mem_of_getElem? (i := 3) rfl))) (hts _ (mm_gw 31 rfl rfl)) ⟨by decide +kernel, by decide +kernel, by decide +kernel⟩ ⟨Nat.le_of_ble_eq_true rfl, Nat.le_of_ble_eq_true rfl⟩, rfl, hts _ (mm_gw 177 rfl rfl)⟩) (Nat.le_of_ble_eq_true rfl) (Nat.le_of_ble_eq_true rfl) (show decode cX7_init 48 = .ok (.aload_n 0, 1) by decide +kernel) (show decode cX7_init 49 = .ok (.new 37, 3) by decide +kernel) (show decode cX7_init 52 = .ok (.dup, 1) by decide +kernel) (show decode cX7_init 53 = .ok (.invokespecial 39, 3) by decide +kernel) (show decode cX7_init 56 = .ok (.putfield 40, 3) by decide +kernel) (by decide +kernel) rfl rfl (by decide +kernel) (Nat.le_of_ble_eq_true rfl) hP hD hS (fun q0 u0 H locs hu0 hP hD hS => ?_)
  refine ct_sub (o := 7) (ci := 1) (k := 5) (cn := mm_R 1) (x1 := 44) (x2 := 46) (x3 := 47) (pc := 59) hx hb hml hl.1 hts hown hin hN hK hA hls (by decide) (mm_gw 216 rfl rfl) (mm_gw 217 rfl rfl) (mm_gw 32 rfl rfl) df_1 ct_1 (Or.inl ⟨va_cnB 0 hts gd_1 rfl rfl rfl (hN (RX7, 46, yX1_init) (List.mem_append_right _ (List.mem_of_getElem? (i := 4) rfl))) (hts _ (mm_gw 32 rfl rfl)) ⟨by decide +kernel, by decide +kernel, by decide +kernel⟩ ⟨Nat.le_of_ble_eq_true rfl, Nat.le_of_ble_eq_true rfl⟩, rfl, hts _ (mm_gw 219 rfl rfl)⟩) (Nat.le_of_ble_eq_true rfl) (Nat.le_of_ble_eq_true rfl) (show decode cX7_init 59 = .ok (.aload_n 0, 1) by decide +kernel) (show decode cX7_init 60 = .ok (.new 44, 3) by decide +kernel) (show decode cX7_init 63 = .ok (.dup, 1) by decide +kernel) (show decode cX7_init 64 = .ok (.invokespecial 46, 3) by decide +kernel) (show decode cX7_init 67 = .ok (.putfield 47, 3) by decide +kernel) (by decide +kernel) rfl rfl (by decide +kernel) (Nat.le_of_ble_eq_true rfl) hP hD hS (fun q1 u1 H locs hu1 hP hD hS => ?_)
  refine ct_sub (o := 7) (ci := 6) (k := 6) (cn := mm_R 6) (x1 := 51) (x2 := 53) (x3 := 54) (pc := 70) hx hb hml hl.1 hts hown hin hN hK hA hls (by decide) (mm_gw 253 rfl rfl) (mm_gw 254 rfl rfl) (mm_gw 33 rfl rfl) df_6 ct_6 (Or.inl ⟨va_cnB 0 hts gd_6 rfl rfl rfl (hN (RX7, 53, yX6_init) (List.mem_append_right _ (List.mem_of_getElem? (i := 5) rfl))) (hts _ (mm_gw 33 rfl rfl)) ⟨by decide +kernel, by decide +kernel, by decide +kernel⟩ ⟨Nat.le_of_ble_eq_true rfl, Nat.le_of_ble_eq_true rfl⟩, rfl, hts _ (mm_gw 256 rfl rfl)⟩) (Nat.le_of_ble_eq_true rfl) (Nat.le_of_ble_eq_true rfl) (show decode cX7_init 70 = .ok (.aload_n 0, 1) by decide +kernel) (show decode cX7_init 71 = .ok (.new 51, 3) by decide +kernel) (show decode cX7_init 74 = .ok (.dup, 1) by decide +kernel) (show decode cX7_init 75 = .ok (.invokespecial 53, 3) by decide +kernel) (show decode cX7_init 78 = .ok (.putfield 54, 3) by decide +kernel) (by decide +kernel) rfl rfl (by decide +kernel) (Nat.le_of_ble_eq_true rfl) hP hD hS (fun q6 u6 H locs hu6 hP hD hS => ?_)
  refine ct_step (ci := 7) (it := (false, 2, 7, 58, .iconst 2, 1)) (pc := 81) hx hb hts hown hin hK hA hls hP hD hS (Nat.le_of_ble_eq_true rfl) (by decide +kernel) (Nat.le_of_ble_eq_true rfl) (Nat.le_of_ble_eq_true rfl) (fun q8 H locs hP hD hS => ?_)
  obtain ⟨l0, l1, l2, l3, l4, l5, rfl⟩ := len6 hu5
  obtain ⟨k0, k1, k2, k3, k4, k5, rfl⟩ := len6 hu4
  obtain ⟨c0, c1, rfl⟩ := len2 hu3
  obtain ⟨u2, ν⟩ := u2
  obtain ⟨hu2, hν⟩ := hu2
  obtain ⟨o0, o1, o2, o3, o4, rfl⟩ := len5 hu2
  obtain ⟨b0, b1, b2, b3, b4, b5, b6, rfl⟩ := len7 hu0
  obtain ⟨t0, t1, t2, t3, t4, t5, t6, rfl⟩ := len7 hu1
  obtain ⟨p0, p1, p2, p3, p4, p5, rfl⟩ := len6 hu6
  have hP8 : va_P (dC, dI) vwCl [(h0, .inr (7, [.ref q5, .ref q4, .ref q3, .ref q2, .ref q0, .ref q1, .ref q6, .ref q8, .int 0, .int 0, .int 0, .int 0, .int 0, .int 0])), (q5, .inr (5, [.ref l0, .ref l1, .ref l2, .ref l3, .ref l4, .ref l5, .int 0])), (l0, .inl (cI, 60, .inl (fun _ => 0))), (l1, .inl (cI, 60, .inl (fun _ => 0))), (l2, .inl (cI, 60, .inl (fun _ => 0))), (l3, .inl (cZ, 60, .inl (fun _ => 0))), (l4, .inl (cZ, 60, .inl (fun _ => 0))), (l5, .inl (cI, 60, .inl (fun _ => 0))), (q4, .inr (4, [.ref k0, .ref k1, .ref k2, .ref k3, .ref k4, .ref k5, .int 0])), (k0, .inl (cZ, 4, .inl (fun _ => 0))), (k1, .inl (cI, 4, .inl (fun _ => 0))), (k2, .inl (cI, 4, .inl (fun _ => 0))), (k3, .inl (cI, 4, .inl (fun _ => 0))), (k4, .inl (cI, 4, .inl (fun _ => 0))), (k5, .inl (cI, 4, .inl (fun _ => 0))), (q3, .inr (3, [.ref c0, .ref c1])), (c0, .inl (cZ, 3, .inl (fun _ => 0))), (c1, .inl (cI, 3, .inl (fun _ => 0))), (q2, .inr (2, [.ref o0, .ref o1, .ref o2, .ref o3, .ref o4])), (o0, .inl (cI, 3, .inl (ν 1))), (o1, .inl (cI, 3, .inl (ν 2))), (o2, .inl (cI, 3, .inl (ν 3))), (o3, .inl (cI, 3, .inl (ν 4))), (o4, .inl (cI, 180, .inl (ν 5))), (q0, .inr (0, [.ref b0, .ref b1, .ref b2, .ref b3, .ref b4, .ref b5, .ref b6, .int 0, .int 0])), (b0, .inl (cI, 100, .inl (fun _ => 0))), (b1, .inl (cI, 100, .inl (fun _ => 0))), (b2, .inl (cI, 100, .inl (fun _ => 0))), (b3, .inl (cI, 100, .inl (fun _ => 0))), (b4, .inl (cI, 100, .inl (fun _ => 0))), (b5, .inl (cZ, 100, .inl (fun _ => 0))), (b6, .inl (cI, 6000, .inl (fun _ => 0))), (q1, .inr (1, [.ref t0, .ref t1, .ref t2, .ref t3, .ref t4, .ref t5, .ref t6, .int 0])), (t0, .inl (cI, 20, .inl (fun _ => 0))), (t1, .inl (cI, 20, .inl (fun _ => 0))), (t2, .inl (cI, 20, .inl (fun _ => 0))), (t3, .inl (cI, 20, .inl (fun _ => 0))), (t4, .inl (cI, 20, .inl (fun _ => 0))), (t5, .inl (cZ, 20, .inl (fun _ => 0))), (t6, .inl (cI, 20, .inl (fun _ => 0))), (q6, .inr (6, [.ref p0, .ref p1, .ref p2, .ref p3, .ref p4, .ref p5, .int 0, .int 0])), (p0, .inl (cI, 3, .inl (fun _ => 0))), (p1, .inl (cI, 2, .inl (fun _ => 0))), (p2, .inl (cI, 8, .inl (fun _ => 0))), (p3, .inl (cI, 5, .inl (fun _ => 0))), (p4, .inl (cI, 4, .inl (fun _ => 0))), (p5, .inl (cI, 4, .inl (fun _ => 0))), (q8, .inl (cI, 2, .inl (fun _ => 0)))] H := hP
  have hD8 : va_D A [(h0, .inr (7, [.ref q5, .ref q4, .ref q3, .ref q2, .ref q0, .ref q1, .ref q6, .ref q8, .int 0, .int 0, .int 0, .int 0, .int 0, .int 0])), (q5, .inr (5, [.ref l0, .ref l1, .ref l2, .ref l3, .ref l4, .ref l5, .int 0])), (l0, .inl (cI, 60, .inl (fun _ => 0))), (l1, .inl (cI, 60, .inl (fun _ => 0))), (l2, .inl (cI, 60, .inl (fun _ => 0))), (l3, .inl (cZ, 60, .inl (fun _ => 0))), (l4, .inl (cZ, 60, .inl (fun _ => 0))), (l5, .inl (cI, 60, .inl (fun _ => 0))), (q4, .inr (4, [.ref k0, .ref k1, .ref k2, .ref k3, .ref k4, .ref k5, .int 0])), (k0, .inl (cZ, 4, .inl (fun _ => 0))), (k1, .inl (cI, 4, .inl (fun _ => 0))), (k2, .inl (cI, 4, .inl (fun _ => 0))), (k3, .inl (cI, 4, .inl (fun _ => 0))), (k4, .inl (cI, 4, .inl (fun _ => 0))), (k5, .inl (cI, 4, .inl (fun _ => 0))), (q3, .inr (3, [.ref c0, .ref c1])), (c0, .inl (cZ, 3, .inl (fun _ => 0))), (c1, .inl (cI, 3, .inl (fun _ => 0))), (q2, .inr (2, [.ref o0, .ref o1, .ref o2, .ref o3, .ref o4])), (o0, .inl (cI, 3, .inl (ν 1))), (o1, .inl (cI, 3, .inl (ν 2))), (o2, .inl (cI, 3, .inl (ν 3))), (o3, .inl (cI, 3, .inl (ν 4))), (o4, .inl (cI, 180, .inl (ν 5))), (q0, .inr (0, [.ref b0, .ref b1, .ref b2, .ref b3, .ref b4, .ref b5, .ref b6, .int 0, .int 0])), (b0, .inl (cI, 100, .inl (fun _ => 0))), (b1, .inl (cI, 100, .inl (fun _ => 0))), (b2, .inl (cI, 100, .inl (fun _ => 0))), (b3, .inl (cI, 100, .inl (fun _ => 0))), (b4, .inl (cI, 100, .inl (fun _ => 0))), (b5, .inl (cZ, 100, .inl (fun _ => 0))), (b6, .inl (cI, 6000, .inl (fun _ => 0))), (q1, .inr (1, [.ref t0, .ref t1, .ref t2, .ref t3, .ref t4, .ref t5, .ref t6, .int 0])), (t0, .inl (cI, 20, .inl (fun _ => 0))), (t1, .inl (cI, 20, .inl (fun _ => 0))), (t2, .inl (cI, 20, .inl (fun _ => 0))), (t3, .inl (cI, 20, .inl (fun _ => 0))), (t4, .inl (cI, 20, .inl (fun _ => 0))), (t5, .inl (cZ, 20, .inl (fun _ => 0))), (t6, .inl (cI, 20, .inl (fun _ => 0))), (q6, .inr (6, [.ref p0, .ref p1, .ref p2, .ref p3, .ref p4, .ref p5, .int 0, .int 0])), (p0, .inl (cI, 3, .inl (fun _ => 0))), (p1, .inl (cI, 2, .inl (fun _ => 0))), (p2, .inl (cI, 8, .inl (fun _ => 0))), (p3, .inl (cI, 5, .inl (fun _ => 0))), (p4, .inl (cI, 4, .inl (fun _ => 0))), (p5, .inl (cI, 4, .inl (fun _ => 0))), (q8, .inl (cI, 2, .inl (fun _ => 0)))] := hD
  obtain ⟨hP9, hD9⟩ := re_F hP8 hD8
  refine W.widen (k := 47) (n := 7396) (Nat.le_of_ble_eq_true rfl) (Nat.le_of_ble_eq_true rfl) ?_
  exact W.vret hx hb hr (fun t ht hW => ⟨⟨([h0, q5, q4, q3, q2, q0, q1, q6, q8, l0, l1, l2, l3, l4, l5, k0, k1, k2, k3, k4, k5, c0, c1, o0, o1, o2, o3, o4, b0, b1, b2, b3, b4, b5, b6, t0, t1, t2, t3, t4, t5, t6, p0, p1, p2, p3, p4, p5], ckM ν), rfl, ⟨rfl, ν, hν, rfl⟩, by rw [ht]; exact hP9, hD9⟩, hS.F ht⟩) hS.2.2 (show decode cX7_init 88 = .ok (.return_, 1) by decide +kernel)
