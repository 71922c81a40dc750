/-! the law's world -/
def adL (b q2 : Nat) (u v : List Nat) : Nat → Nat := fun i => if i = 999 then b else if i < 48 then u.getD i 0 else if i = 48 then q2 else v.getD (i - 49) 0
section REL
variable {A : Nat → Prop} {dC : Nat → ClassId} {dI : Nat → Nat → Nat} {cI cZ : ClassId} {b q2 : Nat} {u v : List Nat} {ν : mm_M} {H : Heap}
set_option maxRecDepth 20000 in
theorem ky_F : ∀ (k : Nat) (z : mm_C), k < 48 → hh_S[k]? = some z → hh_F[k]? = some z ∧ mm_cell (dC, dI, fun i => u.getD i 0, cI, cZ) (ckM ν) k z = mm_cell (dC, dI, adL b q2 u v, cI, cZ) (mu0 ν) k z := by
  intro k z hk h
  match k, hk, h with
  | 0, _, h => cases h; exact ⟨rfl, rfl⟩
  | 1, _, h => cases h; exact ⟨rfl, rfl⟩
  | 2, _, h => cases h; exact ⟨rfl, rfl⟩
  | 3, _, h => cases h; exact ⟨rfl, rfl⟩
  | 4, _, h => cases h; exact ⟨rfl, rfl⟩
  | 5, _, h => cases h; exact ⟨rfl, rfl⟩
  | 6, _, h => cases h; exact ⟨rfl, rfl⟩
  | 7, _, h => cases h; exact ⟨rfl, rfl⟩
  | 8, _, h => cases h; exact ⟨rfl, rfl⟩
  | 9, _, h => cases h; exact ⟨rfl, rfl⟩
  | 10, _, h => cases h; exact ⟨rfl, rfl⟩
  | 11, _, h => cases h; exact ⟨rfl, rfl⟩
  | 12, _, h => cases h; exact ⟨rfl, rfl⟩
  | 13, _, h => cases h; exact ⟨rfl, rfl⟩
  | 14, _, h => cases h; exact ⟨rfl, rfl⟩
  | 15, _, h => cases h; exact ⟨rfl, rfl⟩
  | 16, _, h => cases h; exact ⟨rfl, rfl⟩
  | 17, _, h => cases h; exact ⟨rfl, rfl⟩
  | 18, _, h => cases h; exact ⟨rfl, rfl⟩
  | 19, _, h => cases h; exact ⟨rfl, rfl⟩
  | 20, _, h => cases h; exact ⟨rfl, rfl⟩
  | 21, _, h => cases h; exact ⟨rfl, rfl⟩
  | 22, _, h => cases h; exact ⟨rfl, rfl⟩
  | 23, _, h => cases h; exact ⟨rfl, rfl⟩
  | 24, _, h => cases h; exact ⟨rfl, rfl⟩
  | 25, _, h => cases h; exact ⟨rfl, rfl⟩
  | 26, _, h => cases h; exact ⟨rfl, rfl⟩
  | 27, _, h => cases h; exact ⟨rfl, rfl⟩
  | 28, _, h => cases h; exact ⟨rfl, rfl⟩
  | 29, _, h => cases h; exact ⟨rfl, rfl⟩
  | 30, _, h => cases h; exact ⟨rfl, rfl⟩
  | 31, _, h => cases h; exact ⟨rfl, rfl⟩
  | 32, _, h => cases h; exact ⟨rfl, rfl⟩
  | 33, _, h => cases h; exact ⟨rfl, rfl⟩
  | 34, _, h => cases h; exact ⟨rfl, rfl⟩
  | 35, _, h => cases h; exact ⟨rfl, rfl⟩
  | 36, _, h => cases h; exact ⟨rfl, rfl⟩
  | 37, _, h => cases h; exact ⟨rfl, rfl⟩
  | 38, _, h => cases h; exact ⟨rfl, rfl⟩
  | 39, _, h => cases h; exact ⟨rfl, rfl⟩
  | 40, _, h => cases h; exact ⟨rfl, rfl⟩
  | 41, _, h => cases h; exact ⟨rfl, rfl⟩
  | 42, _, h => cases h; exact ⟨rfl, rfl⟩
  | 43, _, h => cases h; exact ⟨rfl, rfl⟩
  | 44, _, h => cases h; exact ⟨rfl, rfl⟩
  | 45, _, h => cases h; exact ⟨rfl, rfl⟩
  | 46, _, h => cases h; exact ⟨rfl, rfl⟩
  | 47, _, h => cases h; exact ⟨rfl, rfl⟩
  | k + 48, hk, _ => exact absurd hk (Nat.not_lt.mpr (Nat.le_add_left 48 k))
theorem adl_48 : adL b q2 u v 48 = q2 := rfl
theorem adl_49 : adL b q2 u v 49 = v.getD 0 0 := rfl
theorem adl_50 : adL b q2 u v 50 = v.getD 1 0 := rfl
theorem adl_51 : adL b q2 u v 51 = v.getD 2 0 := rfl
theorem adl_52 : adL b q2 u v 52 = v.getD 3 0 := rfl
theorem adl_53 : adL b q2 u v 53 = v.getD 4 0 := rfl
theorem adl_54 : adL b q2 u v 54 = v.getD 5 0 := rfl
theorem adl_55 : adL b q2 u v 55 = v.getD 6 0 := rfl
theorem adl_56 : adL b q2 u v 56 = v.getD 7 0 := rfl
theorem adl_57 : adL b q2 u v 57 = v.getD 8 0 := rfl
theorem adl_58 : adL b q2 u v 58 = v.getD 9 0 := rfl
theorem adl_59 : adL b q2 u v 59 = v.getD 10 0 := rfl
theorem adl_60 : adL b q2 u v 60 = v.getD 11 0 := rfl
theorem adl_61 : adL b q2 u v 61 = v.getD 12 0 := rfl
theorem adl_62 : adL b q2 u v 62 = v.getD 13 0 := rfl
theorem adl_63 : adL b q2 u v 63 = v.getD 14 0 := rfl
theorem adl_64 : adL b q2 u v 64 = v.getD 15 0 := rfl
theorem adl_65 : adL b q2 u v 65 = v.getD 16 0 := rfl
theorem adl_66 : adL b q2 u v 66 = v.getD 17 0 := rfl
theorem adl_67 : adL b q2 u v 67 = v.getD 18 0 := rfl
theorem adl_68 : adL b q2 u v 68 = v.getD 19 0 := rfl
theorem adl_69 : adL b q2 u v 69 = v.getD 20 0 := rfl
theorem adl_70 : adL b q2 u v 70 = v.getD 21 0 := rfl
theorem adl_71 : adL b q2 u v 71 = v.getD 22 0 := rfl
theorem adl_72 : adL b q2 u v 72 = v.getD 23 0 := rfl
theorem adl_73 : adL b q2 u v 73 = v.getD 24 0 := rfl
theorem adl_74 : adL b q2 u v 74 = v.getD 25 0 := rfl
theorem adl_75 : adL b q2 u v 75 = v.getD 26 0 := rfl
theorem adl_76 : adL b q2 u v 76 = v.getD 27 0 := rfl
theorem adl_77 : adL b q2 u v 77 = v.getD 28 0 := rfl
set_option maxRecDepth 20000 in
theorem ky_M : ∀ (k : Nat) (z : mm_C), hh_S[k + 48]? = some z → (wd_8 cI cZ q2 v)[k]? = some (mm_cell (dC, dI, adL b q2 u v, cI, cZ) (mu0 ν) (k + 48) z) := by
  intro k z h
  match k, h with
  | 0, h => cases h; simp only [Nat.zero_add, mm_cell, List.mapIdx_cons, List.mapIdx_nil, mm_fv, Nat.reduceAdd, adl_48, adl_49, adl_50, adl_51, adl_52, adl_53, adl_54, adl_55, adl_56, adl_57, adl_58, adl_59, adl_60, adl_61, adl_62, adl_63, adl_64, adl_65, adl_66, adl_67, adl_68, adl_69, adl_70, adl_71, adl_72, adl_73, adl_74, adl_75, adl_76, adl_77, mz (c := 48) (by decide) (by decide) (by decide)]; rfl
  | 1, h => cases h; rfl
  | 2, h => cases h; rfl
  | 3, h => cases h; rfl
  | 4, h => cases h; rfl
  | 5, h => cases h; rfl
  | 6, h => cases h; rfl
  | 7, h => cases h; rfl
  | 8, h => cases h; rfl
  | 9, h => cases h; rfl
  | 10, h => cases h; rfl
  | 11, h => cases h; rfl
  | 12, h => cases h; rfl
  | 13, h => cases h; rfl
  | 14, h => cases h; rfl
  | 15, h => cases h; rfl
  | 16, h => cases h; rfl
  | 17, h => cases h; rfl
  | 18, h => cases h; rfl
  | 19, h => cases h; rfl
  | 20, h => cases h; rfl
  | 21, h => cases h; rfl
  | 22, h => cases h; rfl
  | 23, h => cases h; rfl
  | 24, h => cases h; rfl
  | 25, h => cases h; rfl
  | 26, h => cases h; rfl
  | 27, h => cases h; rfl
  | 28, h => cases h; rfl
  | 29, h => cases h; rfl
  | k + 30, h => exact absurd (List.getElem?_eq_some_iff.mp h).1 (Nat.not_lt.mpr (show 78 ≤ k + 30 + 48 by omega))
theorem ky_L (k : Nat) (z : mm_C) (h : hh_S[k]? = some z) : (mm_cells (dC, dI, fun i => u.getD i 0, cI, cZ) hh_F (ckM ν) ++ wd_8 cI cZ q2 v)[k]? = some (mm_cell (dC, dI, adL b q2 u v, cI, cZ) (mu0 ν) k z) := by
  have hlen : (mm_cells (dC, dI, fun i => u.getD i 0, cI, cZ) hh_F (ckM ν)).length = 48 := by
    unfold mm_cells
    rw [List.length_mapIdx]
    rfl
  by_cases hk : k < 48
  · obtain ⟨h1, h2⟩ := ky_F (dC := dC) (dI := dI) (cI := cI) (cZ := cZ) (b := b) (q2 := q2) (u := u) (v := v) (ν := ν) k z hk h
    rw [List.getElem?_append_left (by rw [hlen]; exact hk), mm_cells_get h1, h2]
  · obtain ⟨j, rfl⟩ : ∃ j, k = j + 48 := ⟨k - 48, by omega⟩
    rw [List.getElem?_append_right (by rw [hlen]; omega), hlen, Nat.add_sub_cancel]
    exact ky_M j z h
theorem re_L (hP : va_P (dC, dI) vwCl (mm_cells (dC, dI, fun i => u.getD i 0, cI, cZ) hh_F (ckM ν) ++ wd_8 cI cZ q2 v) H) (hD : va_D A (mm_cells (dC, dI, fun i => u.getD i 0, cI, cZ) hh_F (ckM ν) ++ wd_8 cI cZ q2 v)) : va_P (dC, dI) vwCl (mm_cells (dC, dI, adL b q2 u v, cI, cZ) hh_S (mu0 ν)) H ∧ va_D A (mm_cells (dC, dI, adL b q2 u v, cI, cZ) hh_S (mu0 ν)) := by
  refine ⟨fun k q hk => ?_, fun i j x y ha hb hab => ?_, fun k q hk => ?_⟩
  · obtain ⟨z, h1, rfl⟩ := mm_cells_inv hk
    exact hP _ _ (ky_L k z h1)
  · obtain ⟨z1, h1, rfl⟩ := mm_cells_inv ha
    obtain ⟨z2, h2, rfl⟩ := mm_cells_inv hb
    exact hD.1 _ _ _ _ (ky_L i z1 h1) (ky_L j z2 h2) hab
  · obtain ⟨z, h1, rfl⟩ := mm_cells_inv hk
    exact hD.2 _ _ (ky_L k z h1)
end REL
set_option maxRecDepth 20000 in
theorem ct_nt_tbl : ∀ q ∈ ct_NT, ct_nl q ∈ lw_tbl := List.forall_mem_append.mpr ⟨fun q hq => by obtain ⟨z, hz, rfl⟩ := List.mem_map.mp hq; exact mm_nt_tbl z hz, List.forall_mem_cons.mpr ⟨List.mem_of_getElem? (i := 47) rfl, List.forall_mem_cons.mpr ⟨List.mem_of_getElem? (i := 82) rfl, List.forall_mem_cons.mpr ⟨List.mem_of_getElem? (i := 121) rfl, List.forall_mem_cons.mpr ⟨List.mem_of_getElem? (i := 176) rfl, List.forall_mem_cons.mpr ⟨List.mem_of_getElem? (i := 218) rfl, List.forall_mem_cons.mpr ⟨List.mem_of_getElem? (i := 255) rfl, fun _ h => absurd h List.not_mem_nil⟩⟩⟩⟩⟩⟩⟩
theorem df_7 : ∀ j, j < mm_N 7 → defaultValue (mm_ty 7 j) = vp_V fs_7 j := by
  intro j hj
  have h : j < 14 := hj
  rcases (show j = 0 ∨ j = 1 ∨ j = 2 ∨ j = 3 ∨ j = 4 ∨ j = 5 ∨ j = 6 ∨ j = 7 ∨ j = 8 ∨ j = 9 ∨ j = 10 ∨ j = 11 ∨ j = 12 ∨ j = 13 by omega) with rfl | rfl | rfl | rfl | rfl | rfl | rfl | rfl | rfl | rfl | rfl | rfl | rfl | rfl <;> rfl
set_option maxRecDepth 20000 in
theorem gd_7 : GoodIn mm_GW (.code yX7_init cX7_init 1 none :: mm_GW) := mm_gw_good (fun w hw => (List.mem_cons.mp hw).elim (fun h => h ▸ mm_gw 41 rfl rfl) (fun h => h))
set_option maxRecDepth 20000 in
theorem gd_8 : GoodIn mm_GW (.code yX8_init cX8_init 1 none :: mm_GW) := mm_gw_good (fun w hw => (List.mem_cons.mp hw).elim (fun h => h ▸ mm_gw 621 rfl rfl) (fun h => h))
set_option maxRecDepth 20000 in
theorem la_7 : Cond.classLink RL 7 (mm_R 7) ∈ mm_GW := mm_gw 37 rfl rfl
set_option maxRecDepth 20000 in
theorem lb_7 : Cond.instantiable (mm_R 7) (mm_N 7) ∈ mm_GW := mm_gw 38 rfl rfl
set_option maxRecDepth 20000 in
theorem lc_7 : Cond.initialized (mm_R 7) ∈ mm_GW := mm_gw 26 rfl rfl
set_option maxRecDepth 20000 in
theorem ld_7 : Cond.methodLink RL 9 yX7_init ∈ mm_GW := mm_gw 39 rfl rfl
set_option maxRecDepth 20000 in
theorem le_7 : Cond.instanceMethod yX7_init ∈ mm_GW := mm_gw 40 rfl rfl
set_option maxRecDepth 20000 in
theorem la_8 : Cond.classLink RL 10 (mm_R 8) ∈ mm_GW := mm_gw 617 rfl rfl
set_option maxRecDepth 20000 in
theorem lb_8 : Cond.instantiable (mm_R 8) (mm_N 8) ∈ mm_GW := mm_gw 618 rfl rfl
set_option maxRecDepth 20000 in
theorem lc_8 : Cond.initialized (mm_R 8) ∈ mm_GW := mm_gw 34 rfl rfl
set_option maxRecDepth 20000 in
theorem ld_8 : Cond.methodLink RL 12 yX8_init ∈ mm_GW := mm_gw 619 rfl rfl
set_option maxRecDepth 20000 in
theorem le_8 : Cond.instanceMethod yX8_init ∈ mm_GW := mm_gw 620 rfl rfl
set_option maxRecDepth 20000 in
theorem lb_0 : Cond.instantiable (mm_R 0) (mm_N 0) ∈ mm_GW := mm_gw 175 rfl rfl
set_option maxRecDepth 20000 in
theorem lb_1 : Cond.instantiable (mm_R 1) (mm_N 1) ∈ mm_GW := mm_gw 217 rfl rfl
set_option maxRecDepth 20000 in
theorem lb_2 : Cond.instantiable (mm_R 2) (mm_N 2) ∈ mm_GW := mm_gw 135 rfl rfl
set_option maxRecDepth 20000 in
theorem lb_3 : Cond.instantiable (mm_R 3) (mm_N 3) ∈ mm_GW := mm_gw 120 rfl rfl
set_option maxRecDepth 20000 in
theorem lb_4 : Cond.instantiable (mm_R 4) (mm_N 4) ∈ mm_GW := mm_gw 81 rfl rfl
set_option maxRecDepth 20000 in
theorem lb_5 : Cond.instantiable (mm_R 5) (mm_N 5) ∈ mm_GW := mm_gw 46 rfl rfl
set_option maxRecDepth 20000 in
theorem lb_6 : Cond.instantiable (mm_R 6) (mm_N 6) ∈ mm_GW := mm_gw 254 rfl rfl
set_option maxRecDepth 20000 in
theorem lf_i : Cond.arrayClass .int ∈ mm_GW := mm_gw 78 rfl rfl
set_option maxRecDepth 20000 in
theorem lf_z : Cond.arrayClass .boolean ∈ mm_GW := mm_gw 79 rfl rfl
theorem dl_0 : decode code 0 = .ok (.new 7, 3) := by decide +kernel
theorem dl_3 : decode code 3 = .ok (.dup, 1) := by decide +kernel
theorem dl_4 : decode code 4 = .ok (.invokespecial 9, 3) := by decide +kernel
theorem dl_7 : decode code 7 = .ok (.astore_n 1, 1) := by decide +kernel
theorem dl_8 : decode code 8 = .ok (.new 10, 3) := by decide +kernel
theorem dl_11 : decode code 11 = .ok (.dup, 1) := by decide +kernel
theorem dl_12 : decode code 12 = .ok (.invokespecial 12, 3) := by decide +kernel
theorem dl_15 : decode code 15 = .ok (.astore_n 2, 1) := by decide +kernel
