/-! constructors: the simple ones -/
def its_0 : List ct_I := [(false, 100, 0, 9, .bipush 100, 2), (false, 100, 1, 15, .bipush 100, 2), (false, 100, 2, 18, .bipush 100, 2), (false, 100, 3, 21, .bipush 100, 2), (false, 100, 4, 24, .bipush 100, 2), (true, 100, 5, 27, .bipush 100, 2), (false, 6000, 6, 31, .sipush 6000, 3)]
abbrev fs_0 : List Value := [.null, .null, .null, .null, .null, .null, .null, .int 0, .int 0]
theorem ol_0 : Cond.methodLink (mm_R 0) 3 objectInit ∈ mm_GW := mm_gw 179 rfl rfl
theorem ik_0 : ct_ok cX0_init 0 4 its_0 = true := by decide +kernel
theorem ct_0 {l : Launch} {dC : Nat → ClassId} {dI : Nat → Nat → Nat} {cI cZ : ClassId} : ct_M l dC dI cI cZ yX0_init cX0_init 1 { frames := 1, cells := 7, slots := 6600, locals := 12 } 0 fs_0 (fun _ (qs : List Nat) => qs.length = 7) (fun h0 qs => (h0, .inr (0, ct_fs fs_0 its_0 qs)) :: ct_as cI cZ its_0 qs) 7 6600 := ct_simple (its := its_0) rfl rfl (by decide +kernel) (by decide +kernel) (by decide +kernel) ol_0 ik_0 (by decide +kernel) (by decide)
def its_1 : List ct_I := [(false, 20, 0, 9, .bipush 20, 2), (false, 20, 1, 15, .bipush 20, 2), (false, 20, 2, 18, .bipush 20, 2), (false, 20, 3, 21, .bipush 20, 2), (false, 20, 4, 24, .bipush 20, 2), (true, 20, 5, 27, .bipush 20, 2), (false, 20, 6, 31, .bipush 20, 2)]
abbrev fs_1 : List Value := [.null, .null, .null, .null, .null, .null, .null, .int 0]
theorem ol_1 : Cond.methodLink (mm_R 1) 3 objectInit ∈ mm_GW := mm_gw 221 rfl rfl
theorem ik_1 : ct_ok cX1_init 1 4 its_1 = true := by decide +kernel
theorem ct_1 {l : Launch} {dC : Nat → ClassId} {dI : Nat → Nat → Nat} {cI cZ : ClassId} : ct_M l dC dI cI cZ yX1_init cX1_init 1 { frames := 1, cells := 7, slots := 140, locals := 12 } 1 fs_1 (fun _ (qs : List Nat) => qs.length = 7) (fun h0 qs => (h0, .inr (1, ct_fs fs_1 its_1 qs)) :: ct_as cI cZ its_1 qs) 7 140 := ct_simple (its := its_1) rfl rfl (by decide +kernel) (by decide +kernel) (by decide +kernel) ol_1 ik_1 (by decide +kernel) (by decide)
def its_3 : List ct_I := [(true, 3, 0, 9, .iconst 3, 1), (false, 3, 1, 15, .iconst 3, 1)]
abbrev fs_3 : List Value := [.null, .null]
theorem ol_3 : Cond.methodLink (mm_R 3) 3 objectInit ∈ mm_GW := mm_gw 124 rfl rfl
theorem ik_3 : ct_ok cX3_init 3 4 its_3 = true := by decide +kernel
theorem ct_3 {l : Launch} {dC : Nat → ClassId} {dI : Nat → Nat → Nat} {cI cZ : ClassId} : ct_M l dC dI cI cZ yX3_init cX3_init 1 { frames := 1, cells := 2, slots := 6, locals := 12 } 3 fs_3 (fun _ (qs : List Nat) => qs.length = 2) (fun h0 qs => (h0, .inr (3, ct_fs fs_3 its_3 qs)) :: ct_as cI cZ its_3 qs) 2 6 := ct_simple (its := its_3) rfl rfl (by decide +kernel) (by decide +kernel) (by decide +kernel) ol_3 ik_3 (by decide +kernel) (by decide)
def its_4 : List ct_I := [(true, 4, 0, 9, .iconst 4, 1), (false, 4, 1, 15, .iconst 4, 1), (false, 4, 2, 19, .iconst 4, 1), (false, 4, 3, 22, .iconst 4, 1), (false, 4, 4, 25, .iconst 4, 1), (false, 4, 5, 28, .iconst 4, 1)]
abbrev fs_4 : List Value := [.null, .null, .null, .null, .null, .null, .int 0]
theorem ol_4 : Cond.methodLink (mm_R 4) 3 objectInit ∈ mm_GW := mm_gw 85 rfl rfl
theorem ik_4 : ct_ok cX4_init 4 4 its_4 = true := by decide +kernel
theorem ct_4 {l : Launch} {dC : Nat → ClassId} {dI : Nat → Nat → Nat} {cI cZ : ClassId} : ct_M l dC dI cI cZ yX4_init cX4_init 1 { frames := 1, cells := 6, slots := 24, locals := 12 } 4 fs_4 (fun _ (qs : List Nat) => qs.length = 6) (fun h0 qs => (h0, .inr (4, ct_fs fs_4 its_4 qs)) :: ct_as cI cZ its_4 qs) 6 24 := ct_simple (its := its_4) rfl rfl (by decide +kernel) (by decide +kernel) (by decide +kernel) ol_4 ik_4 (by decide +kernel) (by decide)
def its_5 : List ct_I := [(false, 60, 0, 9, .bipush 60, 2), (false, 60, 1, 15, .bipush 60, 2), (false, 60, 2, 18, .bipush 60, 2), (true, 60, 3, 21, .bipush 60, 2), (true, 60, 4, 25, .bipush 60, 2), (false, 60, 5, 28, .bipush 60, 2)]
abbrev fs_5 : List Value := [.null, .null, .null, .null, .null, .null, .int 0]
theorem ol_5 : Cond.methodLink (mm_R 5) 3 objectInit ∈ mm_GW := mm_gw 50 rfl rfl
theorem ik_5 : ct_ok cX5_init 5 4 its_5 = true := by decide +kernel
theorem ct_5 {l : Launch} {dC : Nat → ClassId} {dI : Nat → Nat → Nat} {cI cZ : ClassId} : ct_M l dC dI cI cZ yX5_init cX5_init 1 { frames := 1, cells := 6, slots := 360, locals := 12 } 5 fs_5 (fun _ (qs : List Nat) => qs.length = 6) (fun h0 qs => (h0, .inr (5, ct_fs fs_5 its_5 qs)) :: ct_as cI cZ its_5 qs) 6 360 := ct_simple (its := its_5) rfl rfl (by decide +kernel) (by decide +kernel) (by decide +kernel) ol_5 ik_5 (by decide +kernel) (by decide)
def its_6 : List ct_I := [(false, 3, 0, 9, .iconst 3, 1), (false, 2, 1, 15, .iconst 2, 1), (false, 8, 2, 18, .bipush 8, 2), (false, 5, 3, 21, .iconst 5, 1), (false, 4, 4, 24, .iconst 4, 1), (false, 4, 5, 27, .iconst 4, 1)]
abbrev fs_6 : List Value := [.null, .null, .null, .null, .null, .null, .int 0, .int 0]
theorem ol_6 : Cond.methodLink (mm_R 6) 3 objectInit ∈ mm_GW := mm_gw 258 rfl rfl
theorem ik_6 : ct_ok cX6_init 6 4 its_6 = true := by decide +kernel
theorem ct_6 {l : Launch} {dC : Nat → ClassId} {dI : Nat → Nat → Nat} {cI cZ : ClassId} : ct_M l dC dI cI cZ yX6_init cX6_init 1 { frames := 1, cells := 6, slots := 26, locals := 12 } 6 fs_6 (fun _ (qs : List Nat) => qs.length = 6) (fun h0 qs => (h0, .inr (6, ct_fs fs_6 its_6 qs)) :: ct_as cI cZ its_6 qs) 6 26 := ct_simple (its := its_6) rfl rfl (by decide +kernel) (by decide +kernel) (by decide +kernel) ol_6 ik_6 (by decide +kernel) (by decide)
def its_2 : List ct_I := [(false, 3, 0, 9, .iconst 3, 1), (false, 3, 1, 15, .iconst 3, 1), (false, 3, 2, 18, .iconst 3, 1), (false, 3, 3, 21, .iconst 3, 1), (false, 180, 4, 24, .sipush 180, 3)]
abbrev fs_2 : List Value := [.null, .null, .null, .null, .null]
theorem ol_2 : Cond.methodLink (mm_R 2) 3 objectInit ∈ mm_GW := mm_gw 139 rfl rfl
theorem ik_2 : ct_ok cX2_init 2 4 its_2 = true := by decide +kernel
