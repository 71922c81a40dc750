def mm_GW : List Cond := lw_tbl.filter goodWord
theorem mm_gw (i : Nat) {w : Cond} (h : lw_tbl[i]? = some w) (g : goodWord w = true) : w ∈ mm_GW := List.mem_filter.mpr ⟨List.mem_of_getElem? h, g⟩
theorem mm_gw_tbl {w : Cond} (h : w ∈ mm_GW) : w ∈ lw_tbl := (List.mem_filter.mp h).1
theorem mm_gw_good {ws : List Cond} (h : ∀ w ∈ ws, w ∈ mm_GW) : GoodIn mm_GW ws := fun w hw => ⟨h w hw, good_of_word (List.mem_filter.mp (h w hw)).2⟩
def mm_R : Nat → String := fun ci => match ci with
  | 0 => RX0
  | 1 => RX1
  | 2 => RX2
  | 3 => RX3
  | 4 => RX4
  | 5 => RX5
  | 6 => RX6
  | 7 => RX7
  | 8 => RX8
  | _ => RL
def mm_T : Nat → u_T := fun ci => match ci with
  | 0 => TX0
  | 1 => TX1
  | 2 => TX2
  | 3 => TX3
  | 4 => TX4
  | 5 => TX5
  | 6 => TX6
  | 7 => TX7
  | _ => TX8
def mm_N : Nat → Nat := fun ci => match ci with
  | 0 => 9
  | 1 => 8
  | 2 => 5
  | 3 => 2
  | 4 => 7
  | 5 => 7
  | 6 => 8
  | 7 => 14
  | _ => 39
def mm_ty : Nat → Nat → FieldType := fun ci => match ci with
  | 0 => tyX0
  | 1 => tyX1
  | 2 => tyX2
  | 3 => tyX3
  | 4 => tyX4
  | 5 => tyX5
  | 6 => tyX6
  | 7 => tyX7
  | _ => tyX8
theorem mm_c9 {P : Nat → Prop} (h0 : P 0) (h1 : P 1) (h2 : P 2) (h3 : P 3) (h4 : P 4) (h5 : P 5) (h6 : P 6) (h7 : P 7) (h8 : P 8) {ci : Nat} (h : ci < 9) : P ci := by
  rcases (show ci = 0 ∨ ci = 1 ∨ ci = 2 ∨ ci = 3 ∨ ci = 4 ∨ ci = 5 ∨ ci = 6 ∨ ci = 7 ∨ ci = 8 by omega) with rfl | rfl | rfl | rfl | rfl | rfl | rfl | rfl | rfl <;> assumption
theorem mm_cl {ci : Nat} (h : ci < 9) : vwCl[ci]? = some (mm_R ci, mm_T ci, mm_N ci) := mm_c9 (P := fun ci => vwCl[ci]? = some (mm_R ci, mm_T ci, mm_N ci)) rfl rfl rfl rfl rfl rfl rfl rfl rfl h
theorem mm_nm {ci : Nat} (h : ci < 9) : ∀ a, a < mm_N ci → ∀ b, b < mm_N ci → a ≠ b → (mm_T ci a).2.1 ≠ (mm_T ci b).2.1 := mm_c9 (P := fun ci => ∀ a, a < mm_N ci → ∀ b, b < mm_N ci → a ≠ b → (mm_T ci a).2.1 ≠ (mm_T ci b).2.1) nmX0 nmX1 nmX2 nmX3 nmX4 nmX5 nmX6 nmX7 nmX8 h
theorem mm_tyok {ci : Nat} (h : ci < 9) : ∀ k, k < mm_N ci → parseFieldDescriptor (mm_T ci k).2.2.1 = some (mm_ty ci k) := mm_c9 (P := fun ci => ∀ k, k < mm_N ci → parseFieldDescriptor (mm_T ci k).2.2.1 = some (mm_ty ci k)) tyX0_ok tyX1_ok tyX2_ok tyX3_ok tyX4_ok tyX5_ok tyX6_ok tyX7_ok tyX8_ok h
set_option maxRecDepth 20000 in
theorem mm_lay0 : ∀ w ∈ u_ws RX0 TX0 9, w ∈ mm_GW := fun w h => by
  have e : u_ws RX0 TX0 9 = ([197, 199, 201, 203, 205, 207, 209, 211, 213] : List Nat).filterMap (fun i => lw_tbl[i]?) := by decide +kernel
  have g : (u_ws RX0 TX0 9).all goodWord = true := by decide +kernel
  refine List.mem_filter.mpr ⟨?_, List.all_eq_true.mp g w h⟩
  rw [e] at h
  obtain ⟨i, -, hi⟩ := List.mem_filterMap.mp h
  exact List.mem_of_getElem? hi
set_option maxRecDepth 20000 in
theorem mm_lay1 : ∀ w ∈ u_ws RX1 TX1 8, w ∈ mm_GW := fun w h => by
  have e : u_ws RX1 TX1 8 = ([236, 238, 240, 242, 244, 246, 248, 250] : List Nat).filterMap (fun i => lw_tbl[i]?) := by decide +kernel
  have g : (u_ws RX1 TX1 8).all goodWord = true := by decide +kernel
  refine List.mem_filter.mpr ⟨?_, List.all_eq_true.mp g w h⟩
  rw [e] at h
  obtain ⟨i, -, hi⟩ := List.mem_filterMap.mp h
  exact List.mem_of_getElem? hi
set_option maxRecDepth 20000 in
theorem mm_lay2 : ∀ w ∈ u_ws RX2 TX2 5, w ∈ mm_GW := fun w h => by
  have e : u_ws RX2 TX2 5 = ([163, 165, 167, 169, 171] : List Nat).filterMap (fun i => lw_tbl[i]?) := by decide +kernel
  have g : (u_ws RX2 TX2 5).all goodWord = true := by decide +kernel
  refine List.mem_filter.mpr ⟨?_, List.all_eq_true.mp g w h⟩
  rw [e] at h
  obtain ⟨i, -, hi⟩ := List.mem_filterMap.mp h
  exact List.mem_of_getElem? hi
set_option maxRecDepth 20000 in
theorem mm_lay3 : ∀ w ∈ u_ws RX3 TX3 2, w ∈ mm_GW := fun w h => by
  have e : u_ws RX3 TX3 2 = ([129, 131] : List Nat).filterMap (fun i => lw_tbl[i]?) := by decide +kernel
  have g : (u_ws RX3 TX3 2).all goodWord = true := by decide +kernel
  refine List.mem_filter.mpr ⟨?_, List.all_eq_true.mp g w h⟩
  rw [e] at h
  obtain ⟨i, -, hi⟩ := List.mem_filterMap.mp h
  exact List.mem_of_getElem? hi
set_option maxRecDepth 20000 in
theorem mm_lay4 : ∀ w ∈ u_ws RX4 TX4 7, w ∈ mm_GW := fun w h => by
  have e : u_ws RX4 TX4 7 = ([104, 106, 108, 110, 112, 114, 116] : List Nat).filterMap (fun i => lw_tbl[i]?) := by decide +kernel
  have g : (u_ws RX4 TX4 7).all goodWord = true := by decide +kernel
  refine List.mem_filter.mpr ⟨?_, List.all_eq_true.mp g w h⟩
  rw [e] at h
  obtain ⟨i, -, hi⟩ := List.mem_filterMap.mp h
  exact List.mem_of_getElem? hi
set_option maxRecDepth 20000 in
theorem mm_lay5 : ∀ w ∈ u_ws RX5 TX5 7, w ∈ mm_GW := fun w h => by
  have e : u_ws RX5 TX5 7 = ([63, 65, 67, 69, 71, 73, 75] : List Nat).filterMap (fun i => lw_tbl[i]?) := by decide +kernel
  have g : (u_ws RX5 TX5 7).all goodWord = true := by decide +kernel
  refine List.mem_filter.mpr ⟨?_, List.all_eq_true.mp g w h⟩
  rw [e] at h
  obtain ⟨i, -, hi⟩ := List.mem_filterMap.mp h
  exact List.mem_of_getElem? hi
set_option maxRecDepth 20000 in
theorem mm_lay6 : ∀ w ∈ u_ws RX6 TX6 8, w ∈ mm_GW := fun w h => by
  have e : u_ws RX6 TX6 8 = ([269, 271, 273, 275, 277, 279, 281, 283] : List Nat).filterMap (fun i => lw_tbl[i]?) := by decide +kernel
  have g : (u_ws RX6 TX6 8).all goodWord = true := by decide +kernel
  refine List.mem_filter.mpr ⟨?_, List.all_eq_true.mp g w h⟩
  rw [e] at h
  obtain ⟨i, -, hi⟩ := List.mem_filterMap.mp h
  exact List.mem_of_getElem? hi
set_option maxRecDepth 20000 in
theorem mm_lay7 : ∀ w ∈ u_ws RX7 TX7 14, w ∈ mm_GW := fun w h => by
  have e : u_ws RX7 TX7 14 = ([300, 302, 304, 306, 308, 310, 312, 314, 316, 318, 320, 322, 324, 326] : List Nat).filterMap (fun i => lw_tbl[i]?) := by decide +kernel
  have g : (u_ws RX7 TX7 14).all goodWord = true := by decide +kernel
  refine List.mem_filter.mpr ⟨?_, List.all_eq_true.mp g w h⟩
  rw [e] at h
  obtain ⟨i, -, hi⟩ := List.mem_filterMap.mp h
  exact List.mem_of_getElem? hi
set_option maxRecDepth 20000 in
theorem mm_lay8 : ∀ w ∈ u_ws RX8 TX8 39, w ∈ mm_GW := fun w h => by
  have e : u_ws RX8 TX8 39 = ([662, 664, 666, 668, 670, 672, 674, 676, 678, 680, 682, 684, 686, 688, 690, 692, 694, 696, 698, 700, 702, 704, 706, 708, 710, 712, 714, 716, 718, 720, 722, 724, 726, 728, 730, 732, 734, 736, 738] : List Nat).filterMap (fun i => lw_tbl[i]?) := by decide +kernel
  have g : (u_ws RX8 TX8 39).all goodWord = true := by decide +kernel
  refine List.mem_filter.mpr ⟨?_, List.all_eq_true.mp g w h⟩
  rw [e] at h
  obtain ⟨i, -, hi⟩ := List.mem_filterMap.mp h
  exact List.mem_of_getElem? hi
theorem mm_lay {ci : Nat} (h : ci < 9) : ∀ w ∈ u_ws (mm_R ci) (mm_T ci) (mm_N ci), w ∈ mm_GW := mm_c9 (P := fun ci => ∀ w ∈ u_ws (mm_R ci) (mm_T ci) (mm_N ci), w ∈ mm_GW) mm_lay0 mm_lay1 mm_lay2 mm_lay3 mm_lay4 mm_lay5 mm_lay6 mm_lay7 mm_lay8 h
abbrev mm_Row : Type := Nat × MethodName × ByteArray × Nat × Option FieldType × Nat × Nat × Bool
def mm_MT : List mm_Row := [(0, yX0_has, cX0_has, 2, (some .boolean), 1, 2, false),
  (0, yX0_add, cX0_add, 4, (some .int), 1, 3, false),
  (0, yX0_isForSale, cX0_isForSale, 3, (some .boolean), 0, 3, false),
  (0, yX0_stock, cX0_stock, 4, (some .int), 1, 2, false),
  (0, yX0_caseWorth, cX0_caseWorth, 5, (some .int), 1, 4, false),
  (0, yX0_deliver, cX0_deliver, 10, (some .int), 2, 6, false),
  (0, yX0_bar, cX0_bar, 4, (some .int), 0, 2, false),
  (1, yX1_has, cX1_has, 2, (some .boolean), 1, 2, false),
  (1, yX1_add, cX1_add, 6, (some .int), 1, 5, false),
  (1, yX1_serve, cX1_serve, 8, none, 1, 4, false),
  (1, yX1_shortOf, cX1_shortOf, 6, (some .int), 1, 3, false),
  (1, yX1_close, cX1_close, 5, (some .int), 0, 3, false),
  (2, yX2_isFree, cX2_isFree, 2, (some .boolean), 0, 2, false),
  (2, yX2_charges, cX2_charges, 3, (some .int), 1, 1, false),
  (2, yX2_allKilograms, cX2_allKilograms, 3, (some .int), 0, 1, false),
  (2, yX2_fill, cX2_fill, 6, none, 0, 6, false),
  (2, yX2_empty, cX2_empty, 3, none, 1, 2, false),
  (3, yX3_isGone, cX3_isGone, 3, (some .boolean), 0, 3, false),
  (3, yX3_there, cX3_there, 4, (some .int), 1, 2, false),
  (4, yX4_canBe, cX4_canBe, 1, (some .boolean), 1, 1, true),
  (4, yX4_takesOf, cX4_takesOf, 1, (some .int), 0, 1, true),
  (4, yX4_sauceOf, cX4_sauceOf, 1, (some .int), 0, 1, true),
  (4, yX4_fishOf, cX4_fishOf, 1, (some .int), 0, 1, true),
  (4, yX4_hoursOf, cX4_hoursOf, 1, (some .int), 0, 1, true),
  (4, yX4_has, cX4_has, 2, (some .boolean), 1, 2, false),
  (4, yX4_add, cX4_add, 4, none, 1, 4, false),
  (5, yX5_has, cX5_has, 2, (some .boolean), 1, 2, false),
  (5, yX5_add, cX5_add, 5, (some .int), 1, 4, false),
  (5, yX5_staleHour, cX5_staleHour, 2, (some .int), 0, 2, false),
  (5, yX5_isFresh, cX5_isFresh, 3, (some .boolean), 1, 3, false),
  (5, yX5_kilograms, cX5_kilograms, 3, (some .int), 0, 1, false),
  (5, yX5_isUsable, cX5_isUsable, 3, (some .boolean), 0, 3, false),
  (5, yX5_usable, cX5_usable, 4, (some .int), 1, 2, false),
  (5, yX5_take, cX5_take, 9, none, 1, 5, false),
  (5, yX5_anyRecalled, cX5_anyRecalled, 4, (some .boolean), 0, 3, false),
  (5, yX5_spoil, cX5_spoil, 4, (some .int), 2, 2, false),
  (6, yX6_update, cX6_update, 7, none, 7, 4, false),
  (6, yX6_prepare, cX6_prepare, 4, none, 2, 2, false),
  (6, yX6_keepTried, cX6_keepTried, 2, none, 1, 2, false),
  (6, yX6_mostCases, cX6_mostCases, 7, (some .int), 1, 3, false),
  (6, yX6_use, cX6_use, 6, none, 0, 4, false),
  (7, yX7_land, cX7_land, 4, (some .int), 2, 4, false),
  (7, yX7_ice, cX7_ice, 2, (some .int), 1, 2, false),
  (7, yX7_iced, cX7_iced, 2, (some .boolean), 2, 2, false),
  (7, yX7_kind, cX7_kind, 4, (some .boolean), 2, 4, false),
  (7, yX7_sauce, cX7_sauce, 3, (some .int), 1, 3, false),
  (7, yX7_call, cX7_call, 2, (some .int), 1, 2, false),
  (7, yX7_pack, cX7_pack, 5, (some .int), 3, 4, false),
  (7, yX7_fail, cX7_fail, 3, (some .int), 2, 2, false),
  (7, yX7_go, cX7_go, 3, (some .int), 4, 2, false),
  (7, yX7_plan, cX7_plan, 2, (some .int), 8, 2, false),
  (7, yX7_worth, cX7_worth, 1, (some .int), 8, 1, false),
  (7, yX7_sell, cX7_sell, 5, (some .int), 3, 4, false),
  (7, yX7_contract, cX7_contract, 5, (some .int), 2, 5, false),
  (7, yX7_lacks, cX7_lacks, 2, (some .int), 2, 2, false),
  (7, yX7_recall, cX7_recall, 2, (some .int), 2, 2, false),
  (7, yX7_lot, cX7_lot, 3, (some .int), 2, 3, false),
  (7, yX7_batch, cX7_batch, 3, (some .int), 2, 3, false),
  (7, yX7_of, cX7_of, 3, (some .int), 2, 3, false),
  (7, yX7_cooker, cX7_cooker, 3, (some .int), 1, 3, false),
  (7, yX7_told, cX7_told, 3, (some .int), 2, 3, false),
  (7, yX7_count, cX7_count, 2, (some .int), 2, 2, false),
  (7, yX7_canPack, cX7_canPack, 4, (some .boolean), 2, 4, false),
  (7, yX7_passHour, cX7_passHour, 1, none, 3, 1, false),
  (7, yX7_finishCharges, cX7_finishCharges, 3, none, 2, 1, false),
  (7, yX7_within, cX7_within, 3, (some .boolean), 0, 3, true),
  (7, yX7_bit, cX7_bit, 1, (some .int), 0, 1, true),
  (7, yX7_putInOrder, cX7_putInOrder, 4, none, 0, 3, true),
  (8, yX8_in, cX8_in, 3, (some .boolean), 0, 3, true),
  (8, yX8_isLot, cX8_isLot, 2, (some .boolean), 1, 2, false),
  (8, yX8_freshTill, cX8_freshTill, 2, (some .int), 0, 2, false),
  (8, yX8_isFresh, cX8_isFresh, 2, (some .boolean), 1, 2, false),
  (8, yX8_land, cX8_land, 4, (some .int), 1, 4, false),
  (8, yX8_ice, cX8_ice, 2, (some .int), 1, 2, false),
  (8, yX8_iced, cX8_iced, 2, (some .boolean), 2, 2, false),
  (8, yX8_isKindNumber, cX8_isKindNumber, 1, (some .boolean), 1, 1, true),
  (8, yX8_kind, cX8_kind, 4, (some .boolean), 2, 4, false),
  (8, yX8_isTold, cX8_isTold, 2, (some .boolean), 2, 2, false),
  (8, yX8_takes, cX8_takes, 3, (some .boolean), 0, 3, false),
  (8, yX8_fishOf, cX8_fishOf, 2, (some .int), 0, 2, false),
  (8, yX8_sauceOf, cX8_sauceOf, 2, (some .int), 0, 2, false),
  (8, yX8_sauce, cX8_sauce, 3, (some .int), 1, 3, false),
  (8, yX8_call, cX8_call, 2, (some .int), 1, 2, false),
  (8, yX8_crewsThere, cX8_crewsThere, 3, (some .int), 1, 1, false),
  (8, yX8_charges, cX8_charges, 3, (some .int), 0, 1, false),
  (8, yX8_first, cX8_first, 4, (some .int), 2, 2, false),
  (8, yX8_there, cX8_there, 4, (some .int), 2, 2, false),
  (8, yX8_pack, cX8_pack, 8, (some .int), 3, 4, false),
  (8, yX8_kilogramsIn, cX8_kilogramsIn, 4, (some .int), 0, 2, false),
  (8, yX8_fail, cX8_fail, 3, (some .int), 1, 2, false),
  (8, yX8_done, cX8_done, 4, none, 0, 2, false),
  (8, yX8_go, cX8_go, 3, (some .int), 2, 2, false),
  (8, yX8_hour, cX8_hour, 2, none, 1, 1, false),
  (8, yX8_canBe, cX8_canBe, 4, (some .boolean), 1, 1, false),
  (8, yX8_plans, cX8_plans, 6, none, 2, 1, false),
  (8, yX8_plan, cX8_plan, 2, (some .int), 3, 2, false),
  (8, yX8_worth, cX8_worth, 1, (some .int), 3, 1, false),
  (8, yX8_worthOf, cX8_worthOf, 4, (some .int), 0, 2, false),
  (8, yX8_casesThere, cX8_casesThere, 4, (some .int), 0, 2, false),
  (8, yX8_sell, cX8_sell, 9, (some .int), 3, 4, false),
  (8, yX8_contract, cX8_contract, 5, (some .int), 3, 5, false),
  (8, yX8_lacks, cX8_lacks, 6, (some .int), 1, 2, false),
  (8, yX8_recall, cX8_recall, 4, (some .int), 2, 2, false),
  (8, yX8_lot, cX8_lot, 3, (some .int), 2, 3, false),
  (8, yX8_batch, cX8_batch, 3, (some .int), 1, 3, false),
  (8, yX8_of, cX8_of, 3, (some .int), 2, 3, false),
  (8, yX8_cooker, cX8_cooker, 4, (some .int), 1, 3, false),
  (8, yX8_told, cX8_told, 3, (some .int), 1, 3, false),
  (8, yX8_count, cX8_count, 4, (some .int), 2, 2, false),
  (6, yX6_search, cX6_search, 8, none, 6, 4, true),
  (6, yX6_search, cX6_search, 8, none, 5, 4, true),
  (6, yX6_search, cX6_search, 8, none, 4, 4, true),
  (6, yX6_search, cX6_search, 8, none, 3, 4, true),
  (6, yX6_search, cX6_search, 8, none, 2, 4, true)]
def mm_m (k : Nat) : mm_Row := (mm_MT[k]?).getD (0, yX0_has, cX0_has, 2, (some .boolean), 1, 2, false)
def mm_MOK (r : mm_Row) : Prop := Cond.code r.2.1 r.2.2.1 r.2.2.2.1 r.2.2.2.2.1 ∈ mm_GW ∧ Cond.initialized r.2.1.cls ∈ mm_GW ∧ (r.2.2.2.2.2.2.2 = true → Cond.static r.2.1 ∈ mm_GW) ∧ (r.2.2.2.2.2.2.2 = false → Cond.instanceMethod r.2.1 ∈ mm_GW ∧ Cond.selects r.2.1.cls r.2.1 r.2.1 ∈ mm_GW ∧ 1 ≤ r.2.2.2.2.2.2.1) ∧ r.2.1.cls = mm_R r.1 ∧ plainName r.2.1.cls = true ∧ (r.2.1.cls ≠ "java/lang/invoke/MethodHandle" ∧ r.2.1.cls ≠ "java/lang/invoke/VarHandle" ∧ (parseMethodDescriptor r.2.1.desc).map (fun d => d.parameters.length) = some (r.2.2.2.2.2.2.1 - (if r.2.2.2.2.2.2.2 then 0 else 1))) ∧ r.2.2.2.2.2.2.1 ≤ r.2.2.2.1 ∧ r.1 < 9 ∧ r.2.2.2.1 ≤ 20 ∧ (r.2.2.2.2.1 = none ∨ r.2.2.2.2.1 = some .int ∨ r.2.2.2.2.1 = some .boolean)
set_option maxRecDepth 20000 in
theorem mo_0 : mm_MOK (0, yX0_has, cX0_has, 2, (some .boolean), 1, 2, false) := ⟨mm_gw 590 rfl rfl, mm_gw 31 rfl rfl, (fun h => by cases h), (fun _ => ⟨mm_gw 588 rfl rfl, mm_gw 589 rfl rfl, by decide⟩), rfl, by decide +kernel, ⟨by decide +kernel, by decide +kernel, by decide +kernel⟩, by decide, by decide, by decide, Or.inr (Or.inr rfl)⟩
set_option maxRecDepth 20000 in
theorem mo_1 : mm_MOK (0, yX0_add, cX0_add, 4, (some .int), 1, 3, false) := ⟨mm_gw 467 rfl rfl, mm_gw 31 rfl rfl, (fun h => by cases h), (fun _ => ⟨mm_gw 465 rfl rfl, mm_gw 466 rfl rfl, by decide⟩), rfl, by decide +kernel, ⟨by decide +kernel, by decide +kernel, by decide +kernel⟩, by decide, by decide, by decide, Or.inr (Or.inl rfl)⟩
set_option maxRecDepth 20000 in
theorem mo_2 : mm_MOK (0, yX0_isForSale, cX0_isForSale, 3, (some .boolean), 0, 3, false) := ⟨mm_gw 529 rfl rfl, mm_gw 31 rfl rfl, (fun h => by cases h), (fun _ => ⟨mm_gw 527 rfl rfl, mm_gw 528 rfl rfl, by decide⟩), rfl, by decide +kernel, ⟨by decide +kernel, by decide +kernel, by decide +kernel⟩, by decide, by decide, by decide, Or.inr (Or.inr rfl)⟩
set_option maxRecDepth 20000 in
theorem mo_3 : mm_MOK (0, yX0_stock, cX0_stock, 4, (some .int), 1, 2, false) := ⟨mm_gw 525 rfl rfl, mm_gw 31 rfl rfl, (fun h => by cases h), (fun _ => ⟨mm_gw 523 rfl rfl, mm_gw 524 rfl rfl, by decide⟩), rfl, by decide +kernel, ⟨by decide +kernel, by decide +kernel, by decide +kernel⟩, by decide, by decide, by decide, Or.inr (Or.inl rfl)⟩
set_option maxRecDepth 20000 in
theorem mo_4 : mm_MOK (0, yX0_caseWorth, cX0_caseWorth, 5, (some .int), 1, 4, false) := ⟨mm_gw 538 rfl rfl, mm_gw 31 rfl rfl, (fun h => by cases h), (fun _ => ⟨mm_gw 536 rfl rfl, mm_gw 537 rfl rfl, by decide⟩), rfl, by decide +kernel, ⟨by decide +kernel, by decide +kernel, by decide +kernel⟩, by decide, by decide, by decide, Or.inr (Or.inl rfl)⟩
set_option maxRecDepth 20000 in
theorem mo_5 : mm_MOK (0, yX0_deliver, cX0_deliver, 10, (some .int), 2, 6, false) := ⟨mm_gw 533 rfl rfl, mm_gw 31 rfl rfl, (fun h => by cases h), (fun _ => ⟨mm_gw 531 rfl rfl, mm_gw 532 rfl rfl, by decide⟩), rfl, by decide +kernel, ⟨by decide +kernel, by decide +kernel, by decide +kernel⟩, by decide, by decide, by decide, Or.inr (Or.inl rfl)⟩
set_option maxRecDepth 20000 in
theorem mo_6 : mm_MOK (0, yX0_bar, cX0_bar, 4, (some .int), 0, 2, false) := ⟨mm_gw 576 rfl rfl, mm_gw 31 rfl rfl, (fun h => by cases h), (fun _ => ⟨mm_gw 574 rfl rfl, mm_gw 575 rfl rfl, by decide⟩), rfl, by decide +kernel, ⟨by decide +kernel, by decide +kernel, by decide +kernel⟩, by decide, by decide, by decide, Or.inr (Or.inl rfl)⟩
set_option maxRecDepth 20000 in
theorem mo_7 : mm_MOK (1, yX1_has, cX1_has, 2, (some .boolean), 1, 2, false) := ⟨mm_gw 560 rfl rfl, mm_gw 32 rfl rfl, (fun h => by cases h), (fun _ => ⟨mm_gw 558 rfl rfl, mm_gw 559 rfl rfl, by decide⟩), rfl, by decide +kernel, ⟨by decide +kernel, by decide +kernel, by decide +kernel⟩, by decide, by decide, by decide, Or.inr (Or.inr rfl)⟩
set_option maxRecDepth 20000 in
theorem mo_8 : mm_MOK (1, yX1_add, cX1_add, 6, (some .int), 1, 5, false) := ⟨mm_gw 551 rfl rfl, mm_gw 32 rfl rfl, (fun h => by cases h), (fun _ => ⟨mm_gw 549 rfl rfl, mm_gw 550 rfl rfl, by decide⟩), rfl, by decide +kernel, ⟨by decide +kernel, by decide +kernel, by decide +kernel⟩, by decide, by decide, by decide, Or.inr (Or.inl rfl)⟩
set_option maxRecDepth 20000 in
theorem mo_9 : mm_MOK (1, yX1_serve, cX1_serve, 8, none, 1, 4, false) := ⟨mm_gw 542 rfl rfl, mm_gw 32 rfl rfl, (fun h => by cases h), (fun _ => ⟨mm_gw 540 rfl rfl, mm_gw 541 rfl rfl, by decide⟩), rfl, by decide +kernel, ⟨by decide +kernel, by decide +kernel, by decide +kernel⟩, by decide, by decide, by decide, Or.inl rfl⟩
set_option maxRecDepth 20000 in
theorem mo_10 : mm_MOK (1, yX1_shortOf, cX1_shortOf, 6, (some .int), 1, 3, false) := ⟨mm_gw 565 rfl rfl, mm_gw 32 rfl rfl, (fun h => by cases h), (fun _ => ⟨mm_gw 563 rfl rfl, mm_gw 564 rfl rfl, by decide⟩), rfl, by decide +kernel, ⟨by decide +kernel, by decide +kernel, by decide +kernel⟩, by decide, by decide, by decide, Or.inr (Or.inl rfl)⟩
set_option maxRecDepth 20000 in
theorem mo_11 : mm_MOK (1, yX1_close, cX1_close, 5, (some .int), 0, 3, false) := ⟨mm_gw 483 rfl rfl, mm_gw 32 rfl rfl, (fun h => by cases h), (fun _ => ⟨mm_gw 481 rfl rfl, mm_gw 482 rfl rfl, by decide⟩), rfl, by decide +kernel, ⟨by decide +kernel, by decide +kernel, by decide +kernel⟩, by decide, by decide, by decide, Or.inr (Or.inl rfl)⟩
set_option maxRecDepth 20000 in
theorem mo_12 : mm_MOK (2, yX2_isFree, cX2_isFree, 2, (some .boolean), 0, 2, false) := ⟨mm_gw 409 rfl rfl, mm_gw 30 rfl rfl, (fun h => by cases h), (fun _ => ⟨mm_gw 407 rfl rfl, mm_gw 408 rfl rfl, by decide⟩), rfl, by decide +kernel, ⟨by decide +kernel, by decide +kernel, by decide +kernel⟩, by decide, by decide, by decide, Or.inr (Or.inr rfl)⟩
set_option maxRecDepth 20000 in
theorem mo_13 : mm_MOK (2, yX2_charges, cX2_charges, 3, (some .int), 1, 1, false) := ⟨mm_gw 417 rfl rfl, mm_gw 30 rfl rfl, (fun h => by cases h), (fun _ => ⟨mm_gw 415 rfl rfl, mm_gw 416 rfl rfl, by decide⟩), rfl, by decide +kernel, ⟨by decide +kernel, by decide +kernel, by decide +kernel⟩, by decide, by decide, by decide, Or.inr (Or.inl rfl)⟩
set_option maxRecDepth 20000 in
theorem mo_14 : mm_MOK (2, yX2_allKilograms, cX2_allKilograms, 3, (some .int), 0, 1, false) := ⟨mm_gw 616 rfl rfl, mm_gw 30 rfl rfl, (fun h => by cases h), (fun _ => ⟨mm_gw 614 rfl rfl, mm_gw 615 rfl rfl, by decide⟩), rfl, by decide +kernel, ⟨by decide +kernel, by decide +kernel, by decide +kernel⟩, by decide, by decide, by decide, Or.inr (Or.inl rfl)⟩
set_option maxRecDepth 20000 in
theorem mo_15 : mm_MOK (2, yX2_fill, cX2_fill, 6, none, 0, 6, false) := ⟨mm_gw 147 rfl rfl, mm_gw 30 rfl rfl, (fun h => by cases h), (fun _ => ⟨mm_gw 145 rfl rfl, mm_gw 146 rfl rfl, by decide⟩), rfl, by decide +kernel, ⟨by decide +kernel, by decide +kernel, by decide +kernel⟩, by decide, by decide, by decide, Or.inl rfl⟩
set_option maxRecDepth 20000 in
theorem mo_16 : mm_MOK (2, yX2_empty, cX2_empty, 3, none, 1, 2, false) := ⟨mm_gw 143 rfl rfl, mm_gw 30 rfl rfl, (fun h => by cases h), (fun _ => ⟨mm_gw 141 rfl rfl, mm_gw 142 rfl rfl, by decide⟩), rfl, by decide +kernel, ⟨by decide +kernel, by decide +kernel, by decide +kernel⟩, by decide, by decide, by decide, Or.inl rfl⟩
set_option maxRecDepth 20000 in
theorem mo_17 : mm_MOK (3, yX3_isGone, cX3_isGone, 3, (some .boolean), 0, 3, false) := ⟨mm_gw 401 rfl rfl, mm_gw 29 rfl rfl, (fun h => by cases h), (fun _ => ⟨mm_gw 399 rfl rfl, mm_gw 400 rfl rfl, by decide⟩), rfl, by decide +kernel, ⟨by decide +kernel, by decide +kernel, by decide +kernel⟩, by decide, by decide, by decide, Or.inr (Or.inr rfl)⟩
set_option maxRecDepth 20000 in
theorem mo_18 : mm_MOK (3, yX3_there, cX3_there, 4, (some .int), 1, 2, false) := ⟨mm_gw 437 rfl rfl, mm_gw 29 rfl rfl, (fun h => by cases h), (fun _ => ⟨mm_gw 435 rfl rfl, mm_gw 436 rfl rfl, by decide⟩), rfl, by decide +kernel, ⟨by decide +kernel, by decide +kernel, by decide +kernel⟩, by decide, by decide, by decide, Or.inr (Or.inl rfl)⟩
set_option maxRecDepth 20000 in
theorem mo_19 : mm_MOK (4, yX4_canBe, cX4_canBe, 1, (some .boolean), 1, 1, true) := ⟨mm_gw 372 rfl rfl, mm_gw 28 rfl rfl, (fun _ => mm_gw 371 rfl rfl), (fun h => by cases h), rfl, by decide +kernel, ⟨by decide +kernel, by decide +kernel, by decide +kernel⟩, by decide, by decide, by decide, Or.inr (Or.inr rfl)⟩
set_option maxRecDepth 20000 in
theorem mo_20 : mm_MOK (4, yX4_takesOf, cX4_takesOf, 1, (some .int), 0, 1, true) := ⟨mm_gw 375 rfl rfl, mm_gw 28 rfl rfl, (fun _ => mm_gw 374 rfl rfl), (fun h => by cases h), rfl, by decide +kernel, ⟨by decide +kernel, by decide +kernel, by decide +kernel⟩, by decide, by decide, by decide, Or.inr (Or.inl rfl)⟩
set_option maxRecDepth 20000 in
theorem mo_21 : mm_MOK (4, yX4_sauceOf, cX4_sauceOf, 1, (some .int), 0, 1, true) := ⟨mm_gw 379 rfl rfl, mm_gw 28 rfl rfl, (fun _ => mm_gw 378 rfl rfl), (fun h => by cases h), rfl, by decide +kernel, ⟨by decide +kernel, by decide +kernel, by decide +kernel⟩, by decide, by decide, by decide, Or.inr (Or.inl rfl)⟩
set_option maxRecDepth 20000 in
theorem mo_22 : mm_MOK (4, yX4_fishOf, cX4_fishOf, 1, (some .int), 0, 1, true) := ⟨mm_gw 382 rfl rfl, mm_gw 28 rfl rfl, (fun _ => mm_gw 381 rfl rfl), (fun h => by cases h), rfl, by decide +kernel, ⟨by decide +kernel, by decide +kernel, by decide +kernel⟩, by decide, by decide, by decide, Or.inr (Or.inl rfl)⟩
set_option maxRecDepth 20000 in
theorem mo_23 : mm_MOK (4, yX4_hoursOf, cX4_hoursOf, 1, (some .int), 0, 1, true) := ⟨mm_gw 385 rfl rfl, mm_gw 28 rfl rfl, (fun _ => mm_gw 384 rfl rfl), (fun h => by cases h), rfl, by decide +kernel, ⟨by decide +kernel, by decide +kernel, by decide +kernel⟩, by decide, by decide, by decide, Or.inr (Or.inl rfl)⟩
set_option maxRecDepth 20000 in
theorem mo_24 : mm_MOK (4, yX4_has, cX4_has, 2, (some .boolean), 1, 2, false) := ⟨mm_gw 413 rfl rfl, mm_gw 28 rfl rfl, (fun h => by cases h), (fun _ => ⟨mm_gw 411 rfl rfl, mm_gw 412 rfl rfl, by decide⟩), rfl, by decide +kernel, ⟨by decide +kernel, by decide +kernel, by decide +kernel⟩, by decide, by decide, by decide, Or.inr (Or.inr rfl)⟩
set_option maxRecDepth 20000 in
theorem mo_25 : mm_MOK (4, yX4_add, cX4_add, 4, none, 1, 4, false) := ⟨mm_gw 389 rfl rfl, mm_gw 28 rfl rfl, (fun h => by cases h), (fun _ => ⟨mm_gw 387 rfl rfl, mm_gw 388 rfl rfl, by decide⟩), rfl, by decide +kernel, ⟨by decide +kernel, by decide +kernel, by decide +kernel⟩, by decide, by decide, by decide, Or.inl rfl⟩
set_option maxRecDepth 20000 in
theorem mo_26 : mm_MOK (5, yX5_has, cX5_has, 2, (some .boolean), 1, 2, false) := ⟨mm_gw 356 rfl rfl, mm_gw 27 rfl rfl, (fun h => by cases h), (fun _ => ⟨mm_gw 354 rfl rfl, mm_gw 355 rfl rfl, by decide⟩), rfl, by decide +kernel, ⟨by decide +kernel, by decide +kernel, by decide +kernel⟩, by decide, by decide, by decide, Or.inr (Or.inr rfl)⟩
set_option maxRecDepth 20000 in
theorem mo_27 : mm_MOK (5, yX5_add, cX5_add, 5, (some .int), 1, 4, false) := ⟨mm_gw 339 rfl rfl, mm_gw 27 rfl rfl, (fun h => by cases h), (fun _ => ⟨mm_gw 337 rfl rfl, mm_gw 338 rfl rfl, by decide⟩), rfl, by decide +kernel, ⟨by decide +kernel, by decide +kernel, by decide +kernel⟩, by decide, by decide, by decide, Or.inr (Or.inl rfl)⟩
set_option maxRecDepth 20000 in
theorem mo_28 : mm_MOK (5, yX5_staleHour, cX5_staleHour, 2, (some .int), 0, 2, false) := ⟨mm_gw 365 rfl rfl, mm_gw 27 rfl rfl, (fun h => by cases h), (fun _ => ⟨mm_gw 363 rfl rfl, mm_gw 364 rfl rfl, by decide⟩), rfl, by decide +kernel, ⟨by decide +kernel, by decide +kernel, by decide +kernel⟩, by decide, by decide, by decide, Or.inr (Or.inl rfl)⟩
set_option maxRecDepth 20000 in
theorem mo_29 : mm_MOK (5, yX5_isFresh, cX5_isFresh, 3, (some .boolean), 1, 3, false) := ⟨mm_gw 361 rfl rfl, mm_gw 27 rfl rfl, (fun h => by cases h), (fun _ => ⟨mm_gw 359 rfl rfl, mm_gw 360 rfl rfl, by decide⟩), rfl, by decide +kernel, ⟨by decide +kernel, by decide +kernel, by decide +kernel⟩, by decide, by decide, by decide, Or.inr (Or.inr rfl)⟩
set_option maxRecDepth 20000 in
theorem mo_30 : mm_MOK (5, yX5_kilograms, cX5_kilograms, 3, (some .int), 0, 1, false) := ⟨mm_gw 612 rfl rfl, mm_gw 27 rfl rfl, (fun h => by cases h), (fun _ => ⟨mm_gw 610 rfl rfl, mm_gw 611 rfl rfl, by decide⟩), rfl, by decide +kernel, ⟨by decide +kernel, by decide +kernel, by decide +kernel⟩, by decide, by decide, by decide, Or.inr (Or.inl rfl)⟩
set_option maxRecDepth 20000 in
theorem mo_31 : mm_MOK (5, yX5_isUsable, cX5_isUsable, 3, (some .boolean), 0, 3, false) := ⟨mm_gw 433 rfl rfl, mm_gw 27 rfl rfl, (fun h => by cases h), (fun _ => ⟨mm_gw 431 rfl rfl, mm_gw 432 rfl rfl, by decide⟩), rfl, by decide +kernel, ⟨by decide +kernel, by decide +kernel, by decide +kernel⟩, by decide, by decide, by decide, Or.inr (Or.inr rfl)⟩
set_option maxRecDepth 20000 in
theorem mo_32 : mm_MOK (5, yX5_usable, cX5_usable, 4, (some .int), 1, 2, false) := ⟨mm_gw 429 rfl rfl, mm_gw 27 rfl rfl, (fun h => by cases h), (fun _ => ⟨mm_gw 427 rfl rfl, mm_gw 428 rfl rfl, by decide⟩), rfl, by decide +kernel, ⟨by decide +kernel, by decide +kernel, by decide +kernel⟩, by decide, by decide, by decide, Or.inr (Or.inl rfl)⟩
set_option maxRecDepth 20000 in
theorem mo_33 : mm_MOK (5, yX5_take, cX5_take, 9, none, 1, 5, false) := ⟨mm_gw 443 rfl rfl, mm_gw 27 rfl rfl, (fun h => by cases h), (fun _ => ⟨mm_gw 441 rfl rfl, mm_gw 442 rfl rfl, by decide⟩), rfl, by decide +kernel, ⟨by decide +kernel, by decide +kernel, by decide +kernel⟩, by decide, by decide, by decide, Or.inl rfl⟩
set_option maxRecDepth 20000 in
theorem mo_34 : mm_MOK (5, yX5_anyRecalled, cX5_anyRecalled, 4, (some .boolean), 0, 3, false) := ⟨mm_gw 474 rfl rfl, mm_gw 27 rfl rfl, (fun h => by cases h), (fun _ => ⟨mm_gw 472 rfl rfl, mm_gw 473 rfl rfl, by decide⟩), rfl, by decide +kernel, ⟨by decide +kernel, by decide +kernel, by decide +kernel⟩, by decide, by decide, by decide, Or.inr (Or.inr rfl)⟩
set_option maxRecDepth 20000 in
theorem mo_35 : mm_MOK (5, yX5_spoil, cX5_spoil, 4, (some .int), 2, 2, false) := ⟨mm_gw 478 rfl rfl, mm_gw 27 rfl rfl, (fun h => by cases h), (fun _ => ⟨mm_gw 476 rfl rfl, mm_gw 477 rfl rfl, by decide⟩), rfl, by decide +kernel, ⟨by decide +kernel, by decide +kernel, by decide +kernel⟩, by decide, by decide, by decide, Or.inr (Or.inl rfl)⟩
set_option maxRecDepth 20000 in
theorem mo_36 : mm_MOK (6, yX6_update, cX6_update, 7, none, 7, 4, false) := ⟨mm_gw 491 rfl rfl, mm_gw 33 rfl rfl, (fun h => by cases h), (fun _ => ⟨mm_gw 489 rfl rfl, mm_gw 490 rfl rfl, by decide⟩), rfl, by decide +kernel, ⟨by decide +kernel, by decide +kernel, by decide +kernel⟩, by decide, by decide, by decide, Or.inl rfl⟩
set_option maxRecDepth 20000 in
theorem mo_37 : mm_MOK (6, yX6_prepare, cX6_prepare, 4, none, 2, 2, false) := ⟨mm_gw 496 rfl rfl, mm_gw 33 rfl rfl, (fun h => by cases h), (fun _ => ⟨mm_gw 495 rfl rfl, mm_gw 3 rfl rfl, by decide⟩), rfl, by decide +kernel, ⟨by decide +kernel, by decide +kernel, by decide +kernel⟩, by decide, by decide, by decide, Or.inl rfl⟩
set_option maxRecDepth 20000 in
theorem mo_38 : mm_MOK (6, yX6_keepTried, cX6_keepTried, 2, none, 1, 2, false) := ⟨mm_gw 508 rfl rfl, mm_gw 33 rfl rfl, (fun h => by cases h), (fun _ => ⟨mm_gw 507 rfl rfl, mm_gw 5 rfl rfl, by decide⟩), rfl, by decide +kernel, ⟨by decide +kernel, by decide +kernel, by decide +kernel⟩, by decide, by decide, by decide, Or.inl rfl⟩
set_option maxRecDepth 20000 in
theorem mo_39 : mm_MOK (6, yX6_mostCases, cX6_mostCases, 7, (some .int), 1, 3, false) := ⟨mm_gw 500 rfl rfl, mm_gw 33 rfl rfl, (fun h => by cases h), (fun _ => ⟨mm_gw 499 rfl rfl, mm_gw 4 rfl rfl, by decide⟩), rfl, by decide +kernel, ⟨by decide +kernel, by decide +kernel, by decide +kernel⟩, by decide, by decide, by decide, Or.inr (Or.inl rfl)⟩
set_option maxRecDepth 20000 in
theorem mo_40 : mm_MOK (6, yX6_use, cX6_use, 6, none, 0, 4, false) := ⟨mm_gw 513 rfl rfl, mm_gw 33 rfl rfl, (fun h => by cases h), (fun _ => ⟨mm_gw 512 rfl rfl, mm_gw 6 rfl rfl, by decide⟩), rfl, by decide +kernel, ⟨by decide +kernel, by decide +kernel, by decide +kernel⟩, by decide, by decide, by decide, Or.inl rfl⟩
set_option maxRecDepth 20000 in
theorem mo_41 : mm_MOK (7, yX7_land, cX7_land, 4, (some .int), 2, 4, false) := ⟨mm_gw 332 rfl rfl, mm_gw 26 rfl rfl, (fun h => by cases h), (fun _ => ⟨mm_gw 330 rfl rfl, mm_gw 331 rfl rfl, by decide⟩), rfl, by decide +kernel, ⟨by decide +kernel, by decide +kernel, by decide +kernel⟩, by decide, by decide, by decide, Or.inr (Or.inl rfl)⟩
set_option maxRecDepth 20000 in
theorem mo_42 : mm_MOK (7, yX7_ice, cX7_ice, 2, (some .int), 1, 2, false) := ⟨mm_gw 346 rfl rfl, mm_gw 26 rfl rfl, (fun h => by cases h), (fun _ => ⟨mm_gw 344 rfl rfl, mm_gw 345 rfl rfl, by decide⟩), rfl, by decide +kernel, ⟨by decide +kernel, by decide +kernel, by decide +kernel⟩, by decide, by decide, by decide, Or.inr (Or.inl rfl)⟩
set_option maxRecDepth 20000 in
theorem mo_43 : mm_MOK (7, yX7_iced, cX7_iced, 2, (some .boolean), 2, 2, false) := ⟨mm_gw 352 rfl rfl, mm_gw 26 rfl rfl, (fun h => by cases h), (fun _ => ⟨mm_gw 350 rfl rfl, mm_gw 351 rfl rfl, by decide⟩), rfl, by decide +kernel, ⟨by decide +kernel, by decide +kernel, by decide +kernel⟩, by decide, by decide, by decide, Or.inr (Or.inr rfl)⟩
set_option maxRecDepth 20000 in
theorem mo_44 : mm_MOK (7, yX7_kind, cX7_kind, 4, (some .boolean), 2, 4, false) := ⟨mm_gw 369 rfl rfl, mm_gw 26 rfl rfl, (fun h => by cases h), (fun _ => ⟨mm_gw 367 rfl rfl, mm_gw 368 rfl rfl, by decide⟩), rfl, by decide +kernel, ⟨by decide +kernel, by decide +kernel, by decide +kernel⟩, by decide, by decide, by decide, Or.inr (Or.inr rfl)⟩
set_option maxRecDepth 20000 in
theorem mo_45 : mm_MOK (7, yX7_sauce, cX7_sauce, 3, (some .int), 1, 3, false) := ⟨mm_gw 393 rfl rfl, mm_gw 26 rfl rfl, (fun h => by cases h), (fun _ => ⟨mm_gw 391 rfl rfl, mm_gw 392 rfl rfl, by decide⟩), rfl, by decide +kernel, ⟨by decide +kernel, by decide +kernel, by decide +kernel⟩, by decide, by decide, by decide, Or.inr (Or.inl rfl)⟩
set_option maxRecDepth 20000 in
theorem mo_46 : mm_MOK (7, yX7_call, cX7_call, 2, (some .int), 1, 2, false) := ⟨mm_gw 397 rfl rfl, mm_gw 26 rfl rfl, (fun h => by cases h), (fun _ => ⟨mm_gw 395 rfl rfl, mm_gw 396 rfl rfl, by decide⟩), rfl, by decide +kernel, ⟨by decide +kernel, by decide +kernel, by decide +kernel⟩, by decide, by decide, by decide, Or.inr (Or.inl rfl)⟩
set_option maxRecDepth 20000 in
theorem mo_47 : mm_MOK (7, yX7_pack, cX7_pack, 5, (some .int), 3, 4, false) := ⟨mm_gw 405 rfl rfl, mm_gw 26 rfl rfl, (fun h => by cases h), (fun _ => ⟨mm_gw 403 rfl rfl, mm_gw 404 rfl rfl, by decide⟩), rfl, by decide +kernel, ⟨by decide +kernel, by decide +kernel, by decide +kernel⟩, by decide, by decide, by decide, Or.inr (Or.inl rfl)⟩
set_option maxRecDepth 20000 in
theorem mo_48 : mm_MOK (7, yX7_fail, cX7_fail, 3, (some .int), 2, 2, false) := ⟨mm_gw 450 rfl rfl, mm_gw 26 rfl rfl, (fun h => by cases h), (fun _ => ⟨mm_gw 448 rfl rfl, mm_gw 449 rfl rfl, by decide⟩), rfl, by decide +kernel, ⟨by decide +kernel, by decide +kernel, by decide +kernel⟩, by decide, by decide, by decide, Or.inr (Or.inl rfl)⟩
set_option maxRecDepth 20000 in
theorem mo_49 : mm_MOK (7, yX7_go, cX7_go, 3, (some .int), 4, 2, false) := ⟨mm_gw 455 rfl rfl, mm_gw 26 rfl rfl, (fun h => by cases h), (fun _ => ⟨mm_gw 453 rfl rfl, mm_gw 454 rfl rfl, by decide⟩), rfl, by decide +kernel, ⟨by decide +kernel, by decide +kernel, by decide +kernel⟩, by decide, by decide, by decide, Or.inr (Or.inl rfl)⟩
set_option maxRecDepth 20000 in
theorem mo_50 : mm_MOK (7, yX7_plan, cX7_plan, 2, (some .int), 8, 2, false) := ⟨mm_gw 487 rfl rfl, mm_gw 26 rfl rfl, (fun h => by cases h), (fun _ => ⟨mm_gw 485 rfl rfl, mm_gw 486 rfl rfl, by decide⟩), rfl, by decide +kernel, ⟨by decide +kernel, by decide +kernel, by decide +kernel⟩, by decide, by decide, by decide, Or.inr (Or.inl rfl)⟩
set_option maxRecDepth 20000 in
theorem mo_51 : mm_MOK (7, yX7_worth, cX7_worth, 1, (some .int), 8, 1, false) := ⟨mm_gw 517 rfl rfl, mm_gw 26 rfl rfl, (fun h => by cases h), (fun _ => ⟨mm_gw 515 rfl rfl, mm_gw 516 rfl rfl, by decide⟩), rfl, by decide +kernel, ⟨by decide +kernel, by decide +kernel, by decide +kernel⟩, by decide, by decide, by decide, Or.inr (Or.inl rfl)⟩
set_option maxRecDepth 20000 in
theorem mo_52 : mm_MOK (7, yX7_sell, cX7_sell, 5, (some .int), 3, 4, false) := ⟨mm_gw 521 rfl rfl, mm_gw 26 rfl rfl, (fun h => by cases h), (fun _ => ⟨mm_gw 519 rfl rfl, mm_gw 520 rfl rfl, by decide⟩), rfl, by decide +kernel, ⟨by decide +kernel, by decide +kernel, by decide +kernel⟩, by decide, by decide, by decide, Or.inr (Or.inl rfl)⟩
set_option maxRecDepth 20000 in
theorem mo_53 : mm_MOK (7, yX7_contract, cX7_contract, 5, (some .int), 2, 5, false) := ⟨mm_gw 547 rfl rfl, mm_gw 26 rfl rfl, (fun h => by cases h), (fun _ => ⟨mm_gw 545 rfl rfl, mm_gw 546 rfl rfl, by decide⟩), rfl, by decide +kernel, ⟨by decide +kernel, by decide +kernel, by decide +kernel⟩, by decide, by decide, by decide, Or.inr (Or.inl rfl)⟩
set_option maxRecDepth 20000 in
theorem mo_54 : mm_MOK (7, yX7_lacks, cX7_lacks, 2, (some .int), 2, 2, false) := ⟨mm_gw 556 rfl rfl, mm_gw 26 rfl rfl, (fun h => by cases h), (fun _ => ⟨mm_gw 554 rfl rfl, mm_gw 555 rfl rfl, by decide⟩), rfl, by decide +kernel, ⟨by decide +kernel, by decide +kernel, by decide +kernel⟩, by decide, by decide, by decide, Or.inr (Or.inl rfl)⟩
set_option maxRecDepth 20000 in
theorem mo_55 : mm_MOK (7, yX7_recall, cX7_recall, 2, (some .int), 2, 2, false) := ⟨mm_gw 572 rfl rfl, mm_gw 26 rfl rfl, (fun h => by cases h), (fun _ => ⟨mm_gw 570 rfl rfl, mm_gw 571 rfl rfl, by decide⟩), rfl, by decide +kernel, ⟨by decide +kernel, by decide +kernel, by decide +kernel⟩, by decide, by decide, by decide, Or.inr (Or.inl rfl)⟩
set_option maxRecDepth 20000 in
theorem mo_56 : mm_MOK (7, yX7_lot, cX7_lot, 3, (some .int), 2, 3, false) := ⟨mm_gw 580 rfl rfl, mm_gw 26 rfl rfl, (fun h => by cases h), (fun _ => ⟨mm_gw 578 rfl rfl, mm_gw 579 rfl rfl, by decide⟩), rfl, by decide +kernel, ⟨by decide +kernel, by decide +kernel, by decide +kernel⟩, by decide, by decide, by decide, Or.inr (Or.inl rfl)⟩
set_option maxRecDepth 20000 in
theorem mo_57 : mm_MOK (7, yX7_batch, cX7_batch, 3, (some .int), 2, 3, false) := ⟨mm_gw 586 rfl rfl, mm_gw 26 rfl rfl, (fun h => by cases h), (fun _ => ⟨mm_gw 584 rfl rfl, mm_gw 585 rfl rfl, by decide⟩), rfl, by decide +kernel, ⟨by decide +kernel, by decide +kernel, by decide +kernel⟩, by decide, by decide, by decide, Or.inr (Or.inl rfl)⟩
set_option maxRecDepth 20000 in
theorem mo_58 : mm_MOK (7, yX7_of, cX7_of, 3, (some .int), 2, 3, false) := ⟨mm_gw 596 rfl rfl, mm_gw 26 rfl rfl, (fun h => by cases h), (fun _ => ⟨mm_gw 594 rfl rfl, mm_gw 595 rfl rfl, by decide⟩), rfl, by decide +kernel, ⟨by decide +kernel, by decide +kernel, by decide +kernel⟩, by decide, by decide, by decide, Or.inr (Or.inl rfl)⟩
set_option maxRecDepth 20000 in
theorem mo_59 : mm_MOK (7, yX7_cooker, cX7_cooker, 3, (some .int), 1, 3, false) := ⟨mm_gw 600 rfl rfl, mm_gw 26 rfl rfl, (fun h => by cases h), (fun _ => ⟨mm_gw 598 rfl rfl, mm_gw 599 rfl rfl, by decide⟩), rfl, by decide +kernel, ⟨by decide +kernel, by decide +kernel, by decide +kernel⟩, by decide, by decide, by decide, Or.inr (Or.inl rfl)⟩
set_option maxRecDepth 20000 in
theorem mo_60 : mm_MOK (7, yX7_told, cX7_told, 3, (some .int), 2, 3, false) := ⟨mm_gw 604 rfl rfl, mm_gw 26 rfl rfl, (fun h => by cases h), (fun _ => ⟨mm_gw 602 rfl rfl, mm_gw 603 rfl rfl, by decide⟩), rfl, by decide +kernel, ⟨by decide +kernel, by decide +kernel, by decide +kernel⟩, by decide, by decide, by decide, Or.inr (Or.inl rfl)⟩
set_option maxRecDepth 20000 in
theorem mo_61 : mm_MOK (7, yX7_count, cX7_count, 2, (some .int), 2, 2, false) := ⟨mm_gw 608 rfl rfl, mm_gw 26 rfl rfl, (fun h => by cases h), (fun _ => ⟨mm_gw 606 rfl rfl, mm_gw 607 rfl rfl, by decide⟩), rfl, by decide +kernel, ⟨by decide +kernel, by decide +kernel, by decide +kernel⟩, by decide, by decide, by decide, Or.inr (Or.inl rfl)⟩
set_option maxRecDepth 20000 in
theorem mo_62 : mm_MOK (7, yX7_canPack, cX7_canPack, 4, (some .boolean), 2, 4, false) := ⟨mm_gw 425 rfl rfl, mm_gw 26 rfl rfl, (fun h => by cases h), (fun _ => ⟨mm_gw 424 rfl rfl, mm_gw 0 rfl rfl, by decide⟩), rfl, by decide +kernel, ⟨by decide +kernel, by decide +kernel, by decide +kernel⟩, by decide, by decide, by decide, Or.inr (Or.inr rfl)⟩
set_option maxRecDepth 20000 in
theorem mo_63 : mm_MOK (7, yX7_passHour, cX7_passHour, 1, none, 3, 1, false) := ⟨mm_gw 459 rfl rfl, mm_gw 26 rfl rfl, (fun h => by cases h), (fun _ => ⟨mm_gw 458 rfl rfl, mm_gw 1 rfl rfl, by decide⟩), rfl, by decide +kernel, ⟨by decide +kernel, by decide +kernel, by decide +kernel⟩, by decide, by decide, by decide, Or.inl rfl⟩
set_option maxRecDepth 20000 in
theorem mo_64 : mm_MOK (7, yX7_finishCharges, cX7_finishCharges, 3, none, 2, 1, false) := ⟨mm_gw 463 rfl rfl, mm_gw 26 rfl rfl, (fun h => by cases h), (fun _ => ⟨mm_gw 462 rfl rfl, mm_gw 2 rfl rfl, by decide⟩), rfl, by decide +kernel, ⟨by decide +kernel, by decide +kernel, by decide +kernel⟩, by decide, by decide, by decide, Or.inl rfl⟩
set_option maxRecDepth 20000 in
theorem mo_65 : mm_MOK (7, yX7_within, cX7_within, 3, (some .boolean), 0, 3, true) := ⟨mm_gw 335 rfl rfl, mm_gw 26 rfl rfl, (fun _ => mm_gw 334 rfl rfl), (fun h => by cases h), rfl, by decide +kernel, ⟨by decide +kernel, by decide +kernel, by decide +kernel⟩, by decide, by decide, by decide, Or.inr (Or.inr rfl)⟩
set_option maxRecDepth 20000 in
theorem mo_66 : mm_MOK (7, yX7_bit, cX7_bit, 1, (some .int), 0, 1, true) := ⟨mm_gw 421 rfl rfl, mm_gw 26 rfl rfl, (fun _ => mm_gw 420 rfl rfl), (fun h => by cases h), rfl, by decide +kernel, ⟨by decide +kernel, by decide +kernel, by decide +kernel⟩, by decide, by decide, by decide, Or.inr (Or.inl rfl)⟩
set_option maxRecDepth 20000 in
theorem mo_67 : mm_MOK (7, yX7_putInOrder, cX7_putInOrder, 4, none, 0, 3, true) := ⟨mm_gw 342 rfl rfl, mm_gw 26 rfl rfl, (fun _ => mm_gw 341 rfl rfl), (fun h => by cases h), rfl, by decide +kernel, ⟨by decide +kernel, by decide +kernel, by decide +kernel⟩, by decide, by decide, by decide, Or.inl rfl⟩
set_option maxRecDepth 20000 in
theorem mo_68 : mm_MOK (8, yX8_in, cX8_in, 3, (some .boolean), 0, 3, true) := ⟨mm_gw 747 rfl rfl, mm_gw 34 rfl rfl, (fun _ => mm_gw 746 rfl rfl), (fun h => by cases h), rfl, by decide +kernel, ⟨by decide +kernel, by decide +kernel, by decide +kernel⟩, by decide, by decide, by decide, Or.inr (Or.inr rfl)⟩
set_option maxRecDepth 20000 in
theorem mo_69 : mm_MOK (8, yX8_isLot, cX8_isLot, 2, (some .boolean), 1, 2, false) := ⟨mm_gw 761 rfl rfl, mm_gw 34 rfl rfl, (fun h => by cases h), (fun _ => ⟨mm_gw 760 rfl rfl, mm_gw 7 rfl rfl, by decide⟩), rfl, by decide +kernel, ⟨by decide +kernel, by decide +kernel, by decide +kernel⟩, by decide, by decide, by decide, Or.inr (Or.inr rfl)⟩
set_option maxRecDepth 20000 in
theorem mo_70 : mm_MOK (8, yX8_freshTill, cX8_freshTill, 2, (some .int), 0, 2, false) := ⟨mm_gw 769 rfl rfl, mm_gw 34 rfl rfl, (fun h => by cases h), (fun _ => ⟨mm_gw 768 rfl rfl, mm_gw 9 rfl rfl, by decide⟩), rfl, by decide +kernel, ⟨by decide +kernel, by decide +kernel, by decide +kernel⟩, by decide, by decide, by decide, Or.inr (Or.inl rfl)⟩
set_option maxRecDepth 20000 in
theorem mo_71 : mm_MOK (8, yX8_isFresh, cX8_isFresh, 2, (some .boolean), 1, 2, false) := ⟨mm_gw 765 rfl rfl, mm_gw 34 rfl rfl, (fun h => by cases h), (fun _ => ⟨mm_gw 764 rfl rfl, mm_gw 8 rfl rfl, by decide⟩), rfl, by decide +kernel, ⟨by decide +kernel, by decide +kernel, by decide +kernel⟩, by decide, by decide, by decide, Or.inr (Or.inr rfl)⟩
set_option maxRecDepth 20000 in
theorem mo_72 : mm_MOK (8, yX8_land, cX8_land, 4, (some .int), 1, 4, false) := ⟨mm_gw 744 rfl rfl, mm_gw 34 rfl rfl, (fun h => by cases h), (fun _ => ⟨mm_gw 742 rfl rfl, mm_gw 743 rfl rfl, by decide⟩), rfl, by decide +kernel, ⟨by decide +kernel, by decide +kernel, by decide +kernel⟩, by decide, by decide, by decide, Or.inr (Or.inl rfl)⟩
set_option maxRecDepth 20000 in
theorem mo_73 : mm_MOK (8, yX8_ice, cX8_ice, 2, (some .int), 1, 2, false) := ⟨mm_gw 751 rfl rfl, mm_gw 34 rfl rfl, (fun h => by cases h), (fun _ => ⟨mm_gw 749 rfl rfl, mm_gw 750 rfl rfl, by decide⟩), rfl, by decide +kernel, ⟨by decide +kernel, by decide +kernel, by decide +kernel⟩, by decide, by decide, by decide, Or.inr (Or.inl rfl)⟩
set_option maxRecDepth 20000 in
theorem mo_74 : mm_MOK (8, yX8_iced, cX8_iced, 2, (some .boolean), 2, 2, false) := ⟨mm_gw 757 rfl rfl, mm_gw 34 rfl rfl, (fun h => by cases h), (fun _ => ⟨mm_gw 755 rfl rfl, mm_gw 756 rfl rfl, by decide⟩), rfl, by decide +kernel, ⟨by decide +kernel, by decide +kernel, by decide +kernel⟩, by decide, by decide, by decide, Or.inr (Or.inr rfl)⟩
set_option maxRecDepth 20000 in
theorem mo_75 : mm_MOK (8, yX8_isKindNumber, cX8_isKindNumber, 1, (some .boolean), 1, 1, true) := ⟨mm_gw 776 rfl rfl, mm_gw 34 rfl rfl, (fun _ => mm_gw 775 rfl rfl), (fun h => by cases h), rfl, by decide +kernel, ⟨by decide +kernel, by decide +kernel, by decide +kernel⟩, by decide, by decide, by decide, Or.inr (Or.inr rfl)⟩
set_option maxRecDepth 20000 in
theorem mo_76 : mm_MOK (8, yX8_kind, cX8_kind, 4, (some .boolean), 2, 4, false) := ⟨mm_gw 773 rfl rfl, mm_gw 34 rfl rfl, (fun h => by cases h), (fun _ => ⟨mm_gw 771 rfl rfl, mm_gw 772 rfl rfl, by decide⟩), rfl, by decide +kernel, ⟨by decide +kernel, by decide +kernel, by decide +kernel⟩, by decide, by decide, by decide, Or.inr (Or.inr rfl)⟩
set_option maxRecDepth 20000 in
theorem mo_77 : mm_MOK (8, yX8_isTold, cX8_isTold, 2, (some .boolean), 2, 2, false) := ⟨mm_gw 792 rfl rfl, mm_gw 34 rfl rfl, (fun h => by cases h), (fun _ => ⟨mm_gw 791 rfl rfl, mm_gw 10 rfl rfl, by decide⟩), rfl, by decide +kernel, ⟨by decide +kernel, by decide +kernel, by decide +kernel⟩, by decide, by decide, by decide, Or.inr (Or.inr rfl)⟩
set_option maxRecDepth 20000 in
theorem mo_78 : mm_MOK (8, yX8_takes, cX8_takes, 3, (some .boolean), 0, 3, false) := ⟨mm_gw 808 rfl rfl, mm_gw 34 rfl rfl, (fun h => by cases h), (fun _ => ⟨mm_gw 807 rfl rfl, mm_gw 14 rfl rfl, by decide⟩), rfl, by decide +kernel, ⟨by decide +kernel, by decide +kernel, by decide +kernel⟩, by decide, by decide, by decide, Or.inr (Or.inr rfl)⟩
set_option maxRecDepth 20000 in
theorem mo_79 : mm_MOK (8, yX8_fishOf, cX8_fishOf, 2, (some .int), 0, 2, false) := ⟨mm_gw 800 rfl rfl, mm_gw 34 rfl rfl, (fun h => by cases h), (fun _ => ⟨mm_gw 799 rfl rfl, mm_gw 12 rfl rfl, by decide⟩), rfl, by decide +kernel, ⟨by decide +kernel, by decide +kernel, by decide +kernel⟩, by decide, by decide, by decide, Or.inr (Or.inl rfl)⟩
set_option maxRecDepth 20000 in
theorem mo_80 : mm_MOK (8, yX8_sauceOf, cX8_sauceOf, 2, (some .int), 0, 2, false) := ⟨mm_gw 812 rfl rfl, mm_gw 34 rfl rfl, (fun h => by cases h), (fun _ => ⟨mm_gw 811 rfl rfl, mm_gw 15 rfl rfl, by decide⟩), rfl, by decide +kernel, ⟨by decide +kernel, by decide +kernel, by decide +kernel⟩, by decide, by decide, by decide, Or.inr (Or.inl rfl)⟩
set_option maxRecDepth 20000 in
theorem mo_81 : mm_MOK (8, yX8_sauce, cX8_sauce, 3, (some .int), 1, 3, false) := ⟨mm_gw 780 rfl rfl, mm_gw 34 rfl rfl, (fun h => by cases h), (fun _ => ⟨mm_gw 778 rfl rfl, mm_gw 779 rfl rfl, by decide⟩), rfl, by decide +kernel, ⟨by decide +kernel, by decide +kernel, by decide +kernel⟩, by decide, by decide, by decide, Or.inr (Or.inl rfl)⟩
set_option maxRecDepth 20000 in
theorem mo_82 : mm_MOK (8, yX8_call, cX8_call, 2, (some .int), 1, 2, false) := ⟨mm_gw 784 rfl rfl, mm_gw 34 rfl rfl, (fun h => by cases h), (fun _ => ⟨mm_gw 782 rfl rfl, mm_gw 783 rfl rfl, by decide⟩), rfl, by decide +kernel, ⟨by decide +kernel, by decide +kernel, by decide +kernel⟩, by decide, by decide, by decide, Or.inr (Or.inl rfl)⟩
set_option maxRecDepth 20000 in
theorem mo_83 : mm_MOK (8, yX8_crewsThere, cX8_crewsThere, 3, (some .int), 1, 1, false) := ⟨mm_gw 816 rfl rfl, mm_gw 34 rfl rfl, (fun h => by cases h), (fun _ => ⟨mm_gw 815 rfl rfl, mm_gw 16 rfl rfl, by decide⟩), rfl, by decide +kernel, ⟨by decide +kernel, by decide +kernel, by decide +kernel⟩, by decide, by decide, by decide, Or.inr (Or.inl rfl)⟩
set_option maxRecDepth 20000 in
theorem mo_84 : mm_MOK (8, yX8_charges, cX8_charges, 3, (some .int), 0, 1, false) := ⟨mm_gw 796 rfl rfl, mm_gw 34 rfl rfl, (fun h => by cases h), (fun _ => ⟨mm_gw 795 rfl rfl, mm_gw 11 rfl rfl, by decide⟩), rfl, by decide +kernel, ⟨by decide +kernel, by decide +kernel, by decide +kernel⟩, by decide, by decide, by decide, Or.inr (Or.inl rfl)⟩
set_option maxRecDepth 20000 in
theorem mo_85 : mm_MOK (8, yX8_first, cX8_first, 4, (some .int), 2, 2, false) := ⟨mm_gw 820 rfl rfl, mm_gw 34 rfl rfl, (fun h => by cases h), (fun _ => ⟨mm_gw 819 rfl rfl, mm_gw 17 rfl rfl, by decide⟩), rfl, by decide +kernel, ⟨by decide +kernel, by decide +kernel, by decide +kernel⟩, by decide, by decide, by decide, Or.inr (Or.inl rfl)⟩
set_option maxRecDepth 20000 in
theorem mo_86 : mm_MOK (8, yX8_there, cX8_there, 4, (some .int), 2, 2, false) := ⟨mm_gw 804 rfl rfl, mm_gw 34 rfl rfl, (fun h => by cases h), (fun _ => ⟨mm_gw 803 rfl rfl, mm_gw 13 rfl rfl, by decide⟩), rfl, by decide +kernel, ⟨by decide +kernel, by decide +kernel, by decide +kernel⟩, by decide, by decide, by decide, Or.inr (Or.inl rfl)⟩
set_option maxRecDepth 20000 in
theorem mo_87 : mm_MOK (8, yX8_pack, cX8_pack, 8, (some .int), 3, 4, false) := ⟨mm_gw 788 rfl rfl, mm_gw 34 rfl rfl, (fun h => by cases h), (fun _ => ⟨mm_gw 786 rfl rfl, mm_gw 787 rfl rfl, by decide⟩), rfl, by decide +kernel, ⟨by decide +kernel, by decide +kernel, by decide +kernel⟩, by decide, by decide, by decide, Or.inr (Or.inl rfl)⟩
set_option maxRecDepth 20000 in
theorem mo_88 : mm_MOK (8, yX8_kilogramsIn, cX8_kilogramsIn, 4, (some .int), 0, 2, false) := ⟨mm_gw 828 rfl rfl, mm_gw 34 rfl rfl, (fun h => by cases h), (fun _ => ⟨mm_gw 827 rfl rfl, mm_gw 18 rfl rfl, by decide⟩), rfl, by decide +kernel, ⟨by decide +kernel, by decide +kernel, by decide +kernel⟩, by decide, by decide, by decide, Or.inr (Or.inl rfl)⟩
set_option maxRecDepth 20000 in
theorem mo_89 : mm_MOK (8, yX8_fail, cX8_fail, 3, (some .int), 1, 2, false) := ⟨mm_gw 824 rfl rfl, mm_gw 34 rfl rfl, (fun h => by cases h), (fun _ => ⟨mm_gw 822 rfl rfl, mm_gw 823 rfl rfl, by decide⟩), rfl, by decide +kernel, ⟨by decide +kernel, by decide +kernel, by decide +kernel⟩, by decide, by decide, by decide, Or.inr (Or.inl rfl)⟩
set_option maxRecDepth 20000 in
theorem mo_90 : mm_MOK (8, yX8_done, cX8_done, 4, none, 0, 2, false) := ⟨mm_gw 840 rfl rfl, mm_gw 34 rfl rfl, (fun h => by cases h), (fun _ => ⟨mm_gw 839 rfl rfl, mm_gw 20 rfl rfl, by decide⟩), rfl, by decide +kernel, ⟨by decide +kernel, by decide +kernel, by decide +kernel⟩, by decide, by decide, by decide, Or.inl rfl⟩
set_option maxRecDepth 20000 in
theorem mo_91 : mm_MOK (8, yX8_go, cX8_go, 3, (some .int), 2, 2, false) := ⟨mm_gw 832 rfl rfl, mm_gw 34 rfl rfl, (fun h => by cases h), (fun _ => ⟨mm_gw 830 rfl rfl, mm_gw 831 rfl rfl, by decide⟩), rfl, by decide +kernel, ⟨by decide +kernel, by decide +kernel, by decide +kernel⟩, by decide, by decide, by decide, Or.inr (Or.inl rfl)⟩
set_option maxRecDepth 20000 in
theorem mo_92 : mm_MOK (8, yX8_hour, cX8_hour, 2, none, 1, 1, false) := ⟨mm_gw 836 rfl rfl, mm_gw 34 rfl rfl, (fun h => by cases h), (fun _ => ⟨mm_gw 835 rfl rfl, mm_gw 19 rfl rfl, by decide⟩), rfl, by decide +kernel, ⟨by decide +kernel, by decide +kernel, by decide +kernel⟩, by decide, by decide, by decide, Or.inl rfl⟩
set_option maxRecDepth 20000 in
theorem mo_93 : mm_MOK (8, yX8_canBe, cX8_canBe, 4, (some .boolean), 1, 1, false) := ⟨mm_gw 852 rfl rfl, mm_gw 34 rfl rfl, (fun h => by cases h), (fun _ => ⟨mm_gw 851 rfl rfl, mm_gw 22 rfl rfl, by decide⟩), rfl, by decide +kernel, ⟨by decide +kernel, by decide +kernel, by decide +kernel⟩, by decide, by decide, by decide, Or.inr (Or.inr rfl)⟩
set_option maxRecDepth 20000 in
theorem mo_94 : mm_MOK (8, yX8_plans, cX8_plans, 6, none, 2, 1, false) := ⟨mm_gw 848 rfl rfl, mm_gw 34 rfl rfl, (fun h => by cases h), (fun _ => ⟨mm_gw 847 rfl rfl, mm_gw 21 rfl rfl, by decide⟩), rfl, by decide +kernel, ⟨by decide +kernel, by decide +kernel, by decide +kernel⟩, by decide, by decide, by decide, Or.inl rfl⟩
set_option maxRecDepth 20000 in
theorem mo_95 : mm_MOK (8, yX8_plan, cX8_plan, 2, (some .int), 3, 2, false) := ⟨mm_gw 844 rfl rfl, mm_gw 34 rfl rfl, (fun h => by cases h), (fun _ => ⟨mm_gw 842 rfl rfl, mm_gw 843 rfl rfl, by decide⟩), rfl, by decide +kernel, ⟨by decide +kernel, by decide +kernel, by decide +kernel⟩, by decide, by decide, by decide, Or.inr (Or.inl rfl)⟩
set_option maxRecDepth 20000 in
theorem mo_96 : mm_MOK (8, yX8_worth, cX8_worth, 1, (some .int), 3, 1, false) := ⟨mm_gw 856 rfl rfl, mm_gw 34 rfl rfl, (fun h => by cases h), (fun _ => ⟨mm_gw 854 rfl rfl, mm_gw 855 rfl rfl, by decide⟩), rfl, by decide +kernel, ⟨by decide +kernel, by decide +kernel, by decide +kernel⟩, by decide, by decide, by decide, Or.inr (Or.inl rfl)⟩
set_option maxRecDepth 20000 in
theorem mo_97 : mm_MOK (8, yX8_worthOf, cX8_worthOf, 4, (some .int), 0, 2, false) := ⟨mm_gw 868 rfl rfl, mm_gw 34 rfl rfl, (fun h => by cases h), (fun _ => ⟨mm_gw 867 rfl rfl, mm_gw 24 rfl rfl, by decide⟩), rfl, by decide +kernel, ⟨by decide +kernel, by decide +kernel, by decide +kernel⟩, by decide, by decide, by decide, Or.inr (Or.inl rfl)⟩
set_option maxRecDepth 20000 in
theorem mo_98 : mm_MOK (8, yX8_casesThere, cX8_casesThere, 4, (some .int), 0, 2, false) := ⟨mm_gw 864 rfl rfl, mm_gw 34 rfl rfl, (fun h => by cases h), (fun _ => ⟨mm_gw 863 rfl rfl, mm_gw 23 rfl rfl, by decide⟩), rfl, by decide +kernel, ⟨by decide +kernel, by decide +kernel, by decide +kernel⟩, by decide, by decide, by decide, Or.inr (Or.inl rfl)⟩
set_option maxRecDepth 20000 in
theorem mo_99 : mm_MOK (8, yX8_sell, cX8_sell, 9, (some .int), 3, 4, false) := ⟨mm_gw 860 rfl rfl, mm_gw 34 rfl rfl, (fun h => by cases h), (fun _ => ⟨mm_gw 858 rfl rfl, mm_gw 859 rfl rfl, by decide⟩), rfl, by decide +kernel, ⟨by decide +kernel, by decide +kernel, by decide +kernel⟩, by decide, by decide, by decide, Or.inr (Or.inl rfl)⟩
set_option maxRecDepth 20000 in
theorem mo_100 : mm_MOK (8, yX8_contract, cX8_contract, 5, (some .int), 3, 5, false) := ⟨mm_gw 872 rfl rfl, mm_gw 34 rfl rfl, (fun h => by cases h), (fun _ => ⟨mm_gw 870 rfl rfl, mm_gw 871 rfl rfl, by decide⟩), rfl, by decide +kernel, ⟨by decide +kernel, by decide +kernel, by decide +kernel⟩, by decide, by decide, by decide, Or.inr (Or.inl rfl)⟩
set_option maxRecDepth 20000 in
theorem mo_101 : mm_MOK (8, yX8_lacks, cX8_lacks, 6, (some .int), 1, 2, false) := ⟨mm_gw 876 rfl rfl, mm_gw 34 rfl rfl, (fun h => by cases h), (fun _ => ⟨mm_gw 874 rfl rfl, mm_gw 875 rfl rfl, by decide⟩), rfl, by decide +kernel, ⟨by decide +kernel, by decide +kernel, by decide +kernel⟩, by decide, by decide, by decide, Or.inr (Or.inl rfl)⟩
set_option maxRecDepth 20000 in
theorem mo_102 : mm_MOK (8, yX8_recall, cX8_recall, 4, (some .int), 2, 2, false) := ⟨mm_gw 880 rfl rfl, mm_gw 34 rfl rfl, (fun h => by cases h), (fun _ => ⟨mm_gw 878 rfl rfl, mm_gw 879 rfl rfl, by decide⟩), rfl, by decide +kernel, ⟨by decide +kernel, by decide +kernel, by decide +kernel⟩, by decide, by decide, by decide, Or.inr (Or.inl rfl)⟩
set_option maxRecDepth 20000 in
theorem mo_103 : mm_MOK (8, yX8_lot, cX8_lot, 3, (some .int), 2, 3, false) := ⟨mm_gw 884 rfl rfl, mm_gw 34 rfl rfl, (fun h => by cases h), (fun _ => ⟨mm_gw 882 rfl rfl, mm_gw 883 rfl rfl, by decide⟩), rfl, by decide +kernel, ⟨by decide +kernel, by decide +kernel, by decide +kernel⟩, by decide, by decide, by decide, Or.inr (Or.inl rfl)⟩
set_option maxRecDepth 20000 in
theorem mo_104 : mm_MOK (8, yX8_batch, cX8_batch, 3, (some .int), 1, 3, false) := ⟨mm_gw 888 rfl rfl, mm_gw 34 rfl rfl, (fun h => by cases h), (fun _ => ⟨mm_gw 886 rfl rfl, mm_gw 887 rfl rfl, by decide⟩), rfl, by decide +kernel, ⟨by decide +kernel, by decide +kernel, by decide +kernel⟩, by decide, by decide, by decide, Or.inr (Or.inl rfl)⟩
set_option maxRecDepth 20000 in
theorem mo_105 : mm_MOK (8, yX8_of, cX8_of, 3, (some .int), 2, 3, false) := ⟨mm_gw 892 rfl rfl, mm_gw 34 rfl rfl, (fun h => by cases h), (fun _ => ⟨mm_gw 890 rfl rfl, mm_gw 891 rfl rfl, by decide⟩), rfl, by decide +kernel, ⟨by decide +kernel, by decide +kernel, by decide +kernel⟩, by decide, by decide, by decide, Or.inr (Or.inl rfl)⟩
set_option maxRecDepth 20000 in
theorem mo_106 : mm_MOK (8, yX8_cooker, cX8_cooker, 4, (some .int), 1, 3, false) := ⟨mm_gw 896 rfl rfl, mm_gw 34 rfl rfl, (fun h => by cases h), (fun _ => ⟨mm_gw 894 rfl rfl, mm_gw 895 rfl rfl, by decide⟩), rfl, by decide +kernel, ⟨by decide +kernel, by decide +kernel, by decide +kernel⟩, by decide, by decide, by decide, Or.inr (Or.inl rfl)⟩
set_option maxRecDepth 20000 in
theorem mo_107 : mm_MOK (8, yX8_told, cX8_told, 3, (some .int), 1, 3, false) := ⟨mm_gw 900 rfl rfl, mm_gw 34 rfl rfl, (fun h => by cases h), (fun _ => ⟨mm_gw 898 rfl rfl, mm_gw 899 rfl rfl, by decide⟩), rfl, by decide +kernel, ⟨by decide +kernel, by decide +kernel, by decide +kernel⟩, by decide, by decide, by decide, Or.inr (Or.inl rfl)⟩
set_option maxRecDepth 20000 in
theorem mo_108 : mm_MOK (8, yX8_count, cX8_count, 4, (some .int), 2, 2, false) := ⟨mm_gw 904 rfl rfl, mm_gw 34 rfl rfl, (fun h => by cases h), (fun _ => ⟨mm_gw 902 rfl rfl, mm_gw 903 rfl rfl, by decide⟩), rfl, by decide +kernel, ⟨by decide +kernel, by decide +kernel, by decide +kernel⟩, by decide, by decide, by decide, Or.inr (Or.inl rfl)⟩
set_option maxRecDepth 20000 in
theorem mo_109 : mm_MOK (6, yX6_search, cX6_search, 8, none, 6, 4, true) := ⟨mm_gw 504 rfl rfl, mm_gw 33 rfl rfl, (fun _ => mm_gw 503 rfl rfl), (fun h => by cases h), rfl, by decide +kernel, ⟨by decide +kernel, by decide +kernel, by decide +kernel⟩, by decide, by decide, by decide, Or.inl rfl⟩
set_option maxRecDepth 20000 in
theorem mo_110 : mm_MOK (6, yX6_search, cX6_search, 8, none, 5, 4, true) := ⟨mm_gw 504 rfl rfl, mm_gw 33 rfl rfl, (fun _ => mm_gw 503 rfl rfl), (fun h => by cases h), rfl, by decide +kernel, ⟨by decide +kernel, by decide +kernel, by decide +kernel⟩, by decide, by decide, by decide, Or.inl rfl⟩
set_option maxRecDepth 20000 in
theorem mo_111 : mm_MOK (6, yX6_search, cX6_search, 8, none, 4, 4, true) := ⟨mm_gw 504 rfl rfl, mm_gw 33 rfl rfl, (fun _ => mm_gw 503 rfl rfl), (fun h => by cases h), rfl, by decide +kernel, ⟨by decide +kernel, by decide +kernel, by decide +kernel⟩, by decide, by decide, by decide, Or.inl rfl⟩
set_option maxRecDepth 20000 in
theorem mo_112 : mm_MOK (6, yX6_search, cX6_search, 8, none, 3, 4, true) := ⟨mm_gw 504 rfl rfl, mm_gw 33 rfl rfl, (fun _ => mm_gw 503 rfl rfl), (fun h => by cases h), rfl, by decide +kernel, ⟨by decide +kernel, by decide +kernel, by decide +kernel⟩, by decide, by decide, by decide, Or.inl rfl⟩
set_option maxRecDepth 20000 in
theorem mo_113 : mm_MOK (6, yX6_search, cX6_search, 8, none, 2, 4, true) := ⟨mm_gw 504 rfl rfl, mm_gw 33 rfl rfl, (fun _ => mm_gw 503 rfl rfl), (fun h => by cases h), rfl, by decide +kernel, ⟨by decide +kernel, by decide +kernel, by decide +kernel⟩, by decide, by decide, by decide, Or.inl rfl⟩
theorem mm_mtok : ∀ r ∈ mm_MT, mm_MOK r := List.forall_mem_cons.mpr ⟨mo_0, List.forall_mem_cons.mpr ⟨mo_1, List.forall_mem_cons.mpr ⟨mo_2, List.forall_mem_cons.mpr ⟨mo_3, List.forall_mem_cons.mpr ⟨mo_4, List.forall_mem_cons.mpr ⟨mo_5, List.forall_mem_cons.mpr ⟨mo_6, List.forall_mem_cons.mpr ⟨mo_7, List.forall_mem_cons.mpr ⟨mo_8, List.forall_mem_cons.mpr ⟨mo_9, List.forall_mem_cons.mpr ⟨mo_10, List.forall_mem_cons.mpr ⟨mo_11, List.forall_mem_cons.mpr ⟨mo_12, List.forall_mem_cons.mpr ⟨mo_13, List.forall_mem_cons.mpr ⟨mo_14, List.forall_mem_cons.mpr ⟨mo_15, List.forall_mem_cons.mpr ⟨mo_16, List.forall_mem_cons.mpr ⟨mo_17, List.forall_mem_cons.mpr ⟨mo_18, List.forall_mem_cons.mpr ⟨mo_19, List.forall_mem_cons.mpr ⟨mo_20, List.forall_mem_cons.mpr ⟨mo_21, List.forall_mem_cons.mpr ⟨mo_22, List.forall_mem_cons.mpr ⟨mo_23, List.forall_mem_cons.mpr ⟨mo_24, List.forall_mem_cons.mpr ⟨mo_25, List.forall_mem_cons.mpr ⟨mo_26, List.forall_mem_cons.mpr ⟨mo_27, List.forall_mem_cons.mpr ⟨mo_28, List.forall_mem_cons.mpr ⟨mo_29, List.forall_mem_cons.mpr ⟨mo_30, List.forall_mem_cons.mpr ⟨mo_31, List.forall_mem_cons.mpr ⟨mo_32, List.forall_mem_cons.mpr ⟨mo_33, List.forall_mem_cons.mpr ⟨mo_34, List.forall_mem_cons.mpr ⟨mo_35, List.forall_mem_cons.mpr ⟨mo_36, List.forall_mem_cons.mpr ⟨mo_37, List.forall_mem_cons.mpr ⟨mo_38, List.forall_mem_cons.mpr ⟨mo_39, List.forall_mem_cons.mpr ⟨mo_40, List.forall_mem_cons.mpr ⟨mo_41, List.forall_mem_cons.mpr ⟨mo_42, List.forall_mem_cons.mpr ⟨mo_43, List.forall_mem_cons.mpr ⟨mo_44, List.forall_mem_cons.mpr ⟨mo_45, List.forall_mem_cons.mpr ⟨mo_46, List.forall_mem_cons.mpr ⟨mo_47, List.forall_mem_cons.mpr ⟨mo_48, List.forall_mem_cons.mpr ⟨mo_49, List.forall_mem_cons.mpr ⟨mo_50, List.forall_mem_cons.mpr ⟨mo_51, List.forall_mem_cons.mpr ⟨mo_52, List.forall_mem_cons.mpr ⟨mo_53, List.forall_mem_cons.mpr ⟨mo_54, List.forall_mem_cons.mpr ⟨mo_55, List.forall_mem_cons.mpr ⟨mo_56, List.forall_mem_cons.mpr ⟨mo_57, List.forall_mem_cons.mpr ⟨mo_58, List.forall_mem_cons.mpr ⟨mo_59, List.forall_mem_cons.mpr ⟨mo_60, List.forall_mem_cons.mpr ⟨mo_61, List.forall_mem_cons.mpr ⟨mo_62, List.forall_mem_cons.mpr ⟨mo_63, List.forall_mem_cons.mpr ⟨mo_64, List.forall_mem_cons.mpr ⟨mo_65, List.forall_mem_cons.mpr ⟨mo_66, List.forall_mem_cons.mpr ⟨mo_67, List.forall_mem_cons.mpr ⟨mo_68, List.forall_mem_cons.mpr ⟨mo_69, List.forall_mem_cons.mpr ⟨mo_70, List.forall_mem_cons.mpr ⟨mo_71, List.forall_mem_cons.mpr ⟨mo_72, List.forall_mem_cons.mpr ⟨mo_73, List.forall_mem_cons.mpr ⟨mo_74, List.forall_mem_cons.mpr ⟨mo_75, List.forall_mem_cons.mpr ⟨mo_76, List.forall_mem_cons.mpr ⟨mo_77, List.forall_mem_cons.mpr ⟨mo_78, List.forall_mem_cons.mpr ⟨mo_79, List.forall_mem_cons.mpr ⟨mo_80, List.forall_mem_cons.mpr ⟨mo_81, List.forall_mem_cons.mpr ⟨mo_82, List.forall_mem_cons.mpr ⟨mo_83, List.forall_mem_cons.mpr ⟨mo_84, List.forall_mem_cons.mpr ⟨mo_85, List.forall_mem_cons.mpr ⟨mo_86, List.forall_mem_cons.mpr ⟨mo_87, List.forall_mem_cons.mpr ⟨mo_88, List.forall_mem_cons.mpr ⟨mo_89, List.forall_mem_cons.mpr ⟨mo_90, List.forall_mem_cons.mpr ⟨mo_91, List.forall_mem_cons.mpr ⟨mo_92, List.forall_mem_cons.mpr ⟨mo_93, List.forall_mem_cons.mpr ⟨mo_94, List.forall_mem_cons.mpr ⟨mo_95, List.forall_mem_cons.mpr ⟨mo_96, List.forall_mem_cons.mpr ⟨mo_97, List.forall_mem_cons.mpr ⟨mo_98, List.forall_mem_cons.mpr ⟨mo_99, List.forall_mem_cons.mpr ⟨mo_100, List.forall_mem_cons.mpr ⟨mo_101, List.forall_mem_cons.mpr ⟨mo_102, List.forall_mem_cons.mpr ⟨mo_103, List.forall_mem_cons.mpr ⟨mo_104, List.forall_mem_cons.mpr ⟨mo_105, List.forall_mem_cons.mpr ⟨mo_106, List.forall_mem_cons.mpr ⟨mo_107, List.forall_mem_cons.mpr ⟨mo_108, List.forall_mem_cons.mpr ⟨mo_109, List.forall_mem_cons.mpr ⟨mo_110, List.forall_mem_cons.mpr ⟨mo_111, List.forall_mem_cons.mpr ⟨mo_112, List.forall_mem_cons.mpr ⟨mo_113, fun _ h => absurd h List.not_mem_nil⟩⟩⟩⟩⟩⟩⟩⟩⟩⟩⟩⟩⟩⟩⟩⟩⟩⟩⟩⟩⟩⟩⟩⟩⟩⟩⟩⟩⟩⟩⟩⟩⟩⟩⟩⟩⟩⟩⟩⟩⟩⟩⟩⟩⟩⟩⟩⟩⟩⟩⟩⟩⟩⟩⟩⟩⟩⟩⟩⟩⟩⟩⟩⟩⟩⟩⟩⟩⟩⟩⟩⟩⟩⟩⟩⟩⟩⟩⟩⟩⟩⟩⟩⟩⟩⟩⟩⟩⟩⟩⟩⟩⟩⟩⟩⟩⟩⟩⟩⟩⟩⟩⟩⟩⟩⟩⟩⟩⟩⟩⟩⟩⟩⟩
theorem mm_mok (k : Nat) : mm_MOK (mm_m k) := by
  unfold mm_m
  cases h : mm_MT[k]? with
  | none => exact mo_0
  | some r => exact mm_mtok r (List.mem_of_getElem? h)
def mm_FT : List (Nat × Nat × Nat × Nat) := [(0, 9, 0, 0), (0, 15, 0, 1), (0, 18, 0, 2), (0, 21, 0, 3), (0, 24, 0, 4), (0, 27, 0, 5), (0, 31, 0, 6), (0, 34, 0, 7), (0, 42, 2, 0), (0, 45, 2, 1), (0, 46, 2, 2), (0, 47, 2, 4), (0, 54, 0, 8), (0, 57, 2, 3), (1, 9, 1, 0), (1, 15, 1, 1), (1, 18, 1, 2), (1, 21, 1, 3), (1, 24, 1, 4), (1, 27, 1, 5), (1, 31, 1, 6), (1, 34, 1, 7), (2, 9, 2, 0), (2, 15, 2, 1), (2, 18, 2, 2), (2, 21, 2, 3), (2, 24, 2, 4), (3, 9, 3, 0), (3, 15, 3, 1), (4, 9, 4, 0), (4, 15, 4, 1), (4, 19, 4, 2), (4, 22, 4, 3), (4, 25, 4, 4), (4, 28, 4, 5), (4, 48, 4, 6), (5, 9, 5, 0), (5, 15, 5, 1), (5, 18, 5, 2), (5, 21, 5, 3), (5, 25, 5, 4), (5, 28, 5, 5), (5, 31, 5, 6), (6, 9, 6, 0), (6, 15, 6, 1), (6, 18, 6, 2), (6, 21, 6, 3), (6, 24, 6, 4), (6, 27, 6, 5), (6, 30, 6, 6), (6, 34, 4, 6), (6, 53, 4, 5), (6, 60, 6, 7), (6, 77, 4, 3), (6, 80, 4, 1), (6, 83, 4, 2), (7, 10, 7, 0), (7, 19, 7, 1), (7, 26, 7, 2), (7, 33, 7, 3), (7, 40, 7, 4), (7, 47, 7, 5), (7, 54, 7, 6), (7, 58, 7, 7), (7, 66, 7, 8), (7, 75, 7, 9), (7, 87, 5, 1), (7, 90, 5, 3), (7, 94, 4, 0), (7, 106, 3, 1), (7, 109, 3, 0), (7, 116, 4, 3), (7, 119, 0, 7), (7, 129, 4, 2), (7, 132, 7, 10), (7, 135, 4, 4), (7, 142, 4, 1), (7, 145, 2, 4), (7, 150, 2, 3), (7, 153, 7, 11), (7, 167, 6, 5), (7, 170, 6, 7), (7, 177, 4, 5), (7, 187, 7, 12), (7, 194, 1, 5), (7, 197, 1, 1), (7, 204, 5, 4), (7, 210, 5, 0), (7, 221, 0, 0), (7, 222, 0, 2), (7, 223, 0, 3), (7, 226, 0, 5), (7, 229, 0, 1), (7, 235, 0, 6), (7, 236, 2, 0), (7, 237, 2, 1), (7, 238, 2, 2), (7, 239, 1, 0), (7, 242, 1, 2), (7, 245, 1, 3), (7, 248, 1, 4), (7, 251, 5, 6), (7, 257, 0, 8), (7, 262, 7, 13), (8, 9, 8, 2), (8, 13, 8, 3), (8, 16, 8, 4), (8, 19, 8, 5), (8, 23, 8, 6), (8, 26, 8, 8), (8, 29, 8, 9), (8, 32, 8, 10), (8, 35, 8, 11), (8, 38, 8, 13), (8, 41, 8, 14), (8, 44, 8, 15), (8, 47, 8, 16), (8, 50, 8, 19), (8, 53, 8, 20), (8, 56, 8, 21), (8, 59, 8, 22), (8, 62, 8, 23), (8, 65, 8, 24), (8, 68, 8, 25), (8, 71, 8, 28), (8, 74, 8, 29), (8, 77, 8, 30), (8, 80, 8, 31), (8, 83, 8, 32), (8, 86, 8, 33), (8, 89, 8, 35), (8, 92, 8, 36), (8, 95, 8, 37), (8, 98, 8, 1), (8, 106, 8, 0), (8, 114, 8, 7), (8, 135, 8, 18), (8, 151, 8, 12), (8, 163, 8, 17), (8, 173, 8, 27), (8, 176, 8, 34), (8, 179, 8, 38), (8, 195, 8, 26)]
def mm_FTp : List Nat := [180, 182, 184, 186, 188, 189, 191, 193, 149, 152, 155, 161, 195, 158, 222, 224, 226, 228, 230, 232, 234, 235, 148, 151, 154, 157, 160, 125, 127, 86, 88, 91, 94, 97, 99, 103, 51, 53, 55, 56, 58, 60, 61, 259, 260, 261, 262, 263, 264, 266, 102, 100, 267, 95, 89, 92, 286, 287, 288, 289, 290, 291, 292, 293, 294, 295, 54, 57, 87, 128, 126, 96, 194, 93, 296, 98, 90, 162, 159, 297, 265, 268, 101, 298, 233, 225, 59, 52, 181, 185, 187, 190, 183, 192, 150, 153, 156, 223, 227, 229, 231, 62, 196, 299, 625, 626, 627, 628, 629, 631, 632, 633, 634, 636, 637, 638, 639, 642, 643, 644, 645, 646, 647, 648, 651, 652, 653, 654, 655, 656, 658, 659, 660, 624, 623, 630, 641, 635, 640, 650, 657, 661, 649]
abbrev mm_fl (q : Nat × Nat × Nat × Nat) : Cond := .fieldLink (mm_R q.1) q.2.1 (mm_T q.2.2.1 q.2.2.2).1 (mm_T q.2.2.1 q.2.2.2).2.1 (mm_T q.2.2.1 q.2.2.2).2.2.1
theorem mm_ft_all : (mm_FT.zip mm_FTp).all (fun q => decide (lw_tbl[q.2]? = some (mm_fl q.1)) && goodWord (mm_fl q.1) && decide (q.1.2.2.1 < 9) && decide (q.1.2.2.2 < mm_N q.1.2.2.1)) = true := by decide +kernel
theorem mm_zip_mem {α β : Type} {a : α} : ∀ {l : List α} {l2 : List β}, l.length = l2.length → a ∈ l → ∃ b, (a, b) ∈ l.zip l2
  | [], _, _, h => absurd h List.not_mem_nil
  | x :: l, [], h, _ => by simp at h
  | x :: l, y :: l2, h, hm => by
    rcases List.mem_cons.mp hm with rfl | hm
    · exact ⟨y, by simp⟩
    · obtain ⟨b, hb⟩ := mm_zip_mem (l := l) (l2 := l2) (by simpa using h) hm
      exact ⟨b, by simp [hb]⟩
theorem mm_ft_ok {q : Nat × Nat × Nat × Nat} (h : q ∈ mm_FT) : mm_fl q ∈ mm_GW ∧ q.2.2.1 < 9 ∧ q.2.2.2 < mm_N q.2.2.1 := by
  obtain ⟨b, hb⟩ := mm_zip_mem (l2 := mm_FTp) (by decide +kernel) h
  have := List.all_eq_true.mp mm_ft_all _ hb
  simp only [Bool.and_eq_true, decide_eq_true_eq] at this
  exact ⟨mm_gw b this.1.1.1 this.1.1.2, this.1.2, this.2⟩
def mm_CT : List (Nat × Nat × Nat) := [(0, 59, 2), (0, 69, 4), (2, 27, 16), (2, 31, 12), (2, 39, 15), (3, 19, 17), (4, 31, 20), (4, 39, 21), (4, 42, 22), (4, 45, 23), (5, 43, 28), (5, 47, 31), (5, 57, 29), (6, 39, 32), (6, 45, 37), (6, 49, 109), (6, 49, 110), (6, 49, 111), (6, 49, 112), (6, 49, 113), (6, 56, 39), (6, 63, 38), (6, 67, 40), (7, 62, 65), (7, 70, 27), (7, 79, 26), (7, 83, 29), (7, 97, 19), (7, 100, 25), (7, 103, 17), (7, 112, 12), (7, 115, 24), (7, 122, 13), (7, 126, 62), (7, 138, 15), (7, 146, 33), (7, 156, 16), (7, 160, 63), (7, 163, 36), (7, 173, 3), (7, 180, 5), (7, 184, 9), (7, 190, 8), (7, 193, 7), (7, 200, 10), (7, 207, 6), (7, 213, 28), (7, 216, 66), (7, 220, 0), (7, 232, 4), (7, 252, 30), (7, 254, 14), (7, 259, 18), (7, 265, 32), (7, 268, 64), (7, 271, 35), (7, 274, 11), (7, 278, 1), (7, 281, 34), (8, 102, 68), (8, 109, 70), (8, 118, 69), (8, 122, 71), (8, 125, 75), (8, 128, 78), (8, 132, 77), (8, 138, 84), (8, 142, 79), (8, 145, 86), (8, 148, 80), (8, 154, 83), (8, 157, 85), (8, 160, 88), (8, 166, 92), (8, 169, 90), (8, 182, 93), (8, 186, 94), (8, 189, 98), (8, 192, 97), (9, 13, 41), (9, 17, 72), (9, 18, 42), (9, 22, 73), (9, 23, 43), (9, 27, 74), (9, 28, 44), (9, 32, 76), (9, 33, 45), (9, 37, 81), (9, 38, 46), (9, 41, 82), (9, 42, 47), (9, 45, 87), (9, 46, 48), (9, 49, 89), (9, 50, 49), (9, 53, 91), (9, 54, 50), (9, 57, 95), (9, 58, 51), (9, 62, 96), (9, 63, 52), (9, 66, 99), (9, 67, 53), (9, 71, 100), (9, 72, 54), (9, 75, 101), (9, 76, 55), (9, 79, 102), (9, 80, 56), (9, 83, 103), (9, 84, 57), (9, 87, 104), (9, 88, 58), (9, 91, 105), (9, 92, 59), (9, 95, 106), (9, 96, 60), (9, 99, 107), (9, 100, 61), (9, 103, 108)]
def mm_CTp : List Nat := [526, 535, 140, 418, 144, 438, 373, 377, 380, 383, 362, 430, 479, 492, 493, 502, 502, 502, 502, 502, 497, 505, 510, 333, 336, 353, 358, 370, 386, 398, 406, 410, 414, 422, 439, 440, 451, 456, 488, 522, 530, 539, 548, 557, 562, 573, 581, 582, 587, 592, 609, 613, 434, 426, 460, 475, 480, 464, 471, 745, 766, 758, 762, 774, 805, 789, 793, 797, 801, 809, 813, 817, 825, 833, 837, 849, 845, 861, 865, 329, 741, 343, 748, 349, 754, 366, 770, 390, 777, 394, 781, 402, 785, 447, 821, 452, 829, 484, 841, 514, 853, 518, 857, 544, 869, 553, 873, 569, 877, 577, 881, 583, 885, 593, 889, 597, 893, 601, 897, 605, 901]
abbrev mm_cl1 (q : Nat × Nat × Nat) : Cond := .methodLink (mm_R q.1) q.2.1 (mm_m q.2.2).2.1
theorem mm_ct_all : (mm_CT.zip mm_CTp).all (fun q => decide (lw_tbl[q.2]? = some (mm_cl1 q.1)) && goodWord (mm_cl1 q.1)) = true := by decide +kernel
theorem mm_ct_ok {q : Nat × Nat × Nat} (h : q ∈ mm_CT) : mm_cl1 q ∈ mm_GW := by
  obtain ⟨b, hb⟩ := mm_zip_mem (l2 := mm_CTp) (by decide +kernel) h
  have := List.all_eq_true.mp mm_ct_all _ hb
  simp only [Bool.and_eq_true, decide_eq_true_eq] at this
  exact mm_gw b this.1 this.2
/-- calls of a nest mate's private method -/
def mm_NT : List (Nat × Nat × Nat) := [(0, 38, 65), (1, 38, 65), (1, 42, 67), (2, 35, 66), (4, 35, 65), (5, 35, 65), (5, 39, 67)]
abbrev mm_nl (q : Nat × Nat × Nat) : Cond := .methodLinkNest (mm_R q.1) q.2.1 (mm_m q.2.2).2.1 "FishTins"
set_option maxRecDepth 20000 in
theorem mm_nt_tbl : ∀ q ∈ mm_NT, mm_nl q ∈ lw_tbl := List.forall_mem_cons.mpr ⟨List.mem_of_getElem? (i := 591) rfl, List.forall_mem_cons.mpr ⟨List.mem_of_getElem? (i := 561) rfl, List.forall_mem_cons.mpr ⟨List.mem_of_getElem? (i := 552) rfl, List.forall_mem_cons.mpr ⟨List.mem_of_getElem? (i := 419) rfl, List.forall_mem_cons.mpr ⟨List.mem_of_getElem? (i := 376) rfl, List.forall_mem_cons.mpr ⟨List.mem_of_getElem? (i := 357) rfl, List.forall_mem_cons.mpr ⟨List.mem_of_getElem? (i := 340) rfl, fun _ h => absurd h List.not_mem_nil⟩⟩⟩⟩⟩⟩⟩
/-- calls of Math.min (1000), Math.max (1001), System.arraycopy (1002) -/
def mm_SP : List (Nat × Nat × Nat) := [(0, 48, 1002), (0, 63, 1000), (1, 46, 1000), (1, 52, 1001), (5, 51, 1000), (6, 71, 1002), (6, 86, 1000)]
abbrev mm_sy (t : Nat) : MethodName := if t = 1000 then Lib.Math.min.name else if t = 1001 then Lib.Math.max.name else arraycopyName
set_option maxRecDepth 20000 in
theorem mm_sp_ok : ∀ q ∈ mm_SP, Cond.methodLink (mm_R q.1) q.2.1 (mm_sy q.2.2) ∈ mm_GW := List.forall_mem_cons.mpr ⟨mm_gw 468 rfl rfl, List.forall_mem_cons.mpr ⟨mm_gw 534 rfl rfl, List.forall_mem_cons.mpr ⟨mm_gw 543 rfl rfl, List.forall_mem_cons.mpr ⟨mm_gw 566 rfl rfl, List.forall_mem_cons.mpr ⟨mm_gw 444 rfl rfl, List.forall_mem_cons.mpr ⟨mm_gw 509 rfl rfl, List.forall_mem_cons.mpr ⟨mm_gw 501 rfl rfl, fun _ h => absurd h List.not_mem_nil⟩⟩⟩⟩⟩⟩⟩
set_option maxRecDepth 20000 in
theorem mm_min_w : Cond.static Lib.Math.min.name ∈ mm_GW ∧ Cond.initialized "java/lang/Math" ∈ mm_GW ∧ Cond.code Lib.Math.min.name Lib.Math.min.code 2 (some .int) ∈ mm_GW := ⟨mm_gw 445 rfl rfl, mm_gw 35 rfl rfl, mm_gw 446 rfl rfl⟩
set_option maxRecDepth 20000 in
theorem mm_max_w : Cond.static Lib.Math.max.name ∈ mm_GW ∧ Cond.initialized "java/lang/Math" ∈ mm_GW ∧ Cond.code Lib.Math.max.name Lib.Math.max.code 2 (some .int) ∈ mm_GW := ⟨mm_gw 567 rfl rfl, mm_gw 35 rfl rfl, mm_gw 568 rfl rfl⟩
set_option maxRecDepth 20000 in
theorem mm_cpy_w : Cond.native arraycopyName ∈ mm_GW ∧ Cond.static arraycopyName ∈ mm_GW ∧ Cond.initialized "java/lang/System" ∈ mm_GW := ⟨mm_gw 470 rfl rfl, mm_gw 469 rfl rfl, mm_gw 36 rfl rfl⟩
def mm_CK : List (Nat × Nat × Int32) := [(7, 74, 100000), (7, 78, 1000000), (8, 113, 100000), (8, 117, 1000000)]
set_option maxRecDepth 20000 in
theorem mm_ck_ok : ∀ q ∈ mm_CK, Cond.constant (mm_R q.1) q.2.1 q.2.2 ∈ mm_GW := List.forall_mem_cons.mpr ⟨mm_gw 347 rfl rfl, List.forall_mem_cons.mpr ⟨mm_gw 348 rfl rfl, List.forall_mem_cons.mpr ⟨mm_gw 752 rfl rfl, List.forall_mem_cons.mpr ⟨mm_gw 753 rfl rfl, fun _ h => absurd h List.not_mem_nil⟩⟩⟩⟩
