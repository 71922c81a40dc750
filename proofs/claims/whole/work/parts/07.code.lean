/-- the shape of the whole: the class's cells, then the reference's -/
def hh_S : List mm_C := [.inr (7, [some 1, some 2, some 3, some 4, some 5, some 6, some 7, some 8, none, none, none, none, none, none]),
  .inr (5, [some 9, some 10, some 11, some 12, some 13, some 14, none]),
  .inr (4, [some 15, some 16, some 17, some 18, some 19, some 20, none]),
  .inr (3, [some 21, some 22]),
  .inr (2, [some 23, some 24, some 25, some 26, some 27]),
  .inr (0, [some 28, some 29, some 30, some 31, some 32, some 33, some 34, none, none]),
  .inr (1, [some 35, some 36, some 37, some 38, some 39, some 40, some 41, none]),
  .inr (6, [some 42, some 43, some 44, some 45, some 46, some 47, none, none]),
  .inl (false, 2),
  .inl (false, 60),
  .inl (false, 60),
  .inl (false, 60),
  .inl (true, 60),
  .inl (true, 60),
  .inl (false, 60),
  .inl (true, 4),
  .inl (false, 4),
  .inl (false, 4),
  .inl (false, 4),
  .inl (false, 4),
  .inl (false, 4),
  .inl (true, 3),
  .inl (false, 3),
  .inl (false, 3),
  .inl (false, 3),
  .inl (false, 3),
  .inl (false, 3),
  .inl (false, 180),
  .inl (false, 100),
  .inl (false, 100),
  .inl (false, 100),
  .inl (false, 100),
  .inl (false, 100),
  .inl (true, 100),
  .inl (false, 6000),
  .inl (false, 20),
  .inl (false, 20),
  .inl (false, 20),
  .inl (false, 20),
  .inl (false, 20),
  .inl (true, 20),
  .inl (false, 20),
  .inl (false, 3),
  .inl (false, 2),
  .inl (false, 8),
  .inl (false, 5),
  .inl (false, 4),
  .inl (false, 4),
  .inr (8, [none, none, some 49, some 50, some 51, some 52, some 53, none, some 54, some 55, some 56, some 57, none, some 58, some 59, some 60, some 61, none, none, some 62, some 63, some 64, some 65, some 66, some 67, some 68, none, none, some 69, some 70, some 71, some 72, some 73, some 74, none, some 75, some 76, some 77, none]),
  .inl (false, 60),
  .inl (false, 60),
  .inl (false, 60),
  .inl (true, 60),
  .inl (true, 60),
  .inl (false, 4),
  .inl (false, 4),
  .inl (false, 2),
  .inl (false, 3),
  .inl (false, 3),
  .inl (false, 3),
  .inl (false, 3),
  .inl (false, 180),
  .inl (false, 100),
  .inl (false, 100),
  .inl (false, 100),
  .inl (false, 100),
  .inl (true, 100),
  .inl (false, 100),
  .inl (false, 6000),
  .inl (false, 20),
  .inl (false, 20),
  .inl (false, 20),
  .inl (false, 20),
  .inl (false, 20),
  .inl (true, 20),
  .inl (false, 3),
  .inl (false, 4),
  .inl (false, 4)]
theorem hh_0 : hh_S[0]? = some (.inr (7, [some 1, some 2, some 3, some 4, some 5, some 6, some 7, some 8, none, none, none, none, none, none])) := rfl
theorem hh_1 : hh_S[1]? = some (.inr (5, [some 9, some 10, some 11, some 12, some 13, some 14, none])) := rfl
theorem hh_2 : hh_S[2]? = some (.inr (4, [some 15, some 16, some 17, some 18, some 19, some 20, none])) := rfl
theorem hh_3 : hh_S[3]? = some (.inr (3, [some 21, some 22])) := rfl
theorem hh_4 : hh_S[4]? = some (.inr (2, [some 23, some 24, some 25, some 26, some 27])) := rfl
theorem hh_5 : hh_S[5]? = some (.inr (0, [some 28, some 29, some 30, some 31, some 32, some 33, some 34, none, none])) := rfl
theorem hh_6 : hh_S[6]? = some (.inr (1, [some 35, some 36, some 37, some 38, some 39, some 40, some 41, none])) := rfl
theorem hh_7 : hh_S[7]? = some (.inr (6, [some 42, some 43, some 44, some 45, some 46, some 47, none, none])) := rfl
theorem hh_8 : hh_S[8]? = some (.inl (false, 2)) := rfl
theorem hh_9 : hh_S[9]? = some (.inl (false, 60)) := rfl
theorem hh_10 : hh_S[10]? = some (.inl (false, 60)) := rfl
theorem hh_11 : hh_S[11]? = some (.inl (false, 60)) := rfl
theorem hh_12 : hh_S[12]? = some (.inl (true, 60)) := rfl
theorem hh_13 : hh_S[13]? = some (.inl (true, 60)) := rfl
theorem hh_14 : hh_S[14]? = some (.inl (false, 60)) := rfl
theorem hh_15 : hh_S[15]? = some (.inl (true, 4)) := rfl
theorem hh_16 : hh_S[16]? = some (.inl (false, 4)) := rfl
theorem hh_17 : hh_S[17]? = some (.inl (false, 4)) := rfl
theorem hh_18 : hh_S[18]? = some (.inl (false, 4)) := rfl
theorem hh_19 : hh_S[19]? = some (.inl (false, 4)) := rfl
theorem hh_20 : hh_S[20]? = some (.inl (false, 4)) := rfl
theorem hh_21 : hh_S[21]? = some (.inl (true, 3)) := rfl
theorem hh_22 : hh_S[22]? = some (.inl (false, 3)) := rfl
theorem hh_23 : hh_S[23]? = some (.inl (false, 3)) := rfl
theorem hh_24 : hh_S[24]? = some (.inl (false, 3)) := rfl
theorem hh_25 : hh_S[25]? = some (.inl (false, 3)) := rfl
theorem hh_26 : hh_S[26]? = some (.inl (false, 3)) := rfl
theorem hh_27 : hh_S[27]? = some (.inl (false, 180)) := rfl
theorem hh_28 : hh_S[28]? = some (.inl (false, 100)) := rfl
theorem hh_29 : hh_S[29]? = some (.inl (false, 100)) := rfl
theorem hh_30 : hh_S[30]? = some (.inl (false, 100)) := rfl
theorem hh_31 : hh_S[31]? = some (.inl (false, 100)) := rfl
theorem hh_32 : hh_S[32]? = some (.inl (false, 100)) := rfl
theorem hh_33 : hh_S[33]? = some (.inl (true, 100)) := rfl
theorem hh_34 : hh_S[34]? = some (.inl (false, 6000)) := rfl
theorem hh_35 : hh_S[35]? = some (.inl (false, 20)) := rfl
theorem hh_36 : hh_S[36]? = some (.inl (false, 20)) := rfl
theorem hh_37 : hh_S[37]? = some (.inl (false, 20)) := rfl
theorem hh_38 : hh_S[38]? = some (.inl (false, 20)) := rfl
theorem hh_39 : hh_S[39]? = some (.inl (false, 20)) := rfl
theorem hh_40 : hh_S[40]? = some (.inl (true, 20)) := rfl
theorem hh_41 : hh_S[41]? = some (.inl (false, 20)) := rfl
theorem hh_42 : hh_S[42]? = some (.inl (false, 3)) := rfl
theorem hh_43 : hh_S[43]? = some (.inl (false, 2)) := rfl
theorem hh_44 : hh_S[44]? = some (.inl (false, 8)) := rfl
theorem hh_45 : hh_S[45]? = some (.inl (false, 5)) := rfl
theorem hh_46 : hh_S[46]? = some (.inl (false, 4)) := rfl
theorem hh_47 : hh_S[47]? = some (.inl (false, 4)) := rfl
theorem hh_48 : hh_S[48]? = some (.inr (8, [none, none, some 49, some 50, some 51, some 52, some 53, none, some 54, some 55, some 56, some 57, none, some 58, some 59, some 60, some 61, none, none, some 62, some 63, some 64, some 65, some 66, some 67, some 68, none, none, some 69, some 70, some 71, some 72, some 73, some 74, none, some 75, some 76, some 77, none])) := rfl
theorem hh_49 : hh_S[49]? = some (.inl (false, 60)) := rfl
theorem hh_50 : hh_S[50]? = some (.inl (false, 60)) := rfl
theorem hh_51 : hh_S[51]? = some (.inl (false, 60)) := rfl
theorem hh_52 : hh_S[52]? = some (.inl (true, 60)) := rfl
theorem hh_53 : hh_S[53]? = some (.inl (true, 60)) := rfl
theorem hh_54 : hh_S[54]? = some (.inl (false, 4)) := rfl
theorem hh_55 : hh_S[55]? = some (.inl (false, 4)) := rfl
theorem hh_56 : hh_S[56]? = some (.inl (false, 2)) := rfl
theorem hh_57 : hh_S[57]? = some (.inl (false, 3)) := rfl
theorem hh_58 : hh_S[58]? = some (.inl (false, 3)) := rfl
theorem hh_59 : hh_S[59]? = some (.inl (false, 3)) := rfl
theorem hh_60 : hh_S[60]? = some (.inl (false, 3)) := rfl
theorem hh_61 : hh_S[61]? = some (.inl (false, 180)) := rfl
theorem hh_62 : hh_S[62]? = some (.inl (false, 100)) := rfl
theorem hh_63 : hh_S[63]? = some (.inl (false, 100)) := rfl
theorem hh_64 : hh_S[64]? = some (.inl (false, 100)) := rfl
theorem hh_65 : hh_S[65]? = some (.inl (false, 100)) := rfl
theorem hh_66 : hh_S[66]? = some (.inl (true, 100)) := rfl
theorem hh_67 : hh_S[67]? = some (.inl (false, 100)) := rfl
theorem hh_68 : hh_S[68]? = some (.inl (false, 6000)) := rfl
theorem hh_69 : hh_S[69]? = some (.inl (false, 20)) := rfl
theorem hh_70 : hh_S[70]? = some (.inl (false, 20)) := rfl
theorem hh_71 : hh_S[71]? = some (.inl (false, 20)) := rfl
theorem hh_72 : hh_S[72]? = some (.inl (false, 20)) := rfl
theorem hh_73 : hh_S[73]? = some (.inl (false, 20)) := rfl
theorem hh_74 : hh_S[74]? = some (.inl (true, 20)) := rfl
theorem hh_75 : hh_S[75]? = some (.inl (false, 3)) := rfl
theorem hh_76 : hh_S[76]? = some (.inl (false, 4)) := rfl
theorem hh_77 : hh_S[77]? = some (.inl (false, 4)) := rfl
/-! X0_has -/
def lab_0 : Nat → List mm_E := fun t => match t with
  | 0 => [(some (.iload_n 1), 0, 0, [], 0), (some (.iconst 0), 0, 0, [], 0), (some (.aload_n 0), 0, 0, [], 0), (some (.getfield 34), 0, 7, [], 0), (some (.iconst 1), 0, 0, [], 1), (some (.isub), 0, 0, [], 0), (some (.invokestatic 38), 65, 3, [], 0), (some (.ireturn), 0, 0, [], 0)]
  | _ => []
theorem lb_0_0 : lab_0 0 = [(some (.iload_n 1), 0, 0, [], 0), (some (.iconst 0), 0, 0, [], 0), (some (.aload_n 0), 0, 0, [], 0), (some (.getfield 34), 0, 7, [], 0), (some (.iconst 1), 0, 0, [], 1), (some (.isub), 0, 0, [], 0), (some (.invokestatic 38), 65, 3, [], 0), (some (.ireturn), 0, 0, [], 0)] := rfl
set_option maxRecDepth 20000 in
theorem ok_0 : ∀ t, mm_okc (mm_m 0) t (lab_0 t) = true := by
  intro t
  unfold lab_0
  split <;> first | decide +kernel | rfl
/-! X0_add -/
def lab_1 : Nat → List mm_E := fun t => match t with
  | 0 => [(some (.aload_n 0), 0, 0, [], 0), (some (.getfield 34), 0, 7, [], 0), (some (.bipush 100), 0, 0, [], 100), (some (.if_icmp .lt 5), 11, 0, [], 0), (some (.iconst (-1)), 0, 0, [], (-1)), (some (.ireturn), 0, 0, [], 0)]
  | 11 => [(some (.aload_n 0), 0, 0, [], 0), (some (.getfield 34), 0, 7, [], 0), (some (.istore_n 3), 0, 0, [], 0), (some (.aload_n 0), 0, 0, [], 0), (some (.getfield 9), 0, 0, [], 0), (some (.iload_n 3), 0, 0, [], 0), (some (.aload_n 1), 0, 0, [], 0), (some (.getfield 42), 2, 0, [], 0), (some (.iload_n 2), 0, 0, [], 0), (some (.iaload), 0, 0, [], 0), (some (.iastore), 0, 0, [], 0), (some (.aload_n 0), 0, 0, [], 0), (some (.getfield 15), 0, 1, [], 0), (some (.iload_n 3), 0, 0, [], 0), (some (.aload_n 1), 0, 0, [], 0), (some (.getfield 45), 2, 1, [], 0), (some (.iload_n 2), 0, 0, [], 0), (some (.iaload), 0, 0, [], 0), (some (.iastore), 0, 0, [], 0), (some (.aload_n 0), 0, 0, [], 0), (some (.getfield 18), 0, 2, [], 0), (some (.iload_n 3), 0, 0, [], 0), (some (.aload_n 1), 0, 0, [], 0), (some (.getfield 45), 2, 1, [], 0), (some (.iload_n 2), 0, 0, [], 0), (some (.iaload), 0, 0, [], 0), (some (.iastore), 0, 0, [], 0), (some (.aload_n 0), 0, 0, [], 0), (some (.getfield 21), 0, 3, [], 0), (some (.iload_n 3), 0, 0, [], 0), (some (.aload_n 1), 0, 0, [], 0), (some (.getfield 46), 2, 2, [], 0), (some (.iload_n 2), 0, 0, [], 0), (some (.iaload), 0, 0, [], 0), (some (.iastore), 0, 0, [], 0), (some (.aload_n 1), 0, 0, [], 0), (some (.getfield 47), 2, 4, [], 0), (some (.iload_n 2), 0, 0, [], 0), (some (.bipush 60), 0, 0, [], 60), (some (.imul), 0, 0, [], 0), (some (.aload_n 0), 0, 0, [], 0), (some (.getfield 31), 0, 6, [], 0), (some (.iload_n 3), 0, 0, [], 0), (some (.bipush 60), 0, 0, [], 60), (some (.imul), 0, 0, [], 0), (some (.bipush 60), 0, 0, [], 60), (some (.invokestatic 48), 1002, 0, [], 0), (some (.aload_n 0), 0, 0, [], 0), (some (.dup), 0, 0, [], 0), (some (.getfield 54), 0, 8, [], 0), (some (.aload_n 1), 0, 0, [], 0), (some (.getfield 57), 2, 3, [], 0), (some (.iload_n 2), 0, 0, [], 0), (some (.iaload), 0, 0, [], 0), (some (.iadd), 0, 0, [], 0), (some (.putfield 54), 0, 8, [], 0), (some (.aload_n 0), 0, 0, [], 0), (some (.dup), 0, 0, [], 0), (some (.getfield 34), 0, 7, [], 0), (some (.iconst 1), 0, 0, [], 1), (some (.iadd), 0, 0, [], 0), (some (.putfield 34), 0, 7, [], 0), (some (.iload_n 3), 0, 0, [], 0), (some (.ireturn), 0, 0, [], 0)]
  | _ => []
theorem lb_1_0 : lab_1 0 = [(some (.aload_n 0), 0, 0, [], 0), (some (.getfield 34), 0, 7, [], 0), (some (.bipush 100), 0, 0, [], 100), (some (.if_icmp .lt 5), 11, 0, [], 0), (some (.iconst (-1)), 0, 0, [], (-1)), (some (.ireturn), 0, 0, [], 0)] := rfl
theorem lb_1_11 : lab_1 11 = [(some (.aload_n 0), 0, 0, [], 0), (some (.getfield 34), 0, 7, [], 0), (some (.istore_n 3), 0, 0, [], 0), (some (.aload_n 0), 0, 0, [], 0), (some (.getfield 9), 0, 0, [], 0), (some (.iload_n 3), 0, 0, [], 0), (some (.aload_n 1), 0, 0, [], 0), (some (.getfield 42), 2, 0, [], 0), (some (.iload_n 2), 0, 0, [], 0), (some (.iaload), 0, 0, [], 0), (some (.iastore), 0, 0, [], 0), (some (.aload_n 0), 0, 0, [], 0), (some (.getfield 15), 0, 1, [], 0), (some (.iload_n 3), 0, 0, [], 0), (some (.aload_n 1), 0, 0, [], 0), (some (.getfield 45), 2, 1, [], 0), (some (.iload_n 2), 0, 0, [], 0), (some (.iaload), 0, 0, [], 0), (some (.iastore), 0, 0, [], 0), (some (.aload_n 0), 0, 0, [], 0), (some (.getfield 18), 0, 2, [], 0), (some (.iload_n 3), 0, 0, [], 0), (some (.aload_n 1), 0, 0, [], 0), (some (.getfield 45), 2, 1, [], 0), (some (.iload_n 2), 0, 0, [], 0), (some (.iaload), 0, 0, [], 0), (some (.iastore), 0, 0, [], 0), (some (.aload_n 0), 0, 0, [], 0), (some (.getfield 21), 0, 3, [], 0), (some (.iload_n 3), 0, 0, [], 0), (some (.aload_n 1), 0, 0, [], 0), (some (.getfield 46), 2, 2, [], 0), (some (.iload_n 2), 0, 0, [], 0), (some (.iaload), 0, 0, [], 0), (some (.iastore), 0, 0, [], 0), (some (.aload_n 1), 0, 0, [], 0), (some (.getfield 47), 2, 4, [], 0), (some (.iload_n 2), 0, 0, [], 0), (some (.bipush 60), 0, 0, [], 60), (some (.imul), 0, 0, [], 0), (some (.aload_n 0), 0, 0, [], 0), (some (.getfield 31), 0, 6, [], 0), (some (.iload_n 3), 0, 0, [], 0), (some (.bipush 60), 0, 0, [], 60), (some (.imul), 0, 0, [], 0), (some (.bipush 60), 0, 0, [], 60), (some (.invokestatic 48), 1002, 0, [], 0), (some (.aload_n 0), 0, 0, [], 0), (some (.dup), 0, 0, [], 0), (some (.getfield 54), 0, 8, [], 0), (some (.aload_n 1), 0, 0, [], 0), (some (.getfield 57), 2, 3, [], 0), (some (.iload_n 2), 0, 0, [], 0), (some (.iaload), 0, 0, [], 0), (some (.iadd), 0, 0, [], 0), (some (.putfield 54), 0, 8, [], 0), (some (.aload_n 0), 0, 0, [], 0), (some (.dup), 0, 0, [], 0), (some (.getfield 34), 0, 7, [], 0), (some (.iconst 1), 0, 0, [], 1), (some (.iadd), 0, 0, [], 0), (some (.putfield 34), 0, 7, [], 0), (some (.iload_n 3), 0, 0, [], 0), (some (.ireturn), 0, 0, [], 0)] := rfl
set_option maxRecDepth 20000 in
theorem ok_1 : ∀ t, mm_okc (mm_m 1) t (lab_1 t) = true := by
  intro t
  unfold lab_1
  split <;> first | decide +kernel | rfl
/-! X0_isForSale -/
def lab_2 : Nat → List mm_E := fun t => match t with
  | 0 => [(some (.aload_n 0), 0, 0, [], 0), (some (.getfield 9), 0, 0, [], 0), (some (.iload_n 1), 0, 0, [], 0), (some (.iaload), 0, 0, [], 0), (some (.iload_n 2), 0, 0, [], 0), (some (.if_icmp .ne 16), 23, 0, [], 0), (some (.aload_n 0), 0, 0, [], 0), (some (.getfield 27), 0, 5, [], 0), (some (.iload_n 1), 0, 0, [], 0), (some (.baload), 0, 0, [], 0), (some (.ifCond .ne 7), 23, 0, [], 0), (some (.iconst 1), 0, 0, [], 1), (some (.goto 4), 24, 0, [], 0)]
  | 23 => [(some (.iconst 0), 0, 0, [], 0), (none, 24, 0, [], 0)]
  | 24 => [(some (.ireturn), 0, 0, [], 0)]
  | _ => []
theorem lb_2_0 : lab_2 0 = [(some (.aload_n 0), 0, 0, [], 0), (some (.getfield 9), 0, 0, [], 0), (some (.iload_n 1), 0, 0, [], 0), (some (.iaload), 0, 0, [], 0), (some (.iload_n 2), 0, 0, [], 0), (some (.if_icmp .ne 16), 23, 0, [], 0), (some (.aload_n 0), 0, 0, [], 0), (some (.getfield 27), 0, 5, [], 0), (some (.iload_n 1), 0, 0, [], 0), (some (.baload), 0, 0, [], 0), (some (.ifCond .ne 7), 23, 0, [], 0), (some (.iconst 1), 0, 0, [], 1), (some (.goto 4), 24, 0, [], 0)] := rfl
theorem lb_2_23 : lab_2 23 = [(some (.iconst 0), 0, 0, [], 0), (none, 24, 0, [], 0)] := rfl
theorem lb_2_24 : lab_2 24 = [(some (.ireturn), 0, 0, [], 0)] := rfl
set_option maxRecDepth 20000 in
theorem ok_2 : ∀ t, mm_okc (mm_m 2) t (lab_2 t) = true := by
  intro t
  unfold lab_2
  split <;> first | decide +kernel | rfl
/-! X0_stock -/
def lab_3 : Nat → List mm_E := fun t => match t with
  | 0 => [(some (.iconst 0), 0, 0, [], 0), (some (.istore_n 2), 0, 0, [], 0), (some (.iconst 0), 0, 0, [], 0), (some (.istore_n 3), 0, 0, [], 0), (none, 4, 0, [], 0)]
  | 4 => [(some (.iload_n 3), 0, 0, [], 0), (some (.aload_n 0), 0, 0, [], 0), (some (.getfield 34), 0, 7, [], 0), (some (.if_icmp .ge 27), 36, 0, [], 0), (some (.aload_n 0), 0, 0, [], 0), (some (.iload_n 3), 0, 0, [], 0), (some (.iload_n 1), 0, 0, [], 0), (some (.invokevirtual 59), 2, 3, [], 0), (some (.ifCond .eq 12), 30, 0, [], 0), (some (.iload_n 2), 0, 0, [], 0), (some (.aload_n 0), 0, 0, [], 0), (some (.getfield 18), 0, 2, [], 0), (some (.iload_n 3), 0, 0, [], 0), (some (.iaload), 0, 0, [], 0), (some (.iadd), 0, 0, [], 0), (some (.istore_n 2), 0, 0, [], 0), (none, 30, 0, [], 0)]
  | 30 => [(some (.iinc 3 1), 0, 0, [], 1), (some (.goto (-29)), 4, 0, [], 0)]
  | 36 => [(some (.iload_n 2), 0, 0, [], 0), (some (.ireturn), 0, 0, [], 0)]
  | _ => []
theorem lb_3_0 : lab_3 0 = [(some (.iconst 0), 0, 0, [], 0), (some (.istore_n 2), 0, 0, [], 0), (some (.iconst 0), 0, 0, [], 0), (some (.istore_n 3), 0, 0, [], 0), (none, 4, 0, [], 0)] := rfl
theorem lb_3_4 : lab_3 4 = [(some (.iload_n 3), 0, 0, [], 0), (some (.aload_n 0), 0, 0, [], 0), (some (.getfield 34), 0, 7, [], 0), (some (.if_icmp .ge 27), 36, 0, [], 0), (some (.aload_n 0), 0, 0, [], 0), (some (.iload_n 3), 0, 0, [], 0), (some (.iload_n 1), 0, 0, [], 0), (some (.invokevirtual 59), 2, 3, [], 0), (some (.ifCond .eq 12), 30, 0, [], 0), (some (.iload_n 2), 0, 0, [], 0), (some (.aload_n 0), 0, 0, [], 0), (some (.getfield 18), 0, 2, [], 0), (some (.iload_n 3), 0, 0, [], 0), (some (.iaload), 0, 0, [], 0), (some (.iadd), 0, 0, [], 0), (some (.istore_n 2), 0, 0, [], 0), (none, 30, 0, [], 0)] := rfl
theorem lb_3_30 : lab_3 30 = [(some (.iinc 3 1), 0, 0, [], 1), (some (.goto (-29)), 4, 0, [], 0)] := rfl
theorem lb_3_36 : lab_3 36 = [(some (.iload_n 2), 0, 0, [], 0), (some (.ireturn), 0, 0, [], 0)] := rfl
set_option maxRecDepth 20000 in
theorem ok_3 : ∀ t, mm_okc (mm_m 3) t (lab_3 t) = true := by
  intro t
  unfold lab_3
  split <;> first | decide +kernel | rfl
/-! X0_caseWorth -/
def lab_4 : Nat → List mm_E := fun t => match t with
  | 0 => [(some (.iload_n 3), 0, 0, [], 0), (some (.aload_n 0), 0, 0, [], 0), (some (.getfield 21), 0, 3, [], 0), (some (.iload_n 1), 0, 0, [], 0), (some (.iaload), 0, 0, [], 0), (some (.isub), 0, 0, [], 0), (some (.sipush 168), 0, 0, [], 168), (some (.idiv), 0, 0, [], 0), (some (.istore 4), 0, 0, [], 0), (some (.iload_n 2), 0, 0, [], 0), (some (.iload_n 2), 0, 0, [], 0), (some (.bipush 10), 0, 0, [], 10), (some (.idiv), 0, 0, [], 0), (some (.iconst 3), 0, 0, [], 3), (some (.iload 4), 0, 0, [], 0), (some (.iconst 4), 0, 0, [], 4), (some (.idiv), 0, 0, [], 0), (some (.invokestatic 63), 1000, 0, [], 0), (some (.imul), 0, 0, [], 0), (some (.iadd), 0, 0, [], 0), (some (.ireturn), 0, 0, [], 0)]
  | _ => []
theorem lb_4_0 : lab_4 0 = [(some (.iload_n 3), 0, 0, [], 0), (some (.aload_n 0), 0, 0, [], 0), (some (.getfield 21), 0, 3, [], 0), (some (.iload_n 1), 0, 0, [], 0), (some (.iaload), 0, 0, [], 0), (some (.isub), 0, 0, [], 0), (some (.sipush 168), 0, 0, [], 168), (some (.idiv), 0, 0, [], 0), (some (.istore 4), 0, 0, [], 0), (some (.iload_n 2), 0, 0, [], 0), (some (.iload_n 2), 0, 0, [], 0), (some (.bipush 10), 0, 0, [], 10), (some (.idiv), 0, 0, [], 0), (some (.iconst 3), 0, 0, [], 3), (some (.iload 4), 0, 0, [], 0), (some (.iconst 4), 0, 0, [], 4), (some (.idiv), 0, 0, [], 0), (some (.invokestatic 63), 1000, 0, [], 0), (some (.imul), 0, 0, [], 0), (some (.iadd), 0, 0, [], 0), (some (.ireturn), 0, 0, [], 0)] := rfl
set_option maxRecDepth 20000 in
theorem ok_4 : ∀ t, mm_okc (mm_m 4) t (lab_4 t) = true := by
  intro t
  unfold lab_4
  split <;> first | decide +kernel | rfl
/-! X0_deliver -/
def lab_5 : Nat → List mm_E := fun t => match t with
  | 0 => [(some (.iload_n 3), 0, 0, [], 0), (some (.istore 6), 0, 0, [], 0), (some (.iconst 0), 0, 0, [], 0), (some (.istore 7), 0, 0, [], 0), (some (.iconst 0), 0, 0, [], 0), (some (.istore 8), 0, 0, [], 0), (none, 9, 0, [], 0)]
  | 9 => [(some (.iload 8), 0, 0, [], 0), (some (.aload_n 0), 0, 0, [], 0), (some (.getfield 34), 0, 7, [], 0), (some (.if_icmp .ge 98), 113, 0, [], 0), (some (.iload 6), 0, 0, [], 0), (some (.ifCond .le 93), 113, 0, [], 0), (some (.aload_n 0), 0, 0, [], 0), (some (.iload 8), 0, 0, [], 0), (some (.iload_n 2), 0, 0, [], 0), (some (.invokevirtual 59), 2, 3, [], 0), (some (.ifCond .eq 77), 107, 0, [], 0), (some (.aload_n 0), 0, 0, [], 0), (some (.getfield 18), 0, 2, [], 0), (some (.iload 8), 0, 0, [], 0), (some (.iaload), 0, 0, [], 0), (some (.ifCond .le 67), 107, 0, [], 0), (some (.aload_n 0), 0, 0, [], 0), (some (.getfield 18), 0, 2, [], 0), (some (.iload 8), 0, 0, [], 0), (some (.iaload), 0, 0, [], 0), (some (.iload 6), 0, 0, [], 0), (some (.invokestatic 63), 1000, 0, [], 0), (some (.istore 9), 0, 0, [], 0), (some (.aload_n 0), 0, 0, [], 0), (some (.getfield 18), 0, 2, [], 0), (some (.iload 8), 0, 0, [], 0), (some (.dup2), 0, 0, [], 0), (some (.iaload), 0, 0, [], 0), (some (.iload 9), 0, 0, [], 0), (some (.isub), 0, 0, [], 0), (some (.iastore), 0, 0, [], 0), (some (.iload 6), 0, 0, [], 0), (some (.iload 9), 0, 0, [], 0), (some (.isub), 0, 0, [], 0), (some (.istore 6), 0, 0, [], 0), (some (.iload 7), 0, 0, [], 0), (some (.iload 9), 0, 0, [], 0), (some (.aload_n 0), 0, 0, [], 0), (some (.iload 8), 0, 0, [], 0), (some (.iload 4), 0, 0, [], 0), (some (.iload 5), 0, 0, [], 0), (some (.invokevirtual 69), 4, 4, [], 0), (some (.imul), 0, 0, [], 0), (some (.iadd), 0, 0, [], 0), (some (.istore 7), 0, 0, [], 0), (some (.aload_n 0), 0, 0, [], 0), (some (.getfield 24), 0, 4, [], 0), (some (.iload 8), 0, 0, [], 0), (some (.dup2), 0, 0, [], 0), (some (.iaload), 0, 0, [], 0), (some (.iconst 1), 0, 0, [], 1), (some (.iload_n 1), 0, 0, [], 0), (some (.ishl), 0, 0, [], 0), (some (.ior), 0, 0, [], 0), (some (.iastore), 0, 0, [], 0), (none, 107, 0, [], 0)]
  | 107 => [(some (.iinc 8 1), 0, 0, [], 1), (some (.goto (-101)), 9, 0, [], 0)]
  | 113 => [(some (.iload 7), 0, 0, [], 0), (some (.ireturn), 0, 0, [], 0)]
  | _ => []
theorem lb_5_0 : lab_5 0 = [(some (.iload_n 3), 0, 0, [], 0), (some (.istore 6), 0, 0, [], 0), (some (.iconst 0), 0, 0, [], 0), (some (.istore 7), 0, 0, [], 0), (some (.iconst 0), 0, 0, [], 0), (some (.istore 8), 0, 0, [], 0), (none, 9, 0, [], 0)] := rfl
theorem lb_5_9 : lab_5 9 = [(some (.iload 8), 0, 0, [], 0), (some (.aload_n 0), 0, 0, [], 0), (some (.getfield 34), 0, 7, [], 0), (some (.if_icmp .ge 98), 113, 0, [], 0), (some (.iload 6), 0, 0, [], 0), (some (.ifCond .le 93), 113, 0, [], 0), (some (.aload_n 0), 0, 0, [], 0), (some (.iload 8), 0, 0, [], 0), (some (.iload_n 2), 0, 0, [], 0), (some (.invokevirtual 59), 2, 3, [], 0), (some (.ifCond .eq 77), 107, 0, [], 0), (some (.aload_n 0), 0, 0, [], 0), (some (.getfield 18), 0, 2, [], 0), (some (.iload 8), 0, 0, [], 0), (some (.iaload), 0, 0, [], 0), (some (.ifCond .le 67), 107, 0, [], 0), (some (.aload_n 0), 0, 0, [], 0), (some (.getfield 18), 0, 2, [], 0), (some (.iload 8), 0, 0, [], 0), (some (.iaload), 0, 0, [], 0), (some (.iload 6), 0, 0, [], 0), (some (.invokestatic 63), 1000, 0, [], 0), (some (.istore 9), 0, 0, [], 0), (some (.aload_n 0), 0, 0, [], 0), (some (.getfield 18), 0, 2, [], 0), (some (.iload 8), 0, 0, [], 0), (some (.dup2), 0, 0, [], 0), (some (.iaload), 0, 0, [], 0), (some (.iload 9), 0, 0, [], 0), (some (.isub), 0, 0, [], 0), (some (.iastore), 0, 0, [], 0), (some (.iload 6), 0, 0, [], 0), (some (.iload 9), 0, 0, [], 0), (some (.isub), 0, 0, [], 0), (some (.istore 6), 0, 0, [], 0), (some (.iload 7), 0, 0, [], 0), (some (.iload 9), 0, 0, [], 0), (some (.aload_n 0), 0, 0, [], 0), (some (.iload 8), 0, 0, [], 0), (some (.iload 4), 0, 0, [], 0), (some (.iload 5), 0, 0, [], 0), (some (.invokevirtual 69), 4, 4, [], 0), (some (.imul), 0, 0, [], 0), (some (.iadd), 0, 0, [], 0), (some (.istore 7), 0, 0, [], 0), (some (.aload_n 0), 0, 0, [], 0), (some (.getfield 24), 0, 4, [], 0), (some (.iload 8), 0, 0, [], 0), (some (.dup2), 0, 0, [], 0), (some (.iaload), 0, 0, [], 0), (some (.iconst 1), 0, 0, [], 1), (some (.iload_n 1), 0, 0, [], 0), (some (.ishl), 0, 0, [], 0), (some (.ior), 0, 0, [], 0), (some (.iastore), 0, 0, [], 0), (none, 107, 0, [], 0)] := rfl
theorem lb_5_107 : lab_5 107 = [(some (.iinc 8 1), 0, 0, [], 1), (some (.goto (-101)), 9, 0, [], 0)] := rfl
theorem lb_5_113 : lab_5 113 = [(some (.iload 7), 0, 0, [], 0), (some (.ireturn), 0, 0, [], 0)] := rfl
set_option maxRecDepth 20000 in
theorem ok_5 : ∀ t, mm_okc (mm_m 5) t (lab_5 t) = true := by
  intro t
  unfold lab_5
  split <;> first | decide +kernel | rfl
/-! X0_bar -/
def lab_6 : Nat → List mm_E := fun t => match t with
  | 0 => [(some (.iconst 0), 0, 0, [], 0), (some (.istore_n 2), 0, 0, [], 0), (some (.iconst 0), 0, 0, [], 0), (some (.istore_n 3), 0, 0, [], 0), (none, 4, 0, [], 0)]
  | 4 => [(some (.iload_n 3), 0, 0, [], 0), (some (.aload_n 0), 0, 0, [], 0), (some (.getfield 34), 0, 7, [], 0), (some (.if_icmp .ge 39), 48, 0, [], 0), (some (.aload_n 0), 0, 0, [], 0), (some (.getfield 31), 0, 6, [], 0), (some (.iload_n 3), 0, 0, [], 0), (some (.bipush 60), 0, 0, [], 60), (some (.imul), 0, 0, [], 0), (some (.iload_n 1), 0, 0, [], 0), (some (.iadd), 0, 0, [], 0), (some (.iaload), 0, 0, [], 0), (some (.ifCond .le 19), 42, 0, [], 0), (some (.aload_n 0), 0, 0, [], 0), (some (.getfield 27), 0, 5, [], 0), (some (.iload_n 3), 0, 0, [], 0), (some (.iconst 1), 0, 0, [], 1), (some (.bastore), 0, 0, [], 0), (some (.iload_n 2), 0, 0, [], 0), (some (.aload_n 0), 0, 0, [], 0), (some (.getfield 24), 0, 4, [], 0), (some (.iload_n 3), 0, 0, [], 0), (some (.iaload), 0, 0, [], 0), (some (.ior), 0, 0, [], 0), (some (.istore_n 2), 0, 0, [], 0), (none, 42, 0, [], 0)]
  | 42 => [(some (.iinc 3 1), 0, 0, [], 1), (some (.goto (-41)), 4, 0, [], 0)]
  | 48 => [(some (.iload_n 2), 0, 0, [], 0), (some (.ireturn), 0, 0, [], 0)]
  | _ => []
theorem lb_6_0 : lab_6 0 = [(some (.iconst 0), 0, 0, [], 0), (some (.istore_n 2), 0, 0, [], 0), (some (.iconst 0), 0, 0, [], 0), (some (.istore_n 3), 0, 0, [], 0), (none, 4, 0, [], 0)] := rfl
theorem lb_6_4 : lab_6 4 = [(some (.iload_n 3), 0, 0, [], 0), (some (.aload_n 0), 0, 0, [], 0), (some (.getfield 34), 0, 7, [], 0), (some (.if_icmp .ge 39), 48, 0, [], 0), (some (.aload_n 0), 0, 0, [], 0), (some (.getfield 31), 0, 6, [], 0), (some (.iload_n 3), 0, 0, [], 0), (some (.bipush 60), 0, 0, [], 60), (some (.imul), 0, 0, [], 0), (some (.iload_n 1), 0, 0, [], 0), (some (.iadd), 0, 0, [], 0), (some (.iaload), 0, 0, [], 0), (some (.ifCond .le 19), 42, 0, [], 0), (some (.aload_n 0), 0, 0, [], 0), (some (.getfield 27), 0, 5, [], 0), (some (.iload_n 3), 0, 0, [], 0), (some (.iconst 1), 0, 0, [], 1), (some (.bastore), 0, 0, [], 0), (some (.iload_n 2), 0, 0, [], 0), (some (.aload_n 0), 0, 0, [], 0), (some (.getfield 24), 0, 4, [], 0), (some (.iload_n 3), 0, 0, [], 0), (some (.iaload), 0, 0, [], 0), (some (.ior), 0, 0, [], 0), (some (.istore_n 2), 0, 0, [], 0), (none, 42, 0, [], 0)] := rfl
theorem lb_6_42 : lab_6 42 = [(some (.iinc 3 1), 0, 0, [], 1), (some (.goto (-41)), 4, 0, [], 0)] := rfl
theorem lb_6_48 : lab_6 48 = [(some (.iload_n 2), 0, 0, [], 0), (some (.ireturn), 0, 0, [], 0)] := rfl
set_option maxRecDepth 20000 in
theorem ok_6 : ∀ t, mm_okc (mm_m 6) t (lab_6 t) = true := by
  intro t
  unfold lab_6
  split <;> first | decide +kernel | rfl
/-! X1_has -/
def lab_7 : Nat → List mm_E := fun t => match t with
  | 0 => [(some (.iload_n 1), 0, 0, [], 0), (some (.iconst 0), 0, 0, [], 0), (some (.aload_n 0), 0, 0, [], 0), (some (.getfield 34), 1, 7, [], 0), (some (.iconst 1), 0, 0, [], 1), (some (.isub), 0, 0, [], 0), (some (.invokestatic 38), 65, 3, [], 0), (some (.ireturn), 0, 0, [], 0)]
  | _ => []
theorem lb_7_0 : lab_7 0 = [(some (.iload_n 1), 0, 0, [], 0), (some (.iconst 0), 0, 0, [], 0), (some (.aload_n 0), 0, 0, [], 0), (some (.getfield 34), 1, 7, [], 0), (some (.iconst 1), 0, 0, [], 1), (some (.isub), 0, 0, [], 0), (some (.invokestatic 38), 65, 3, [], 0), (some (.ireturn), 0, 0, [], 0)] := rfl
set_option maxRecDepth 20000 in
theorem ok_7 : ∀ t, mm_okc (mm_m 7) t (lab_7 t) = true := by
  intro t
  unfold lab_7
  split <;> first | decide +kernel | rfl
/-! X1_add -/
def lab_8 : Nat → List mm_E := fun t => match t with
  | 0 => [(some (.aload_n 0), 0, 0, [], 0), (some (.getfield 34), 1, 7, [], 0), (some (.bipush 20), 0, 0, [], 20), (some (.if_icmp .lt 5), 11, 0, [], 0), (some (.iconst (-1)), 0, 0, [], (-1)), (some (.ireturn), 0, 0, [], 0)]
  | 11 => [(some (.aload_n 0), 0, 0, [], 0), (some (.getfield 34), 1, 7, [], 0), (some (.istore 5), 0, 0, [], 0), (some (.aload_n 0), 0, 0, [], 0), (some (.getfield 9), 1, 0, [], 0), (some (.iload 5), 0, 0, [], 0), (some (.iload_n 1), 0, 0, [], 0), (some (.iastore), 0, 0, [], 0), (some (.aload_n 0), 0, 0, [], 0), (some (.getfield 15), 1, 1, [], 0), (some (.iload 5), 0, 0, [], 0), (some (.iload_n 2), 0, 0, [], 0), (some (.iastore), 0, 0, [], 0), (some (.aload_n 0), 0, 0, [], 0), (some (.getfield 18), 1, 2, [], 0), (some (.iload 5), 0, 0, [], 0), (some (.iload_n 3), 0, 0, [], 0), (some (.iastore), 0, 0, [], 0), (some (.aload_n 0), 0, 0, [], 0), (some (.getfield 21), 1, 3, [], 0), (some (.iload 5), 0, 0, [], 0), (some (.iload 4), 0, 0, [], 0), (some (.iastore), 0, 0, [], 0), (some (.aload_n 0), 0, 0, [], 0), (some (.getfield 31), 1, 6, [], 0), (some (.aload_n 0), 0, 0, [], 0), (some (.getfield 21), 1, 3, [], 0), (some (.iload 5), 0, 0, [], 0), (some (.invokestatic 42), 67, 3, [], 0), (some (.aload_n 0), 0, 0, [], 0), (some (.dup), 0, 0, [], 0), (some (.getfield 34), 1, 7, [], 0), (some (.iconst 1), 0, 0, [], 1), (some (.iadd), 0, 0, [], 0), (some (.putfield 34), 1, 7, [], 0), (some (.iload 5), 0, 0, [], 0), (some (.ireturn), 0, 0, [], 0)]
  | _ => []
theorem lb_8_0 : lab_8 0 = [(some (.aload_n 0), 0, 0, [], 0), (some (.getfield 34), 1, 7, [], 0), (some (.bipush 20), 0, 0, [], 20), (some (.if_icmp .lt 5), 11, 0, [], 0), (some (.iconst (-1)), 0, 0, [], (-1)), (some (.ireturn), 0, 0, [], 0)] := rfl
theorem lb_8_11 : lab_8 11 = [(some (.aload_n 0), 0, 0, [], 0), (some (.getfield 34), 1, 7, [], 0), (some (.istore 5), 0, 0, [], 0), (some (.aload_n 0), 0, 0, [], 0), (some (.getfield 9), 1, 0, [], 0), (some (.iload 5), 0, 0, [], 0), (some (.iload_n 1), 0, 0, [], 0), (some (.iastore), 0, 0, [], 0), (some (.aload_n 0), 0, 0, [], 0), (some (.getfield 15), 1, 1, [], 0), (some (.iload 5), 0, 0, [], 0), (some (.iload_n 2), 0, 0, [], 0), (some (.iastore), 0, 0, [], 0), (some (.aload_n 0), 0, 0, [], 0), (some (.getfield 18), 1, 2, [], 0), (some (.iload 5), 0, 0, [], 0), (some (.iload_n 3), 0, 0, [], 0), (some (.iastore), 0, 0, [], 0), (some (.aload_n 0), 0, 0, [], 0), (some (.getfield 21), 1, 3, [], 0), (some (.iload 5), 0, 0, [], 0), (some (.iload 4), 0, 0, [], 0), (some (.iastore), 0, 0, [], 0), (some (.aload_n 0), 0, 0, [], 0), (some (.getfield 31), 1, 6, [], 0), (some (.aload_n 0), 0, 0, [], 0), (some (.getfield 21), 1, 3, [], 0), (some (.iload 5), 0, 0, [], 0), (some (.invokestatic 42), 67, 3, [], 0), (some (.aload_n 0), 0, 0, [], 0), (some (.dup), 0, 0, [], 0), (some (.getfield 34), 1, 7, [], 0), (some (.iconst 1), 0, 0, [], 1), (some (.iadd), 0, 0, [], 0), (some (.putfield 34), 1, 7, [], 0), (some (.iload 5), 0, 0, [], 0), (some (.ireturn), 0, 0, [], 0)] := rfl
set_option maxRecDepth 20000 in
theorem ok_8 : ∀ t, mm_okc (mm_m 8) t (lab_8 t) = true := by
  intro t
  unfold lab_8
  split <;> first | decide +kernel | rfl
/-! X1_serve -/
def lab_9 : Nat → List mm_E := fun t => match t with
  | 0 => [(some (.iload_n 3), 0, 0, [], 0), (some (.istore 4), 0, 0, [], 0), (some (.iconst 0), 0, 0, [], 0), (some (.istore 5), 0, 0, [], 0), (none, 6, 0, [], 0)]
  | 6 => [(some (.iload 5), 0, 0, [], 0), (some (.aload_n 0), 0, 0, [], 0), (some (.getfield 34), 1, 7, [], 0), (some (.if_icmp .ge 96), 108, 0, [], 0), (some (.iload 4), 0, 0, [], 0), (some (.ifCond .le 91), 108, 0, [], 0), (some (.aload_n 0), 0, 0, [], 0), (some (.getfield 31), 1, 6, [], 0), (some (.iload 5), 0, 0, [], 0), (some (.iaload), 0, 0, [], 0), (some (.istore 6), 0, 0, [], 0), (some (.aload_n 0), 0, 0, [], 0), (some (.getfield 27), 1, 5, [], 0), (some (.iload 6), 0, 0, [], 0), (some (.baload), 0, 0, [], 0), (some (.ifCond .ne 66), 102, 0, [], 0), (some (.aload_n 0), 0, 0, [], 0), (some (.getfield 9), 1, 0, [], 0), (some (.iload 6), 0, 0, [], 0), (some (.iaload), 0, 0, [], 0), (some (.iload_n 1), 0, 0, [], 0), (some (.if_icmp .ne 55), 102, 0, [], 0), (some (.aload_n 0), 0, 0, [], 0), (some (.getfield 15), 1, 1, [], 0), (some (.iload 6), 0, 0, [], 0), (some (.iaload), 0, 0, [], 0), (some (.iload_n 2), 0, 0, [], 0), (some (.if_icmp .ne 44), 102, 0, [], 0), (some (.aload_n 0), 0, 0, [], 0), (some (.getfield 18), 1, 2, [], 0), (some (.iload 6), 0, 0, [], 0), (some (.iaload), 0, 0, [], 0), (some (.aload_n 0), 0, 0, [], 0), (some (.getfield 24), 1, 4, [], 0), (some (.iload 6), 0, 0, [], 0), (some (.iaload), 0, 0, [], 0), (some (.isub), 0, 0, [], 0), (some (.iload 4), 0, 0, [], 0), (some (.invokestatic 46), 1000, 0, [], 0), (some (.istore 7), 0, 0, [], 0), (some (.aload_n 0), 0, 0, [], 0), (some (.getfield 24), 1, 4, [], 0), (some (.iload 6), 0, 0, [], 0), (some (.dup2), 0, 0, [], 0), (some (.iaload), 0, 0, [], 0), (some (.iload 7), 0, 0, [], 0), (some (.iadd), 0, 0, [], 0), (some (.iastore), 0, 0, [], 0), (some (.iload 4), 0, 0, [], 0), (some (.iload 7), 0, 0, [], 0), (some (.isub), 0, 0, [], 0), (some (.istore 4), 0, 0, [], 0), (none, 102, 0, [], 0)]
  | 102 => [(some (.iinc 5 1), 0, 0, [], 1), (some (.goto (-99)), 6, 0, [], 0)]
  | 108 => [(some (.return_), 0, 0, [], 0)]
  | _ => []
theorem lb_9_0 : lab_9 0 = [(some (.iload_n 3), 0, 0, [], 0), (some (.istore 4), 0, 0, [], 0), (some (.iconst 0), 0, 0, [], 0), (some (.istore 5), 0, 0, [], 0), (none, 6, 0, [], 0)] := rfl
theorem lb_9_6 : lab_9 6 = [(some (.iload 5), 0, 0, [], 0), (some (.aload_n 0), 0, 0, [], 0), (some (.getfield 34), 1, 7, [], 0), (some (.if_icmp .ge 96), 108, 0, [], 0), (some (.iload 4), 0, 0, [], 0), (some (.ifCond .le 91), 108, 0, [], 0), (some (.aload_n 0), 0, 0, [], 0), (some (.getfield 31), 1, 6, [], 0), (some (.iload 5), 0, 0, [], 0), (some (.iaload), 0, 0, [], 0), (some (.istore 6), 0, 0, [], 0), (some (.aload_n 0), 0, 0, [], 0), (some (.getfield 27), 1, 5, [], 0), (some (.iload 6), 0, 0, [], 0), (some (.baload), 0, 0, [], 0), (some (.ifCond .ne 66), 102, 0, [], 0), (some (.aload_n 0), 0, 0, [], 0), (some (.getfield 9), 1, 0, [], 0), (some (.iload 6), 0, 0, [], 0), (some (.iaload), 0, 0, [], 0), (some (.iload_n 1), 0, 0, [], 0), (some (.if_icmp .ne 55), 102, 0, [], 0), (some (.aload_n 0), 0, 0, [], 0), (some (.getfield 15), 1, 1, [], 0), (some (.iload 6), 0, 0, [], 0), (some (.iaload), 0, 0, [], 0), (some (.iload_n 2), 0, 0, [], 0), (some (.if_icmp .ne 44), 102, 0, [], 0), (some (.aload_n 0), 0, 0, [], 0), (some (.getfield 18), 1, 2, [], 0), (some (.iload 6), 0, 0, [], 0), (some (.iaload), 0, 0, [], 0), (some (.aload_n 0), 0, 0, [], 0), (some (.getfield 24), 1, 4, [], 0), (some (.iload 6), 0, 0, [], 0), (some (.iaload), 0, 0, [], 0), (some (.isub), 0, 0, [], 0), (some (.iload 4), 0, 0, [], 0), (some (.invokestatic 46), 1000, 0, [], 0), (some (.istore 7), 0, 0, [], 0), (some (.aload_n 0), 0, 0, [], 0), (some (.getfield 24), 1, 4, [], 0), (some (.iload 6), 0, 0, [], 0), (some (.dup2), 0, 0, [], 0), (some (.iaload), 0, 0, [], 0), (some (.iload 7), 0, 0, [], 0), (some (.iadd), 0, 0, [], 0), (some (.iastore), 0, 0, [], 0), (some (.iload 4), 0, 0, [], 0), (some (.iload 7), 0, 0, [], 0), (some (.isub), 0, 0, [], 0), (some (.istore 4), 0, 0, [], 0), (none, 102, 0, [], 0)] := rfl
theorem lb_9_102 : lab_9 102 = [(some (.iinc 5 1), 0, 0, [], 1), (some (.goto (-99)), 6, 0, [], 0)] := rfl
theorem lb_9_108 : lab_9 108 = [(some (.return_), 0, 0, [], 0)] := rfl
set_option maxRecDepth 20000 in
theorem ok_9 : ∀ t, mm_okc (mm_m 9) t (lab_9 t) = true := by
  intro t
  unfold lab_9
  split <;> first | decide +kernel | rfl
/-! X1_shortOf -/
def lab_10 : Nat → List mm_E := fun t => match t with
  | 0 => [(some (.iload_n 2), 0, 0, [], 0), (some (.istore_n 3), 0, 0, [], 0), (some (.iconst 0), 0, 0, [], 0), (some (.istore 4), 0, 0, [], 0), (none, 5, 0, [], 0)]
  | 5 => [(some (.iload 4), 0, 0, [], 0), (some (.aload_n 0), 0, 0, [], 0), (some (.getfield 34), 1, 7, [], 0), (some (.if_icmp .ge 77), 88, 0, [], 0), (some (.aload_n 0), 0, 0, [], 0), (some (.getfield 31), 1, 6, [], 0), (some (.iload 4), 0, 0, [], 0), (some (.iaload), 0, 0, [], 0), (some (.iload_n 1), 0, 0, [], 0), (some (.if_icmp .eq 66), 88, 0, [], 0), (some (.aload_n 0), 0, 0, [], 0), (some (.getfield 31), 1, 6, [], 0), (some (.iload 4), 0, 0, [], 0), (some (.iaload), 0, 0, [], 0), (some (.istore 5), 0, 0, [], 0), (some (.aload_n 0), 0, 0, [], 0), (some (.getfield 27), 1, 5, [], 0), (some (.iload 5), 0, 0, [], 0), (some (.baload), 0, 0, [], 0), (some (.ifCond .ne 41), 82, 0, [], 0), (some (.aload_n 0), 0, 0, [], 0), (some (.getfield 15), 1, 1, [], 0), (some (.iload 5), 0, 0, [], 0), (some (.iaload), 0, 0, [], 0), (some (.aload_n 0), 0, 0, [], 0), (some (.getfield 15), 1, 1, [], 0), (some (.iload_n 1), 0, 0, [], 0), (some (.iaload), 0, 0, [], 0), (some (.if_icmp .ne 25), 82, 0, [], 0), (some (.iload_n 3), 0, 0, [], 0), (some (.aload_n 0), 0, 0, [], 0), (some (.getfield 18), 1, 2, [], 0), (some (.iload 5), 0, 0, [], 0), (some (.iaload), 0, 0, [], 0), (some (.aload_n 0), 0, 0, [], 0), (some (.getfield 24), 1, 4, [], 0), (some (.iload 5), 0, 0, [], 0), (some (.iaload), 0, 0, [], 0), (some (.isub), 0, 0, [], 0), (some (.iload_n 3), 0, 0, [], 0), (some (.invokestatic 46), 1000, 0, [], 0), (some (.isub), 0, 0, [], 0), (some (.istore_n 3), 0, 0, [], 0), (none, 82, 0, [], 0)]
  | 82 => [(some (.iinc 4 1), 0, 0, [], 1), (some (.goto (-80)), 5, 0, [], 0)]
  | 88 => [(some (.iconst 0), 0, 0, [], 0), (some (.aload_n 0), 0, 0, [], 0), (some (.getfield 18), 1, 2, [], 0), (some (.iload_n 1), 0, 0, [], 0), (some (.iaload), 0, 0, [], 0), (some (.aload_n 0), 0, 0, [], 0), (some (.getfield 24), 1, 4, [], 0), (some (.iload_n 1), 0, 0, [], 0), (some (.iaload), 0, 0, [], 0), (some (.isub), 0, 0, [], 0), (some (.iload_n 3), 0, 0, [], 0), (some (.isub), 0, 0, [], 0), (some (.invokestatic 52), 1001, 0, [], 0), (some (.ireturn), 0, 0, [], 0)]
  | _ => []
theorem lb_10_0 : lab_10 0 = [(some (.iload_n 2), 0, 0, [], 0), (some (.istore_n 3), 0, 0, [], 0), (some (.iconst 0), 0, 0, [], 0), (some (.istore 4), 0, 0, [], 0), (none, 5, 0, [], 0)] := rfl
theorem lb_10_5 : lab_10 5 = [(some (.iload 4), 0, 0, [], 0), (some (.aload_n 0), 0, 0, [], 0), (some (.getfield 34), 1, 7, [], 0), (some (.if_icmp .ge 77), 88, 0, [], 0), (some (.aload_n 0), 0, 0, [], 0), (some (.getfield 31), 1, 6, [], 0), (some (.iload 4), 0, 0, [], 0), (some (.iaload), 0, 0, [], 0), (some (.iload_n 1), 0, 0, [], 0), (some (.if_icmp .eq 66), 88, 0, [], 0), (some (.aload_n 0), 0, 0, [], 0), (some (.getfield 31), 1, 6, [], 0), (some (.iload 4), 0, 0, [], 0), (some (.iaload), 0, 0, [], 0), (some (.istore 5), 0, 0, [], 0), (some (.aload_n 0), 0, 0, [], 0), (some (.getfield 27), 1, 5, [], 0), (some (.iload 5), 0, 0, [], 0), (some (.baload), 0, 0, [], 0), (some (.ifCond .ne 41), 82, 0, [], 0), (some (.aload_n 0), 0, 0, [], 0), (some (.getfield 15), 1, 1, [], 0), (some (.iload 5), 0, 0, [], 0), (some (.iaload), 0, 0, [], 0), (some (.aload_n 0), 0, 0, [], 0), (some (.getfield 15), 1, 1, [], 0), (some (.iload_n 1), 0, 0, [], 0), (some (.iaload), 0, 0, [], 0), (some (.if_icmp .ne 25), 82, 0, [], 0), (some (.iload_n 3), 0, 0, [], 0), (some (.aload_n 0), 0, 0, [], 0), (some (.getfield 18), 1, 2, [], 0), (some (.iload 5), 0, 0, [], 0), (some (.iaload), 0, 0, [], 0), (some (.aload_n 0), 0, 0, [], 0), (some (.getfield 24), 1, 4, [], 0), (some (.iload 5), 0, 0, [], 0), (some (.iaload), 0, 0, [], 0), (some (.isub), 0, 0, [], 0), (some (.iload_n 3), 0, 0, [], 0), (some (.invokestatic 46), 1000, 0, [], 0), (some (.isub), 0, 0, [], 0), (some (.istore_n 3), 0, 0, [], 0), (none, 82, 0, [], 0)] := rfl
theorem lb_10_82 : lab_10 82 = [(some (.iinc 4 1), 0, 0, [], 1), (some (.goto (-80)), 5, 0, [], 0)] := rfl
theorem lb_10_88 : lab_10 88 = [(some (.iconst 0), 0, 0, [], 0), (some (.aload_n 0), 0, 0, [], 0), (some (.getfield 18), 1, 2, [], 0), (some (.iload_n 1), 0, 0, [], 0), (some (.iaload), 0, 0, [], 0), (some (.aload_n 0), 0, 0, [], 0), (some (.getfield 24), 1, 4, [], 0), (some (.iload_n 1), 0, 0, [], 0), (some (.iaload), 0, 0, [], 0), (some (.isub), 0, 0, [], 0), (some (.iload_n 3), 0, 0, [], 0), (some (.isub), 0, 0, [], 0), (some (.invokestatic 52), 1001, 0, [], 0), (some (.ireturn), 0, 0, [], 0)] := rfl
set_option maxRecDepth 20000 in
theorem ok_10 : ∀ t, mm_okc (mm_m 10) t (lab_10 t) = true := by
  intro t
  unfold lab_10
  split <;> first | decide +kernel | rfl
/-! X1_close -/
def lab_11 : Nat → List mm_E := fun t => match t with
  | 0 => [(some (.iconst 0), 0, 0, [], 0), (some (.istore_n 3), 0, 0, [], 0), (some (.iconst 0), 0, 0, [], 0), (some (.istore 4), 0, 0, [], 0), (none, 5, 0, [], 0)]
  | 5 => [(some (.iload 4), 0, 0, [], 0), (some (.aload_n 0), 0, 0, [], 0), (some (.getfield 34), 1, 7, [], 0), (some (.if_icmp .ge 68), 79, 0, [], 0), (some (.aload_n 0), 0, 0, [], 0), (some (.getfield 21), 1, 3, [], 0), (some (.iload 4), 0, 0, [], 0), (some (.iaload), 0, 0, [], 0), (some (.iload_n 1), 0, 0, [], 0), (some (.if_icmp .ne 51), 73, 0, [], 0), (some (.aload_n 0), 0, 0, [], 0), (some (.getfield 27), 1, 5, [], 0), (some (.iload 4), 0, 0, [], 0), (some (.baload), 0, 0, [], 0), (some (.ifCond .ne 41), 73, 0, [], 0), (some (.iload_n 3), 0, 0, [], 0), (some (.aload_n 0), 0, 0, [], 0), (some (.getfield 18), 1, 2, [], 0), (some (.iload 4), 0, 0, [], 0), (some (.iaload), 0, 0, [], 0), (some (.aload_n 0), 0, 0, [], 0), (some (.getfield 24), 1, 4, [], 0), (some (.iload 4), 0, 0, [], 0), (some (.iaload), 0, 0, [], 0), (some (.isub), 0, 0, [], 0), (some (.iconst 2), 0, 0, [], 2), (some (.imul), 0, 0, [], 0), (some (.aload_n 2), 0, 0, [], 0), (some (.aload_n 0), 0, 0, [], 0), (some (.getfield 15), 1, 1, [], 0), (some (.iload 4), 0, 0, [], 0), (some (.iaload), 0, 0, [], 0), (some (.iaload), 0, 0, [], 0), (some (.imul), 0, 0, [], 0), (some (.iadd), 0, 0, [], 0), (some (.istore_n 3), 0, 0, [], 0), (some (.aload_n 0), 0, 0, [], 0), (some (.getfield 27), 1, 5, [], 0), (some (.iload 4), 0, 0, [], 0), (some (.iconst 1), 0, 0, [], 1), (some (.bastore), 0, 0, [], 0), (none, 73, 0, [], 0)]
  | 73 => [(some (.iinc 4 1), 0, 0, [], 1), (some (.goto (-71)), 5, 0, [], 0)]
  | 79 => [(some (.iload_n 3), 0, 0, [], 0), (some (.ireturn), 0, 0, [], 0)]
  | _ => []
theorem lb_11_0 : lab_11 0 = [(some (.iconst 0), 0, 0, [], 0), (some (.istore_n 3), 0, 0, [], 0), (some (.iconst 0), 0, 0, [], 0), (some (.istore 4), 0, 0, [], 0), (none, 5, 0, [], 0)] := rfl
theorem lb_11_5 : lab_11 5 = [(some (.iload 4), 0, 0, [], 0), (some (.aload_n 0), 0, 0, [], 0), (some (.getfield 34), 1, 7, [], 0), (some (.if_icmp .ge 68), 79, 0, [], 0), (some (.aload_n 0), 0, 0, [], 0), (some (.getfield 21), 1, 3, [], 0), (some (.iload 4), 0, 0, [], 0), (some (.iaload), 0, 0, [], 0), (some (.iload_n 1), 0, 0, [], 0), (some (.if_icmp .ne 51), 73, 0, [], 0), (some (.aload_n 0), 0, 0, [], 0), (some (.getfield 27), 1, 5, [], 0), (some (.iload 4), 0, 0, [], 0), (some (.baload), 0, 0, [], 0), (some (.ifCond .ne 41), 73, 0, [], 0), (some (.iload_n 3), 0, 0, [], 0), (some (.aload_n 0), 0, 0, [], 0), (some (.getfield 18), 1, 2, [], 0), (some (.iload 4), 0, 0, [], 0), (some (.iaload), 0, 0, [], 0), (some (.aload_n 0), 0, 0, [], 0), (some (.getfield 24), 1, 4, [], 0), (some (.iload 4), 0, 0, [], 0), (some (.iaload), 0, 0, [], 0), (some (.isub), 0, 0, [], 0), (some (.iconst 2), 0, 0, [], 2), (some (.imul), 0, 0, [], 0), (some (.aload_n 2), 0, 0, [], 0), (some (.aload_n 0), 0, 0, [], 0), (some (.getfield 15), 1, 1, [], 0), (some (.iload 4), 0, 0, [], 0), (some (.iaload), 0, 0, [], 0), (some (.iaload), 0, 0, [], 0), (some (.imul), 0, 0, [], 0), (some (.iadd), 0, 0, [], 0), (some (.istore_n 3), 0, 0, [], 0), (some (.aload_n 0), 0, 0, [], 0), (some (.getfield 27), 1, 5, [], 0), (some (.iload 4), 0, 0, [], 0), (some (.iconst 1), 0, 0, [], 1), (some (.bastore), 0, 0, [], 0), (none, 73, 0, [], 0)] := rfl
theorem lb_11_73 : lab_11 73 = [(some (.iinc 4 1), 0, 0, [], 1), (some (.goto (-71)), 5, 0, [], 0)] := rfl
theorem lb_11_79 : lab_11 79 = [(some (.iload_n 3), 0, 0, [], 0), (some (.ireturn), 0, 0, [], 0)] := rfl
set_option maxRecDepth 20000 in
theorem ok_11 : ∀ t, mm_okc (mm_m 11) t (lab_11 t) = true := by
  intro t
  unfold lab_11
  split <;> first | decide +kernel | rfl
/-! X2_isFree -/
def lab_12 : Nat → List mm_E := fun t => match t with
  | 0 => [(some (.aload_n 0), 0, 0, [], 0), (some (.getfield 9), 2, 0, [], 0), (some (.iload_n 1), 0, 0, [], 0), (some (.iaload), 0, 0, [], 0), (some (.iconst (-1)), 0, 0, [], (-1)), (some (.if_icmp .ne 7), 14, 0, [], 0), (some (.iconst 1), 0, 0, [], 1), (some (.goto 4), 15, 0, [], 0)]
  | 14 => [(some (.iconst 0), 0, 0, [], 0), (none, 15, 0, [], 0)]
  | 15 => [(some (.ireturn), 0, 0, [], 0)]
  | _ => []
theorem lb_12_0 : lab_12 0 = [(some (.aload_n 0), 0, 0, [], 0), (some (.getfield 9), 2, 0, [], 0), (some (.iload_n 1), 0, 0, [], 0), (some (.iaload), 0, 0, [], 0), (some (.iconst (-1)), 0, 0, [], (-1)), (some (.if_icmp .ne 7), 14, 0, [], 0), (some (.iconst 1), 0, 0, [], 1), (some (.goto 4), 15, 0, [], 0)] := rfl
theorem lb_12_14 : lab_12 14 = [(some (.iconst 0), 0, 0, [], 0), (none, 15, 0, [], 0)] := rfl
theorem lb_12_15 : lab_12 15 = [(some (.ireturn), 0, 0, [], 0)] := rfl
set_option maxRecDepth 20000 in
theorem ok_12 : ∀ t, mm_okc (mm_m 12) t (lab_12 t) = true := by
  intro t
  unfold lab_12
  split <;> first | decide +kernel | rfl
/-! X2_charges -/
def lab_13 : Nat → List mm_E := fun t => match t with
  | 0 => [(some (.iconst 0), 0, 0, [], 0), (some (.istore_n 1), 0, 0, [], 0), (some (.iconst 0), 0, 0, [], 0), (some (.istore_n 2), 0, 0, [], 0), (none, 4, 0, [], 0)]
  | 4 => [(some (.iload_n 2), 0, 0, [], 0), (some (.iconst 3), 0, 0, [], 3), (some (.if_icmp .ge 28), 34, 0, [], 0), (some (.iload_n 1), 0, 0, [], 0), (some (.aload_n 0), 0, 0, [], 0), (some (.iload_n 2), 0, 0, [], 0), (some (.invokevirtual 31), 12, 2, [], 0), (some (.ifCond .ne 7), 22, 0, [], 0), (some (.iconst 1), 0, 0, [], 1), (some (.goto 4), 23, 0, [], 0)]
  | 22 => [(some (.iconst 0), 0, 0, [], 0), (none, 23, 0, [], 0)]
  | 23 => [(some (.invokestatic 35), 66, 1, [], 0), (some (.iadd), 0, 0, [], 0), (some (.istore_n 1), 0, 0, [], 0), (some (.iinc 2 1), 0, 0, [], 1), (some (.goto (-27)), 4, 0, [], 0)]
  | 34 => [(some (.iload_n 1), 0, 0, [], 0), (some (.ireturn), 0, 0, [], 0)]
  | _ => []
theorem lb_13_0 : lab_13 0 = [(some (.iconst 0), 0, 0, [], 0), (some (.istore_n 1), 0, 0, [], 0), (some (.iconst 0), 0, 0, [], 0), (some (.istore_n 2), 0, 0, [], 0), (none, 4, 0, [], 0)] := rfl
theorem lb_13_4 : lab_13 4 = [(some (.iload_n 2), 0, 0, [], 0), (some (.iconst 3), 0, 0, [], 3), (some (.if_icmp .ge 28), 34, 0, [], 0), (some (.iload_n 1), 0, 0, [], 0), (some (.aload_n 0), 0, 0, [], 0), (some (.iload_n 2), 0, 0, [], 0), (some (.invokevirtual 31), 12, 2, [], 0), (some (.ifCond .ne 7), 22, 0, [], 0), (some (.iconst 1), 0, 0, [], 1), (some (.goto 4), 23, 0, [], 0)] := rfl
theorem lb_13_22 : lab_13 22 = [(some (.iconst 0), 0, 0, [], 0), (none, 23, 0, [], 0)] := rfl
theorem lb_13_23 : lab_13 23 = [(some (.invokestatic 35), 66, 1, [], 0), (some (.iadd), 0, 0, [], 0), (some (.istore_n 1), 0, 0, [], 0), (some (.iinc 2 1), 0, 0, [], 1), (some (.goto (-27)), 4, 0, [], 0)] := rfl
theorem lb_13_34 : lab_13 34 = [(some (.iload_n 1), 0, 0, [], 0), (some (.ireturn), 0, 0, [], 0)] := rfl
set_option maxRecDepth 20000 in
theorem ok_13 : ∀ t, mm_okc (mm_m 13) t (lab_13 t) = true := by
  intro t
  unfold lab_13
  split <;> first | decide +kernel | rfl
/-! X2_allKilograms -/
def lab_14 : Nat → List mm_E := fun t => match t with
  | 0 => [(some (.iconst 0), 0, 0, [], 0), (some (.istore_n 1), 0, 0, [], 0), (some (.iconst 0), 0, 0, [], 0), (some (.istore_n 2), 0, 0, [], 0), (none, 4, 0, [], 0)]
  | 4 => [(some (.iload_n 2), 0, 0, [], 0), (some (.iconst 3), 0, 0, [], 3), (some (.if_icmp .ge 18), 24, 0, [], 0), (some (.iload_n 1), 0, 0, [], 0), (some (.aload_n 0), 0, 0, [], 0), (some (.getfield 21), 2, 3, [], 0), (some (.iload_n 2), 0, 0, [], 0), (some (.iaload), 0, 0, [], 0), (some (.iadd), 0, 0, [], 0), (some (.istore_n 1), 0, 0, [], 0), (some (.iinc 2 1), 0, 0, [], 1), (some (.goto (-17)), 4, 0, [], 0)]
  | 24 => [(some (.iload_n 1), 0, 0, [], 0), (some (.ireturn), 0, 0, [], 0)]
  | _ => []
theorem lb_14_0 : lab_14 0 = [(some (.iconst 0), 0, 0, [], 0), (some (.istore_n 1), 0, 0, [], 0), (some (.iconst 0), 0, 0, [], 0), (some (.istore_n 2), 0, 0, [], 0), (none, 4, 0, [], 0)] := rfl
theorem lb_14_4 : lab_14 4 = [(some (.iload_n 2), 0, 0, [], 0), (some (.iconst 3), 0, 0, [], 3), (some (.if_icmp .ge 18), 24, 0, [], 0), (some (.iload_n 1), 0, 0, [], 0), (some (.aload_n 0), 0, 0, [], 0), (some (.getfield 21), 2, 3, [], 0), (some (.iload_n 2), 0, 0, [], 0), (some (.iaload), 0, 0, [], 0), (some (.iadd), 0, 0, [], 0), (some (.istore_n 1), 0, 0, [], 0), (some (.iinc 2 1), 0, 0, [], 1), (some (.goto (-17)), 4, 0, [], 0)] := rfl
theorem lb_14_24 : lab_14 24 = [(some (.iload_n 1), 0, 0, [], 0), (some (.ireturn), 0, 0, [], 0)] := rfl
set_option maxRecDepth 20000 in
theorem ok_14 : ∀ t, mm_okc (mm_m 14) t (lab_14 t) = true := by
  intro t
  unfold lab_14
  split <;> first | decide +kernel | rfl
/-! X2_fill -/
def lab_15 : Nat → List mm_E := fun t => match t with
  | 0 => [(some (.aload_n 0), 0, 0, [], 0), (some (.getfield 9), 2, 0, [], 0), (some (.iload_n 1), 0, 0, [], 0), (some (.iload_n 2), 0, 0, [], 0), (some (.iastore), 0, 0, [], 0), (some (.aload_n 0), 0, 0, [], 0), (some (.getfield 15), 2, 1, [], 0), (some (.iload_n 1), 0, 0, [], 0), (some (.iload_n 3), 0, 0, [], 0), (some (.iastore), 0, 0, [], 0), (some (.aload_n 0), 0, 0, [], 0), (some (.getfield 21), 2, 3, [], 0), (some (.iload_n 1), 0, 0, [], 0), (some (.iload 4), 0, 0, [], 0), (some (.iastore), 0, 0, [], 0), (some (.aload_n 0), 0, 0, [], 0), (some (.getfield 18), 2, 2, [], 0), (some (.iload_n 1), 0, 0, [], 0), (some (.iload 5), 0, 0, [], 0), (some (.iastore), 0, 0, [], 0), (some (.return_), 0, 0, [], 0)]
  | _ => []
theorem lb_15_0 : lab_15 0 = [(some (.aload_n 0), 0, 0, [], 0), (some (.getfield 9), 2, 0, [], 0), (some (.iload_n 1), 0, 0, [], 0), (some (.iload_n 2), 0, 0, [], 0), (some (.iastore), 0, 0, [], 0), (some (.aload_n 0), 0, 0, [], 0), (some (.getfield 15), 2, 1, [], 0), (some (.iload_n 1), 0, 0, [], 0), (some (.iload_n 3), 0, 0, [], 0), (some (.iastore), 0, 0, [], 0), (some (.aload_n 0), 0, 0, [], 0), (some (.getfield 21), 2, 3, [], 0), (some (.iload_n 1), 0, 0, [], 0), (some (.iload 4), 0, 0, [], 0), (some (.iastore), 0, 0, [], 0), (some (.aload_n 0), 0, 0, [], 0), (some (.getfield 18), 2, 2, [], 0), (some (.iload_n 1), 0, 0, [], 0), (some (.iload 5), 0, 0, [], 0), (some (.iastore), 0, 0, [], 0), (some (.return_), 0, 0, [], 0)] := rfl
set_option maxRecDepth 20000 in
theorem ok_15 : ∀ t, mm_okc (mm_m 15) t (lab_15 t) = true := by
  intro t
  unfold lab_15
  split <;> first | decide +kernel | rfl
/-! X2_empty -/
def lab_16 : Nat → List mm_E := fun t => match t with
  | 0 => [(some (.aload_n 0), 0, 0, [], 0), (some (.iload_n 1), 0, 0, [], 0), (some (.iconst (-1)), 0, 0, [], (-1)), (some (.iconst 0), 0, 0, [], 0), (some (.iconst 0), 0, 0, [], 0), (some (.iconst (-1)), 0, 0, [], (-1)), (some (.invokevirtual 39), 15, 6, [], 0), (some (.iconst 0), 0, 0, [], 0), (some (.istore_n 2), 0, 0, [], 0), (none, 11, 0, [], 0)]
  | 11 => [(some (.iload_n 2), 0, 0, [], 0), (some (.bipush 60), 0, 0, [], 60), (some (.if_icmp .ge 21), 35, 0, [], 0), (some (.aload_n 0), 0, 0, [], 0), (some (.getfield 24), 2, 4, [], 0), (some (.iload_n 1), 0, 0, [], 0), (some (.bipush 60), 0, 0, [], 60), (some (.imul), 0, 0, [], 0), (some (.iload_n 2), 0, 0, [], 0), (some (.iadd), 0, 0, [], 0), (some (.iconst 0), 0, 0, [], 0), (some (.iastore), 0, 0, [], 0), (some (.iinc 2 1), 0, 0, [], 1), (some (.goto (-21)), 11, 0, [], 0)]
  | 35 => [(some (.return_), 0, 0, [], 0)]
  | _ => []
theorem lb_16_0 : lab_16 0 = [(some (.aload_n 0), 0, 0, [], 0), (some (.iload_n 1), 0, 0, [], 0), (some (.iconst (-1)), 0, 0, [], (-1)), (some (.iconst 0), 0, 0, [], 0), (some (.iconst 0), 0, 0, [], 0), (some (.iconst (-1)), 0, 0, [], (-1)), (some (.invokevirtual 39), 15, 6, [], 0), (some (.iconst 0), 0, 0, [], 0), (some (.istore_n 2), 0, 0, [], 0), (none, 11, 0, [], 0)] := rfl
theorem lb_16_11 : lab_16 11 = [(some (.iload_n 2), 0, 0, [], 0), (some (.bipush 60), 0, 0, [], 60), (some (.if_icmp .ge 21), 35, 0, [], 0), (some (.aload_n 0), 0, 0, [], 0), (some (.getfield 24), 2, 4, [], 0), (some (.iload_n 1), 0, 0, [], 0), (some (.bipush 60), 0, 0, [], 60), (some (.imul), 0, 0, [], 0), (some (.iload_n 2), 0, 0, [], 0), (some (.iadd), 0, 0, [], 0), (some (.iconst 0), 0, 0, [], 0), (some (.iastore), 0, 0, [], 0), (some (.iinc 2 1), 0, 0, [], 1), (some (.goto (-21)), 11, 0, [], 0)] := rfl
theorem lb_16_35 : lab_16 35 = [(some (.return_), 0, 0, [], 0)] := rfl
set_option maxRecDepth 20000 in
theorem ok_16 : ∀ t, mm_okc (mm_m 16) t (lab_16 t) = true := by
  intro t
  unfold lab_16
  split <;> first | decide +kernel | rfl
/-! X3_isGone -/
def lab_17 : Nat → List mm_E := fun t => match t with
  | 0 => [(some (.aload_n 0), 0, 0, [], 0), (some (.getfield 9), 3, 0, [], 0), (some (.iload_n 1), 0, 0, [], 0), (some (.baload), 0, 0, [], 0), (some (.ifCond .eq 16), 22, 0, [], 0), (some (.iload_n 2), 0, 0, [], 0), (some (.aload_n 0), 0, 0, [], 0), (some (.getfield 15), 3, 1, [], 0), (some (.iload_n 1), 0, 0, [], 0), (some (.iaload), 0, 0, [], 0), (some (.bipush 8), 0, 0, [], 8), (some (.iadd), 0, 0, [], 0), (some (.if_icmp .lt 7), 26, 0, [], 0), (none, 22, 0, [], 0)]
  | 22 => [(some (.iconst 1), 0, 0, [], 1), (some (.goto 4), 27, 0, [], 0)]
  | 26 => [(some (.iconst 0), 0, 0, [], 0), (none, 27, 0, [], 0)]
  | 27 => [(some (.ireturn), 0, 0, [], 0)]
  | _ => []
theorem lb_17_0 : lab_17 0 = [(some (.aload_n 0), 0, 0, [], 0), (some (.getfield 9), 3, 0, [], 0), (some (.iload_n 1), 0, 0, [], 0), (some (.baload), 0, 0, [], 0), (some (.ifCond .eq 16), 22, 0, [], 0), (some (.iload_n 2), 0, 0, [], 0), (some (.aload_n 0), 0, 0, [], 0), (some (.getfield 15), 3, 1, [], 0), (some (.iload_n 1), 0, 0, [], 0), (some (.iaload), 0, 0, [], 0), (some (.bipush 8), 0, 0, [], 8), (some (.iadd), 0, 0, [], 0), (some (.if_icmp .lt 7), 26, 0, [], 0), (none, 22, 0, [], 0)] := rfl
theorem lb_17_22 : lab_17 22 = [(some (.iconst 1), 0, 0, [], 1), (some (.goto 4), 27, 0, [], 0)] := rfl
theorem lb_17_26 : lab_17 26 = [(some (.iconst 0), 0, 0, [], 0), (none, 27, 0, [], 0)] := rfl
theorem lb_17_27 : lab_17 27 = [(some (.ireturn), 0, 0, [], 0)] := rfl
set_option maxRecDepth 20000 in
theorem ok_17 : ∀ t, mm_okc (mm_m 17) t (lab_17 t) = true := by
  intro t
  unfold lab_17
  split <;> first | decide +kernel | rfl
/-! X3_there -/
def lab_18 : Nat → List mm_E := fun t => match t with
  | 0 => [(some (.iconst 0), 0, 0, [], 0), (some (.istore_n 2), 0, 0, [], 0), (some (.iconst 0), 0, 0, [], 0), (some (.istore_n 3), 0, 0, [], 0), (none, 4, 0, [], 0)]
  | 4 => [(some (.iload_n 3), 0, 0, [], 0), (some (.iconst 3), 0, 0, [], 3), (some (.if_icmp .ge 31), 37, 0, [], 0), (some (.aload_n 0), 0, 0, [], 0), (some (.iload_n 3), 0, 0, [], 0), (some (.iload_n 1), 0, 0, [], 0), (some (.invokevirtual 19), 17, 3, [], 0), (some (.ifCond .ne 16), 31, 0, [], 0), (some (.iload_n 1), 0, 0, [], 0), (some (.aload_n 0), 0, 0, [], 0), (some (.getfield 15), 3, 1, [], 0), (some (.iload_n 3), 0, 0, [], 0), (some (.iaload), 0, 0, [], 0), (some (.if_icmp .lt 6), 31, 0, [], 0), (some (.iinc 2 1), 0, 0, [], 1), (none, 31, 0, [], 0)]
  | 31 => [(some (.iinc 3 1), 0, 0, [], 1), (some (.goto (-30)), 4, 0, [], 0)]
  | 37 => [(some (.iload_n 2), 0, 0, [], 0), (some (.ireturn), 0, 0, [], 0)]
  | _ => []
theorem lb_18_0 : lab_18 0 = [(some (.iconst 0), 0, 0, [], 0), (some (.istore_n 2), 0, 0, [], 0), (some (.iconst 0), 0, 0, [], 0), (some (.istore_n 3), 0, 0, [], 0), (none, 4, 0, [], 0)] := rfl
theorem lb_18_4 : lab_18 4 = [(some (.iload_n 3), 0, 0, [], 0), (some (.iconst 3), 0, 0, [], 3), (some (.if_icmp .ge 31), 37, 0, [], 0), (some (.aload_n 0), 0, 0, [], 0), (some (.iload_n 3), 0, 0, [], 0), (some (.iload_n 1), 0, 0, [], 0), (some (.invokevirtual 19), 17, 3, [], 0), (some (.ifCond .ne 16), 31, 0, [], 0), (some (.iload_n 1), 0, 0, [], 0), (some (.aload_n 0), 0, 0, [], 0), (some (.getfield 15), 3, 1, [], 0), (some (.iload_n 3), 0, 0, [], 0), (some (.iaload), 0, 0, [], 0), (some (.if_icmp .lt 6), 31, 0, [], 0), (some (.iinc 2 1), 0, 0, [], 1), (none, 31, 0, [], 0)] := rfl
theorem lb_18_31 : lab_18 31 = [(some (.iinc 3 1), 0, 0, [], 1), (some (.goto (-30)), 4, 0, [], 0)] := rfl
theorem lb_18_37 : lab_18 37 = [(some (.iload_n 2), 0, 0, [], 0), (some (.ireturn), 0, 0, [], 0)] := rfl
set_option maxRecDepth 20000 in
theorem ok_18 : ∀ t, mm_okc (mm_m 18) t (lab_18 t) = true := by
  intro t
  unfold lab_18
  split <;> first | decide +kernel | rfl
/-! X4_canBe -/
def lab_19 : Nat → List mm_E := fun t => match t with
  | 0 => [(some (.iload_n 0), 0, 0, [], 0), (some (.invokestatic 31), 20, 1, [], 0), (some (.iconst 1), 0, 0, [], 1), (some (.bipush 7), 0, 0, [], 7), (some (.invokestatic 35), 65, 3, [], 0), (some (.ifCond .eq 44), 54, 0, [], 0), (some (.iload_n 0), 0, 0, [], 0), (some (.invokestatic 39), 21, 1, [], 0), (some (.iconst 0), 0, 0, [], 0), (some (.iconst 1), 0, 0, [], 1), (some (.invokestatic 35), 65, 3, [], 0), (some (.ifCond .eq 32), 54, 0, [], 0), (some (.iload_n 0), 0, 0, [], 0), (some (.invokestatic 42), 22, 1, [], 0), (some (.iconst 1), 0, 0, [], 1), (some (.bipush 9), 0, 0, [], 9), (some (.invokestatic 35), 65, 3, [], 0), (some (.ifCond .eq 19), 54, 0, [], 0), (some (.iload_n 0), 0, 0, [], 0), (some (.invokestatic 45), 23, 1, [], 0), (some (.iconst 1), 0, 0, [], 1), (some (.iconst 5), 0, 0, [], 5), (some (.invokestatic 35), 65, 3, [], 0), (some (.ifCond .eq 7), 54, 0, [], 0), (some (.iconst 1), 0, 0, [], 1), (some (.goto 4), 55, 0, [], 0)]
  | 54 => [(some (.iconst 0), 0, 0, [], 0), (none, 55, 0, [], 0)]
  | 55 => [(some (.ireturn), 0, 0, [], 0)]
  | _ => []
theorem lb_19_0 : lab_19 0 = [(some (.iload_n 0), 0, 0, [], 0), (some (.invokestatic 31), 20, 1, [], 0), (some (.iconst 1), 0, 0, [], 1), (some (.bipush 7), 0, 0, [], 7), (some (.invokestatic 35), 65, 3, [], 0), (some (.ifCond .eq 44), 54, 0, [], 0), (some (.iload_n 0), 0, 0, [], 0), (some (.invokestatic 39), 21, 1, [], 0), (some (.iconst 0), 0, 0, [], 0), (some (.iconst 1), 0, 0, [], 1), (some (.invokestatic 35), 65, 3, [], 0), (some (.ifCond .eq 32), 54, 0, [], 0), (some (.iload_n 0), 0, 0, [], 0), (some (.invokestatic 42), 22, 1, [], 0), (some (.iconst 1), 0, 0, [], 1), (some (.bipush 9), 0, 0, [], 9), (some (.invokestatic 35), 65, 3, [], 0), (some (.ifCond .eq 19), 54, 0, [], 0), (some (.iload_n 0), 0, 0, [], 0), (some (.invokestatic 45), 23, 1, [], 0), (some (.iconst 1), 0, 0, [], 1), (some (.iconst 5), 0, 0, [], 5), (some (.invokestatic 35), 65, 3, [], 0), (some (.ifCond .eq 7), 54, 0, [], 0), (some (.iconst 1), 0, 0, [], 1), (some (.goto 4), 55, 0, [], 0)] := rfl
theorem lb_19_54 : lab_19 54 = [(some (.iconst 0), 0, 0, [], 0), (none, 55, 0, [], 0)] := rfl
theorem lb_19_55 : lab_19 55 = [(some (.ireturn), 0, 0, [], 0)] := rfl
set_option maxRecDepth 20000 in
theorem ok_19 : ∀ t, mm_okc (mm_m 19) t (lab_19 t) = true := by
  intro t
  unfold lab_19
  split <;> first | decide +kernel | rfl
/-! X4_takesOf -/
def lab_20 : Nat → List mm_E := fun t => match t with
  | 0 => [(some (.iload_n 0), 0, 0, [], 0), (some (.sipush 1000), 0, 0, [], 1000), (some (.idiv), 0, 0, [], 0), (some (.ireturn), 0, 0, [], 0)]
  | _ => []
theorem lb_20_0 : lab_20 0 = [(some (.iload_n 0), 0, 0, [], 0), (some (.sipush 1000), 0, 0, [], 1000), (some (.idiv), 0, 0, [], 0), (some (.ireturn), 0, 0, [], 0)] := rfl
set_option maxRecDepth 20000 in
theorem ok_20 : ∀ t, mm_okc (mm_m 20) t (lab_20 t) = true := by
  intro t
  unfold lab_20
  split <;> first | decide +kernel | rfl
/-! X4_sauceOf -/
def lab_21 : Nat → List mm_E := fun t => match t with
  | 0 => [(some (.iload_n 0), 0, 0, [], 0), (some (.bipush 100), 0, 0, [], 100), (some (.idiv), 0, 0, [], 0), (some (.bipush 10), 0, 0, [], 10), (some (.irem), 0, 0, [], 0), (some (.ireturn), 0, 0, [], 0)]
  | _ => []
theorem lb_21_0 : lab_21 0 = [(some (.iload_n 0), 0, 0, [], 0), (some (.bipush 100), 0, 0, [], 100), (some (.idiv), 0, 0, [], 0), (some (.bipush 10), 0, 0, [], 10), (some (.irem), 0, 0, [], 0), (some (.ireturn), 0, 0, [], 0)] := rfl
set_option maxRecDepth 20000 in
theorem ok_21 : ∀ t, mm_okc (mm_m 21) t (lab_21 t) = true := by
  intro t
  unfold lab_21
  split <;> first | decide +kernel | rfl
/-! X4_fishOf -/
def lab_22 : Nat → List mm_E := fun t => match t with
  | 0 => [(some (.iload_n 0), 0, 0, [], 0), (some (.bipush 10), 0, 0, [], 10), (some (.idiv), 0, 0, [], 0), (some (.bipush 10), 0, 0, [], 10), (some (.irem), 0, 0, [], 0), (some (.ireturn), 0, 0, [], 0)]
  | _ => []
theorem lb_22_0 : lab_22 0 = [(some (.iload_n 0), 0, 0, [], 0), (some (.bipush 10), 0, 0, [], 10), (some (.idiv), 0, 0, [], 0), (some (.bipush 10), 0, 0, [], 10), (some (.irem), 0, 0, [], 0), (some (.ireturn), 0, 0, [], 0)] := rfl
set_option maxRecDepth 20000 in
theorem ok_22 : ∀ t, mm_okc (mm_m 22) t (lab_22 t) = true := by
  intro t
  unfold lab_22
  split <;> first | decide +kernel | rfl
/-! X4_hoursOf -/
def lab_23 : Nat → List mm_E := fun t => match t with
  | 0 => [(some (.iload_n 0), 0, 0, [], 0), (some (.bipush 10), 0, 0, [], 10), (some (.irem), 0, 0, [], 0), (some (.ireturn), 0, 0, [], 0)]
  | _ => []
theorem lb_23_0 : lab_23 0 = [(some (.iload_n 0), 0, 0, [], 0), (some (.bipush 10), 0, 0, [], 10), (some (.irem), 0, 0, [], 0), (some (.ireturn), 0, 0, [], 0)] := rfl
set_option maxRecDepth 20000 in
theorem ok_23 : ∀ t, mm_okc (mm_m 23) t (lab_23 t) = true := by
  intro t
  unfold lab_23
  split <;> first | decide +kernel | rfl
/-! X4_has -/
def lab_24 : Nat → List mm_E := fun t => match t with
  | 0 => [(some (.iload_n 1), 0, 0, [], 0), (some (.iconst 0), 0, 0, [], 0), (some (.iconst 3), 0, 0, [], 3), (some (.invokestatic 35), 65, 3, [], 0), (some (.ifCond .eq 16), 22, 0, [], 0), (some (.aload_n 0), 0, 0, [], 0), (some (.getfield 9), 4, 0, [], 0), (some (.iload_n 1), 0, 0, [], 0), (some (.baload), 0, 0, [], 0), (some (.ifCond .eq 7), 22, 0, [], 0), (some (.iconst 1), 0, 0, [], 1), (some (.goto 4), 23, 0, [], 0)]
  | 22 => [(some (.iconst 0), 0, 0, [], 0), (none, 23, 0, [], 0)]
  | 23 => [(some (.ireturn), 0, 0, [], 0)]
  | _ => []
theorem lb_24_0 : lab_24 0 = [(some (.iload_n 1), 0, 0, [], 0), (some (.iconst 0), 0, 0, [], 0), (some (.iconst 3), 0, 0, [], 3), (some (.invokestatic 35), 65, 3, [], 0), (some (.ifCond .eq 16), 22, 0, [], 0), (some (.aload_n 0), 0, 0, [], 0), (some (.getfield 9), 4, 0, [], 0), (some (.iload_n 1), 0, 0, [], 0), (some (.baload), 0, 0, [], 0), (some (.ifCond .eq 7), 22, 0, [], 0), (some (.iconst 1), 0, 0, [], 1), (some (.goto 4), 23, 0, [], 0)] := rfl
theorem lb_24_22 : lab_24 22 = [(some (.iconst 0), 0, 0, [], 0), (none, 23, 0, [], 0)] := rfl
theorem lb_24_23 : lab_24 23 = [(some (.ireturn), 0, 0, [], 0)] := rfl
set_option maxRecDepth 20000 in
theorem ok_24 : ∀ t, mm_okc (mm_m 24) t (lab_24 t) = true := by
  intro t
  unfold lab_24
  split <;> first | decide +kernel | rfl
/-! X4_add -/
def lab_25 : Nat → List mm_E := fun t => match t with
  | 0 => [(some (.aload_n 0), 0, 0, [], 0), (some (.getfield 15), 4, 1, [], 0), (some (.iload_n 1), 0, 0, [], 0), (some (.iload_n 2), 0, 0, [], 0), (some (.invokestatic 31), 20, 1, [], 0), (some (.iastore), 0, 0, [], 0), (some (.aload_n 0), 0, 0, [], 0), (some (.getfield 19), 4, 2, [], 0), (some (.iload_n 1), 0, 0, [], 0), (some (.iload_n 2), 0, 0, [], 0), (some (.invokestatic 39), 21, 1, [], 0), (some (.iastore), 0, 0, [], 0), (some (.aload_n 0), 0, 0, [], 0), (some (.getfield 22), 4, 3, [], 0), (some (.iload_n 1), 0, 0, [], 0), (some (.iload_n 2), 0, 0, [], 0), (some (.invokestatic 42), 22, 1, [], 0), (some (.iastore), 0, 0, [], 0), (some (.aload_n 0), 0, 0, [], 0), (some (.getfield 25), 4, 4, [], 0), (some (.iload_n 1), 0, 0, [], 0), (some (.iload_n 2), 0, 0, [], 0), (some (.invokestatic 45), 23, 1, [], 0), (some (.iastore), 0, 0, [], 0), (some (.aload_n 0), 0, 0, [], 0), (some (.getfield 28), 4, 5, [], 0), (some (.iload_n 1), 0, 0, [], 0), (some (.iload_n 3), 0, 0, [], 0), (some (.iastore), 0, 0, [], 0), (some (.aload_n 0), 0, 0, [], 0), (some (.getfield 9), 4, 0, [], 0), (some (.iload_n 1), 0, 0, [], 0), (some (.iconst 1), 0, 0, [], 1), (some (.bastore), 0, 0, [], 0), (some (.aload_n 0), 0, 0, [], 0), (some (.dup), 0, 0, [], 0), (some (.getfield 48), 4, 6, [], 0), (some (.iconst 1), 0, 0, [], 1), (some (.iadd), 0, 0, [], 0), (some (.putfield 48), 4, 6, [], 0), (some (.return_), 0, 0, [], 0)]
  | _ => []
theorem lb_25_0 : lab_25 0 = [(some (.aload_n 0), 0, 0, [], 0), (some (.getfield 15), 4, 1, [], 0), (some (.iload_n 1), 0, 0, [], 0), (some (.iload_n 2), 0, 0, [], 0), (some (.invokestatic 31), 20, 1, [], 0), (some (.iastore), 0, 0, [], 0), (some (.aload_n 0), 0, 0, [], 0), (some (.getfield 19), 4, 2, [], 0), (some (.iload_n 1), 0, 0, [], 0), (some (.iload_n 2), 0, 0, [], 0), (some (.invokestatic 39), 21, 1, [], 0), (some (.iastore), 0, 0, [], 0), (some (.aload_n 0), 0, 0, [], 0), (some (.getfield 22), 4, 3, [], 0), (some (.iload_n 1), 0, 0, [], 0), (some (.iload_n 2), 0, 0, [], 0), (some (.invokestatic 42), 22, 1, [], 0), (some (.iastore), 0, 0, [], 0), (some (.aload_n 0), 0, 0, [], 0), (some (.getfield 25), 4, 4, [], 0), (some (.iload_n 1), 0, 0, [], 0), (some (.iload_n 2), 0, 0, [], 0), (some (.invokestatic 45), 23, 1, [], 0), (some (.iastore), 0, 0, [], 0), (some (.aload_n 0), 0, 0, [], 0), (some (.getfield 28), 4, 5, [], 0), (some (.iload_n 1), 0, 0, [], 0), (some (.iload_n 3), 0, 0, [], 0), (some (.iastore), 0, 0, [], 0), (some (.aload_n 0), 0, 0, [], 0), (some (.getfield 9), 4, 0, [], 0), (some (.iload_n 1), 0, 0, [], 0), (some (.iconst 1), 0, 0, [], 1), (some (.bastore), 0, 0, [], 0), (some (.aload_n 0), 0, 0, [], 0), (some (.dup), 0, 0, [], 0), (some (.getfield 48), 4, 6, [], 0), (some (.iconst 1), 0, 0, [], 1), (some (.iadd), 0, 0, [], 0), (some (.putfield 48), 4, 6, [], 0), (some (.return_), 0, 0, [], 0)] := rfl
set_option maxRecDepth 20000 in
theorem ok_25 : ∀ t, mm_okc (mm_m 25) t (lab_25 t) = true := by
  intro t
  unfold lab_25
  split <;> first | decide +kernel | rfl
/-! X5_has -/
def lab_26 : Nat → List mm_E := fun t => match t with
  | 0 => [(some (.iload_n 1), 0, 0, [], 0), (some (.iconst 0), 0, 0, [], 0), (some (.aload_n 0), 0, 0, [], 0), (some (.getfield 31), 5, 6, [], 0), (some (.iconst 1), 0, 0, [], 1), (some (.isub), 0, 0, [], 0), (some (.invokestatic 35), 65, 3, [], 0), (some (.ireturn), 0, 0, [], 0)]
  | _ => []
theorem lb_26_0 : lab_26 0 = [(some (.iload_n 1), 0, 0, [], 0), (some (.iconst 0), 0, 0, [], 0), (some (.aload_n 0), 0, 0, [], 0), (some (.getfield 31), 5, 6, [], 0), (some (.iconst 1), 0, 0, [], 1), (some (.isub), 0, 0, [], 0), (some (.invokestatic 35), 65, 3, [], 0), (some (.ireturn), 0, 0, [], 0)] := rfl
set_option maxRecDepth 20000 in
theorem ok_26 : ∀ t, mm_okc (mm_m 26) t (lab_26 t) = true := by
  intro t
  unfold lab_26
  split <;> first | decide +kernel | rfl
/-! X5_add -/
def lab_27 : Nat → List mm_E := fun t => match t with
  | 0 => [(some (.aload_n 0), 0, 0, [], 0), (some (.getfield 31), 5, 6, [], 0), (some (.bipush 60), 0, 0, [], 60), (some (.if_icmp .lt 5), 11, 0, [], 0), (some (.iconst (-1)), 0, 0, [], (-1)), (some (.ireturn), 0, 0, [], 0)]
  | 11 => [(some (.aload_n 0), 0, 0, [], 0), (some (.getfield 31), 5, 6, [], 0), (some (.istore 4), 0, 0, [], 0), (some (.aload_n 0), 0, 0, [], 0), (some (.getfield 9), 5, 0, [], 0), (some (.iload 4), 0, 0, [], 0), (some (.iload_n 1), 0, 0, [], 0), (some (.iastore), 0, 0, [], 0), (some (.aload_n 0), 0, 0, [], 0), (some (.getfield 15), 5, 1, [], 0), (some (.iload 4), 0, 0, [], 0), (some (.iload_n 2), 0, 0, [], 0), (some (.iastore), 0, 0, [], 0), (some (.aload_n 0), 0, 0, [], 0), (some (.getfield 18), 5, 2, [], 0), (some (.iload 4), 0, 0, [], 0), (some (.iload_n 3), 0, 0, [], 0), (some (.iastore), 0, 0, [], 0), (some (.aload_n 0), 0, 0, [], 0), (some (.getfield 28), 5, 5, [], 0), (some (.aload_n 0), 0, 0, [], 0), (some (.getfield 18), 5, 2, [], 0), (some (.iload 4), 0, 0, [], 0), (some (.invokestatic 39), 67, 3, [], 0), (some (.aload_n 0), 0, 0, [], 0), (some (.dup), 0, 0, [], 0), (some (.getfield 31), 5, 6, [], 0), (some (.iconst 1), 0, 0, [], 1), (some (.iadd), 0, 0, [], 0), (some (.putfield 31), 5, 6, [], 0), (some (.iload 4), 0, 0, [], 0), (some (.ireturn), 0, 0, [], 0)]
  | _ => []
theorem lb_27_0 : lab_27 0 = [(some (.aload_n 0), 0, 0, [], 0), (some (.getfield 31), 5, 6, [], 0), (some (.bipush 60), 0, 0, [], 60), (some (.if_icmp .lt 5), 11, 0, [], 0), (some (.iconst (-1)), 0, 0, [], (-1)), (some (.ireturn), 0, 0, [], 0)] := rfl
theorem lb_27_11 : lab_27 11 = [(some (.aload_n 0), 0, 0, [], 0), (some (.getfield 31), 5, 6, [], 0), (some (.istore 4), 0, 0, [], 0), (some (.aload_n 0), 0, 0, [], 0), (some (.getfield 9), 5, 0, [], 0), (some (.iload 4), 0, 0, [], 0), (some (.iload_n 1), 0, 0, [], 0), (some (.iastore), 0, 0, [], 0), (some (.aload_n 0), 0, 0, [], 0), (some (.getfield 15), 5, 1, [], 0), (some (.iload 4), 0, 0, [], 0), (some (.iload_n 2), 0, 0, [], 0), (some (.iastore), 0, 0, [], 0), (some (.aload_n 0), 0, 0, [], 0), (some (.getfield 18), 5, 2, [], 0), (some (.iload 4), 0, 0, [], 0), (some (.iload_n 3), 0, 0, [], 0), (some (.iastore), 0, 0, [], 0), (some (.aload_n 0), 0, 0, [], 0), (some (.getfield 28), 5, 5, [], 0), (some (.aload_n 0), 0, 0, [], 0), (some (.getfield 18), 5, 2, [], 0), (some (.iload 4), 0, 0, [], 0), (some (.invokestatic 39), 67, 3, [], 0), (some (.aload_n 0), 0, 0, [], 0), (some (.dup), 0, 0, [], 0), (some (.getfield 31), 5, 6, [], 0), (some (.iconst 1), 0, 0, [], 1), (some (.iadd), 0, 0, [], 0), (some (.putfield 31), 5, 6, [], 0), (some (.iload 4), 0, 0, [], 0), (some (.ireturn), 0, 0, [], 0)] := rfl
set_option maxRecDepth 20000 in
theorem ok_27 : ∀ t, mm_okc (mm_m 27) t (lab_27 t) = true := by
  intro t
  unfold lab_27
  split <;> first | decide +kernel | rfl
/-! X5_staleHour -/
def lab_28 : Nat → List mm_E := fun t => match t with
  | 0 => [(some (.aload_n 0), 0, 0, [], 0), (some (.getfield 18), 5, 2, [], 0), (some (.iload_n 1), 0, 0, [], 0), (some (.iaload), 0, 0, [], 0), (some (.aload_n 0), 0, 0, [], 0), (some (.getfield 21), 5, 3, [], 0), (some (.iload_n 1), 0, 0, [], 0), (some (.baload), 0, 0, [], 0), (some (.ifCond .eq 8), 20, 0, [], 0), (some (.bipush 40), 0, 0, [], 40), (some (.goto 5), 22, 0, [], 0)]
  | 20 => [(some (.bipush 20), 0, 0, [], 20), (none, 22, 0, [], 0)]
  | 22 => [(some (.iadd), 0, 0, [], 0), (some (.ireturn), 0, 0, [], 0)]
  | _ => []
theorem lb_28_0 : lab_28 0 = [(some (.aload_n 0), 0, 0, [], 0), (some (.getfield 18), 5, 2, [], 0), (some (.iload_n 1), 0, 0, [], 0), (some (.iaload), 0, 0, [], 0), (some (.aload_n 0), 0, 0, [], 0), (some (.getfield 21), 5, 3, [], 0), (some (.iload_n 1), 0, 0, [], 0), (some (.baload), 0, 0, [], 0), (some (.ifCond .eq 8), 20, 0, [], 0), (some (.bipush 40), 0, 0, [], 40), (some (.goto 5), 22, 0, [], 0)] := rfl
theorem lb_28_20 : lab_28 20 = [(some (.bipush 20), 0, 0, [], 20), (none, 22, 0, [], 0)] := rfl
theorem lb_28_22 : lab_28 22 = [(some (.iadd), 0, 0, [], 0), (some (.ireturn), 0, 0, [], 0)] := rfl
set_option maxRecDepth 20000 in
theorem ok_28 : ∀ t, mm_okc (mm_m 28) t (lab_28 t) = true := by
  intro t
  unfold lab_28
  split <;> first | decide +kernel | rfl
/-! X5_isFresh -/
def lab_29 : Nat → List mm_E := fun t => match t with
  | 0 => [(some (.iload_n 2), 0, 0, [], 0), (some (.aload_n 0), 0, 0, [], 0), (some (.iload_n 1), 0, 0, [], 0), (some (.invokevirtual 43), 28, 2, [], 0), (some (.if_icmp .ge 7), 13, 0, [], 0), (some (.iconst 1), 0, 0, [], 1), (some (.goto 4), 14, 0, [], 0)]
  | 13 => [(some (.iconst 0), 0, 0, [], 0), (none, 14, 0, [], 0)]
  | 14 => [(some (.ireturn), 0, 0, [], 0)]
  | _ => []
theorem lb_29_0 : lab_29 0 = [(some (.iload_n 2), 0, 0, [], 0), (some (.aload_n 0), 0, 0, [], 0), (some (.iload_n 1), 0, 0, [], 0), (some (.invokevirtual 43), 28, 2, [], 0), (some (.if_icmp .ge 7), 13, 0, [], 0), (some (.iconst 1), 0, 0, [], 1), (some (.goto 4), 14, 0, [], 0)] := rfl
theorem lb_29_13 : lab_29 13 = [(some (.iconst 0), 0, 0, [], 0), (none, 14, 0, [], 0)] := rfl
theorem lb_29_14 : lab_29 14 = [(some (.ireturn), 0, 0, [], 0)] := rfl
set_option maxRecDepth 20000 in
theorem ok_29 : ∀ t, mm_okc (mm_m 29) t (lab_29 t) = true := by
  intro t
  unfold lab_29
  split <;> first | decide +kernel | rfl
/-! X5_kilograms -/
def lab_30 : Nat → List mm_E := fun t => match t with
  | 0 => [(some (.iconst 0), 0, 0, [], 0), (some (.istore_n 1), 0, 0, [], 0), (some (.iconst 0), 0, 0, [], 0), (some (.istore_n 2), 0, 0, [], 0), (none, 4, 0, [], 0)]
  | 4 => [(some (.iload_n 2), 0, 0, [], 0), (some (.aload_n 0), 0, 0, [], 0), (some (.getfield 31), 5, 6, [], 0), (some (.if_icmp .ge 18), 27, 0, [], 0), (some (.iload_n 1), 0, 0, [], 0), (some (.aload_n 0), 0, 0, [], 0), (some (.getfield 15), 5, 1, [], 0), (some (.iload_n 2), 0, 0, [], 0), (some (.iaload), 0, 0, [], 0), (some (.iadd), 0, 0, [], 0), (some (.istore_n 1), 0, 0, [], 0), (some (.iinc 2 1), 0, 0, [], 1), (some (.goto (-20)), 4, 0, [], 0)]
  | 27 => [(some (.iload_n 1), 0, 0, [], 0), (some (.ireturn), 0, 0, [], 0)]
  | _ => []
theorem lb_30_0 : lab_30 0 = [(some (.iconst 0), 0, 0, [], 0), (some (.istore_n 1), 0, 0, [], 0), (some (.iconst 0), 0, 0, [], 0), (some (.istore_n 2), 0, 0, [], 0), (none, 4, 0, [], 0)] := rfl
theorem lb_30_4 : lab_30 4 = [(some (.iload_n 2), 0, 0, [], 0), (some (.aload_n 0), 0, 0, [], 0), (some (.getfield 31), 5, 6, [], 0), (some (.if_icmp .ge 18), 27, 0, [], 0), (some (.iload_n 1), 0, 0, [], 0), (some (.aload_n 0), 0, 0, [], 0), (some (.getfield 15), 5, 1, [], 0), (some (.iload_n 2), 0, 0, [], 0), (some (.iaload), 0, 0, [], 0), (some (.iadd), 0, 0, [], 0), (some (.istore_n 1), 0, 0, [], 0), (some (.iinc 2 1), 0, 0, [], 1), (some (.goto (-20)), 4, 0, [], 0)] := rfl
theorem lb_30_27 : lab_30 27 = [(some (.iload_n 1), 0, 0, [], 0), (some (.ireturn), 0, 0, [], 0)] := rfl
set_option maxRecDepth 20000 in
theorem ok_30 : ∀ t, mm_okc (mm_m 30) t (lab_30 t) = true := by
  intro t
  unfold lab_30
  split <;> first | decide +kernel | rfl
/-! X5_isUsable -/
def lab_31 : Nat → List mm_E := fun t => match t with
  | 0 => [(some (.aload_n 0), 0, 0, [], 0), (some (.getfield 25), 5, 4, [], 0), (some (.iload_n 1), 0, 0, [], 0), (some (.baload), 0, 0, [], 0), (some (.ifCond .ne 21), 27, 0, [], 0), (some (.iload_n 2), 0, 0, [], 0), (some (.aload_n 0), 0, 0, [], 0), (some (.getfield 9), 5, 0, [], 0), (some (.iload_n 1), 0, 0, [], 0), (some (.iaload), 0, 0, [], 0), (some (.ishr), 0, 0, [], 0), (some (.iconst 1), 0, 0, [], 1), (some (.iand), 0, 0, [], 0), (some (.iconst 1), 0, 0, [], 1), (some (.if_icmp .ne 7), 27, 0, [], 0), (some (.iconst 1), 0, 0, [], 1), (some (.goto 4), 28, 0, [], 0)]
  | 27 => [(some (.iconst 0), 0, 0, [], 0), (none, 28, 0, [], 0)]
  | 28 => [(some (.ireturn), 0, 0, [], 0)]
  | _ => []
theorem lb_31_0 : lab_31 0 = [(some (.aload_n 0), 0, 0, [], 0), (some (.getfield 25), 5, 4, [], 0), (some (.iload_n 1), 0, 0, [], 0), (some (.baload), 0, 0, [], 0), (some (.ifCond .ne 21), 27, 0, [], 0), (some (.iload_n 2), 0, 0, [], 0), (some (.aload_n 0), 0, 0, [], 0), (some (.getfield 9), 5, 0, [], 0), (some (.iload_n 1), 0, 0, [], 0), (some (.iaload), 0, 0, [], 0), (some (.ishr), 0, 0, [], 0), (some (.iconst 1), 0, 0, [], 1), (some (.iand), 0, 0, [], 0), (some (.iconst 1), 0, 0, [], 1), (some (.if_icmp .ne 7), 27, 0, [], 0), (some (.iconst 1), 0, 0, [], 1), (some (.goto 4), 28, 0, [], 0)] := rfl
theorem lb_31_27 : lab_31 27 = [(some (.iconst 0), 0, 0, [], 0), (none, 28, 0, [], 0)] := rfl
theorem lb_31_28 : lab_31 28 = [(some (.ireturn), 0, 0, [], 0)] := rfl
set_option maxRecDepth 20000 in
theorem ok_31 : ∀ t, mm_okc (mm_m 31) t (lab_31 t) = true := by
  intro t
  unfold lab_31
  split <;> first | decide +kernel | rfl
/-! X5_usable -/
def lab_32 : Nat → List mm_E := fun t => match t with
  | 0 => [(some (.iconst 0), 0, 0, [], 0), (some (.istore_n 2), 0, 0, [], 0), (some (.iconst 0), 0, 0, [], 0), (some (.istore_n 3), 0, 0, [], 0), (none, 4, 0, [], 0)]
  | 4 => [(some (.iload_n 3), 0, 0, [], 0), (some (.aload_n 0), 0, 0, [], 0), (some (.getfield 31), 5, 6, [], 0), (some (.if_icmp .ge 27), 36, 0, [], 0), (some (.aload_n 0), 0, 0, [], 0), (some (.iload_n 3), 0, 0, [], 0), (some (.iload_n 1), 0, 0, [], 0), (some (.invokevirtual 47), 31, 3, [], 0), (some (.ifCond .eq 12), 30, 0, [], 0), (some (.iload_n 2), 0, 0, [], 0), (some (.aload_n 0), 0, 0, [], 0), (some (.getfield 15), 5, 1, [], 0), (some (.iload_n 3), 0, 0, [], 0), (some (.iaload), 0, 0, [], 0), (some (.iadd), 0, 0, [], 0), (some (.istore_n 2), 0, 0, [], 0), (none, 30, 0, [], 0)]
  | 30 => [(some (.iinc 3 1), 0, 0, [], 1), (some (.goto (-29)), 4, 0, [], 0)]
  | 36 => [(some (.iload_n 2), 0, 0, [], 0), (some (.ireturn), 0, 0, [], 0)]
  | _ => []
theorem lb_32_0 : lab_32 0 = [(some (.iconst 0), 0, 0, [], 0), (some (.istore_n 2), 0, 0, [], 0), (some (.iconst 0), 0, 0, [], 0), (some (.istore_n 3), 0, 0, [], 0), (none, 4, 0, [], 0)] := rfl
theorem lb_32_4 : lab_32 4 = [(some (.iload_n 3), 0, 0, [], 0), (some (.aload_n 0), 0, 0, [], 0), (some (.getfield 31), 5, 6, [], 0), (some (.if_icmp .ge 27), 36, 0, [], 0), (some (.aload_n 0), 0, 0, [], 0), (some (.iload_n 3), 0, 0, [], 0), (some (.iload_n 1), 0, 0, [], 0), (some (.invokevirtual 47), 31, 3, [], 0), (some (.ifCond .eq 12), 30, 0, [], 0), (some (.iload_n 2), 0, 0, [], 0), (some (.aload_n 0), 0, 0, [], 0), (some (.getfield 15), 5, 1, [], 0), (some (.iload_n 3), 0, 0, [], 0), (some (.iaload), 0, 0, [], 0), (some (.iadd), 0, 0, [], 0), (some (.istore_n 2), 0, 0, [], 0), (none, 30, 0, [], 0)] := rfl
theorem lb_32_30 : lab_32 30 = [(some (.iinc 3 1), 0, 0, [], 1), (some (.goto (-29)), 4, 0, [], 0)] := rfl
theorem lb_32_36 : lab_32 36 = [(some (.iload_n 2), 0, 0, [], 0), (some (.ireturn), 0, 0, [], 0)] := rfl
set_option maxRecDepth 20000 in
theorem ok_32 : ∀ t, mm_okc (mm_m 32) t (lab_32 t) = true := by
  intro t
  unfold lab_32
  split <;> first | decide +kernel | rfl
/-! X5_take -/
def lab_33 : Nat → List mm_E := fun t => match t with
  | 0 => [(some (.iload_n 2), 0, 0, [], 0), (some (.istore 5), 0, 0, [], 0), (some (.iconst 0), 0, 0, [], 0), (some (.istore 6), 0, 0, [], 0), (none, 6, 0, [], 0)]
  | 6 => [(some (.iload 6), 0, 0, [], 0), (some (.aload_n 0), 0, 0, [], 0), (some (.getfield 31), 5, 6, [], 0), (some (.if_icmp .ge 75), 87, 0, [], 0), (some (.iload 5), 0, 0, [], 0), (some (.ifCond .le 70), 87, 0, [], 0), (some (.aload_n 0), 0, 0, [], 0), (some (.getfield 28), 5, 5, [], 0), (some (.iload 6), 0, 0, [], 0), (some (.iaload), 0, 0, [], 0), (some (.istore 7), 0, 0, [], 0), (some (.aload_n 0), 0, 0, [], 0), (some (.iload 7), 0, 0, [], 0), (some (.iload_n 1), 0, 0, [], 0), (some (.invokevirtual 47), 31, 3, [], 0), (some (.ifCond .eq 45), 81, 0, [], 0), (some (.aload_n 0), 0, 0, [], 0), (some (.getfield 15), 5, 1, [], 0), (some (.iload 7), 0, 0, [], 0), (some (.iaload), 0, 0, [], 0), (some (.iload 5), 0, 0, [], 0), (some (.invokestatic 51), 1000, 0, [], 0), (some (.istore 8), 0, 0, [], 0), (some (.aload_n 0), 0, 0, [], 0), (some (.getfield 15), 5, 1, [], 0), (some (.iload 7), 0, 0, [], 0), (some (.dup2), 0, 0, [], 0), (some (.iaload), 0, 0, [], 0), (some (.iload 8), 0, 0, [], 0), (some (.isub), 0, 0, [], 0), (some (.iastore), 0, 0, [], 0), (some (.aload_n 3), 0, 0, [], 0), (some (.iload 4), 0, 0, [], 0), (some (.iload 7), 0, 0, [], 0), (some (.iadd), 0, 0, [], 0), (some (.iload 8), 0, 0, [], 0), (some (.iastore), 0, 0, [], 0), (some (.iload 5), 0, 0, [], 0), (some (.iload 8), 0, 0, [], 0), (some (.isub), 0, 0, [], 0), (some (.istore 5), 0, 0, [], 0), (none, 81, 0, [], 0)]
  | 81 => [(some (.iinc 6 1), 0, 0, [], 1), (some (.goto (-78)), 6, 0, [], 0)]
  | 87 => [(some (.return_), 0, 0, [], 0)]
  | _ => []
theorem lb_33_0 : lab_33 0 = [(some (.iload_n 2), 0, 0, [], 0), (some (.istore 5), 0, 0, [], 0), (some (.iconst 0), 0, 0, [], 0), (some (.istore 6), 0, 0, [], 0), (none, 6, 0, [], 0)] := rfl
theorem lb_33_6 : lab_33 6 = [(some (.iload 6), 0, 0, [], 0), (some (.aload_n 0), 0, 0, [], 0), (some (.getfield 31), 5, 6, [], 0), (some (.if_icmp .ge 75), 87, 0, [], 0), (some (.iload 5), 0, 0, [], 0), (some (.ifCond .le 70), 87, 0, [], 0), (some (.aload_n 0), 0, 0, [], 0), (some (.getfield 28), 5, 5, [], 0), (some (.iload 6), 0, 0, [], 0), (some (.iaload), 0, 0, [], 0), (some (.istore 7), 0, 0, [], 0), (some (.aload_n 0), 0, 0, [], 0), (some (.iload 7), 0, 0, [], 0), (some (.iload_n 1), 0, 0, [], 0), (some (.invokevirtual 47), 31, 3, [], 0), (some (.ifCond .eq 45), 81, 0, [], 0), (some (.aload_n 0), 0, 0, [], 0), (some (.getfield 15), 5, 1, [], 0), (some (.iload 7), 0, 0, [], 0), (some (.iaload), 0, 0, [], 0), (some (.iload 5), 0, 0, [], 0), (some (.invokestatic 51), 1000, 0, [], 0), (some (.istore 8), 0, 0, [], 0), (some (.aload_n 0), 0, 0, [], 0), (some (.getfield 15), 5, 1, [], 0), (some (.iload 7), 0, 0, [], 0), (some (.dup2), 0, 0, [], 0), (some (.iaload), 0, 0, [], 0), (some (.iload 8), 0, 0, [], 0), (some (.isub), 0, 0, [], 0), (some (.iastore), 0, 0, [], 0), (some (.aload_n 3), 0, 0, [], 0), (some (.iload 4), 0, 0, [], 0), (some (.iload 7), 0, 0, [], 0), (some (.iadd), 0, 0, [], 0), (some (.iload 8), 0, 0, [], 0), (some (.iastore), 0, 0, [], 0), (some (.iload 5), 0, 0, [], 0), (some (.iload 8), 0, 0, [], 0), (some (.isub), 0, 0, [], 0), (some (.istore 5), 0, 0, [], 0), (none, 81, 0, [], 0)] := rfl
theorem lb_33_81 : lab_33 81 = [(some (.iinc 6 1), 0, 0, [], 1), (some (.goto (-78)), 6, 0, [], 0)] := rfl
theorem lb_33_87 : lab_33 87 = [(some (.return_), 0, 0, [], 0)] := rfl
set_option maxRecDepth 20000 in
theorem ok_33 : ∀ t, mm_okc (mm_m 33) t (lab_33 t) = true := by
  intro t
  unfold lab_33
  split <;> first | decide +kernel | rfl
/-! X5_anyRecalled -/
def lab_34 : Nat → List mm_E := fun t => match t with
  | 0 => [(some (.iconst 0), 0, 0, [], 0), (some (.istore_n 3), 0, 0, [], 0), (none, 2, 0, [], 0)]
  | 2 => [(some (.iload_n 3), 0, 0, [], 0), (some (.aload_n 0), 0, 0, [], 0), (some (.getfield 31), 5, 6, [], 0), (some (.if_icmp .ge 28), 35, 0, [], 0), (some (.aload_n 0), 0, 0, [], 0), (some (.getfield 25), 5, 4, [], 0), (some (.iload_n 3), 0, 0, [], 0), (some (.baload), 0, 0, [], 0), (some (.ifCond .eq 13), 29, 0, [], 0), (some (.aload_n 1), 0, 0, [], 0), (some (.iload_n 2), 0, 0, [], 0), (some (.iload_n 3), 0, 0, [], 0), (some (.iadd), 0, 0, [], 0), (some (.iaload), 0, 0, [], 0), (some (.ifCond .le 5), 29, 0, [], 0), (some (.iconst 1), 0, 0, [], 1), (some (.ireturn), 0, 0, [], 0)]
  | 29 => [(some (.iinc 3 1), 0, 0, [], 1), (some (.goto (-30)), 2, 0, [], 0)]
  | 35 => [(some (.iconst 0), 0, 0, [], 0), (some (.ireturn), 0, 0, [], 0)]
  | _ => []
theorem lb_34_0 : lab_34 0 = [(some (.iconst 0), 0, 0, [], 0), (some (.istore_n 3), 0, 0, [], 0), (none, 2, 0, [], 0)] := rfl
theorem lb_34_2 : lab_34 2 = [(some (.iload_n 3), 0, 0, [], 0), (some (.aload_n 0), 0, 0, [], 0), (some (.getfield 31), 5, 6, [], 0), (some (.if_icmp .ge 28), 35, 0, [], 0), (some (.aload_n 0), 0, 0, [], 0), (some (.getfield 25), 5, 4, [], 0), (some (.iload_n 3), 0, 0, [], 0), (some (.baload), 0, 0, [], 0), (some (.ifCond .eq 13), 29, 0, [], 0), (some (.aload_n 1), 0, 0, [], 0), (some (.iload_n 2), 0, 0, [], 0), (some (.iload_n 3), 0, 0, [], 0), (some (.iadd), 0, 0, [], 0), (some (.iaload), 0, 0, [], 0), (some (.ifCond .le 5), 29, 0, [], 0), (some (.iconst 1), 0, 0, [], 1), (some (.ireturn), 0, 0, [], 0)] := rfl
theorem lb_34_29 : lab_34 29 = [(some (.iinc 3 1), 0, 0, [], 1), (some (.goto (-30)), 2, 0, [], 0)] := rfl
theorem lb_34_35 : lab_34 35 = [(some (.iconst 0), 0, 0, [], 0), (some (.ireturn), 0, 0, [], 0)] := rfl
set_option maxRecDepth 20000 in
theorem ok_34 : ∀ t, mm_okc (mm_m 34) t (lab_34 t) = true := by
  intro t
  unfold lab_34
  split <;> first | decide +kernel | rfl
/-! X5_spoil -/
def lab_35 : Nat → List mm_E := fun t => match t with
  | 0 => [(some (.iconst 0), 0, 0, [], 0), (some (.istore_n 2), 0, 0, [], 0), (some (.iconst 0), 0, 0, [], 0), (some (.istore_n 3), 0, 0, [], 0), (none, 4, 0, [], 0)]
  | 4 => [(some (.iload_n 3), 0, 0, [], 0), (some (.aload_n 0), 0, 0, [], 0), (some (.getfield 31), 5, 6, [], 0), (some (.if_icmp .ge 34), 43, 0, [], 0), (some (.aload_n 0), 0, 0, [], 0), (some (.iload_n 3), 0, 0, [], 0), (some (.iload_n 1), 0, 0, [], 0), (some (.invokevirtual 57), 29, 3, [], 0), (some (.ifCond .ne 19), 37, 0, [], 0), (some (.iload_n 2), 0, 0, [], 0), (some (.aload_n 0), 0, 0, [], 0), (some (.getfield 15), 5, 1, [], 0), (some (.iload_n 3), 0, 0, [], 0), (some (.iaload), 0, 0, [], 0), (some (.iadd), 0, 0, [], 0), (some (.istore_n 2), 0, 0, [], 0), (some (.aload_n 0), 0, 0, [], 0), (some (.getfield 15), 5, 1, [], 0), (some (.iload_n 3), 0, 0, [], 0), (some (.iconst 0), 0, 0, [], 0), (some (.iastore), 0, 0, [], 0), (none, 37, 0, [], 0)]
  | 37 => [(some (.iinc 3 1), 0, 0, [], 1), (some (.goto (-36)), 4, 0, [], 0)]
  | 43 => [(some (.iload_n 2), 0, 0, [], 0), (some (.ireturn), 0, 0, [], 0)]
  | _ => []
theorem lb_35_0 : lab_35 0 = [(some (.iconst 0), 0, 0, [], 0), (some (.istore_n 2), 0, 0, [], 0), (some (.iconst 0), 0, 0, [], 0), (some (.istore_n 3), 0, 0, [], 0), (none, 4, 0, [], 0)] := rfl
theorem lb_35_4 : lab_35 4 = [(some (.iload_n 3), 0, 0, [], 0), (some (.aload_n 0), 0, 0, [], 0), (some (.getfield 31), 5, 6, [], 0), (some (.if_icmp .ge 34), 43, 0, [], 0), (some (.aload_n 0), 0, 0, [], 0), (some (.iload_n 3), 0, 0, [], 0), (some (.iload_n 1), 0, 0, [], 0), (some (.invokevirtual 57), 29, 3, [], 0), (some (.ifCond .ne 19), 37, 0, [], 0), (some (.iload_n 2), 0, 0, [], 0), (some (.aload_n 0), 0, 0, [], 0), (some (.getfield 15), 5, 1, [], 0), (some (.iload_n 3), 0, 0, [], 0), (some (.iaload), 0, 0, [], 0), (some (.iadd), 0, 0, [], 0), (some (.istore_n 2), 0, 0, [], 0), (some (.aload_n 0), 0, 0, [], 0), (some (.getfield 15), 5, 1, [], 0), (some (.iload_n 3), 0, 0, [], 0), (some (.iconst 0), 0, 0, [], 0), (some (.iastore), 0, 0, [], 0), (none, 37, 0, [], 0)] := rfl
theorem lb_35_37 : lab_35 37 = [(some (.iinc 3 1), 0, 0, [], 1), (some (.goto (-36)), 4, 0, [], 0)] := rfl
theorem lb_35_43 : lab_35 43 = [(some (.iload_n 2), 0, 0, [], 0), (some (.ireturn), 0, 0, [], 0)] := rfl
set_option maxRecDepth 20000 in
theorem ok_35 : ∀ t, mm_okc (mm_m 35) t (lab_35 t) = true := by
  intro t
  unfold lab_35
  split <;> first | decide +kernel | rfl
/-! X6_update -/
def lab_36 : Nat → List mm_E := fun t => match t with
  | 0 => [(some (.aload_n 0), 0, 0, [], 0), (some (.getfield 30), 6, 6, [], 0), (some (.aload_n 1), 0, 0, [], 0), (some (.getfield 34), 4, 6, [], 0), (some (.if_icmp .eq 7), 15, 0, [], 0), (some (.iconst 1), 0, 0, [], 1), (some (.goto 4), 16, 0, [], 0)]
  | 15 => [(some (.iconst 0), 0, 0, [], 0), (none, 16, 0, [], 0)]
  | 16 => [(some (.istore 4), 0, 0, [], 0), (some (.aload_n 0), 0, 0, [], 0), (some (.aload_n 1), 0, 0, [], 0), (some (.getfield 34), 4, 6, [], 0), (some (.putfield 30), 6, 6, [], 0), (some (.iconst 0), 0, 0, [], 0), (some (.istore 5), 0, 0, [], 0), (none, 29, 0, [], 0)]
  | 29 => [(some (.iload 5), 0, 0, [], 0), (some (.iconst 3), 0, 0, [], 3), (some (.if_icmp .ge 52), 84, 0, [], 0), (some (.aload_n 2), 0, 0, [], 0), (some (.iconst 1), 0, 0, [], 1), (some (.iload 5), 0, 0, [], 0), (some (.ishl), 0, 0, [], 0), (some (.invokevirtual 39), 32, 2, [], 0), (some (.istore 6), 0, 0, [], 0), (some (.iload 4), 0, 0, [], 0), (some (.ifCond .ne 15), 62, 0, [], 0), (some (.aload_n 0), 0, 0, [], 0), (some (.getfield 9), 6, 0, [], 0), (some (.iload 5), 0, 0, [], 0), (some (.iaload), 0, 0, [], 0), (some (.iload 6), 0, 0, [], 0), (some (.if_icmp .eq 7), 66, 0, [], 0), (none, 62, 0, [], 0)]
  | 62 => [(some (.iconst 1), 0, 0, [], 1), (some (.goto 4), 67, 0, [], 0)]
  | 66 => [(some (.iconst 0), 0, 0, [], 0), (none, 67, 0, [], 0)]
  | 67 => [(some (.istore 4), 0, 0, [], 0), (some (.aload_n 0), 0, 0, [], 0), (some (.getfield 9), 6, 0, [], 0), (some (.iload 5), 0, 0, [], 0), (some (.iload 6), 0, 0, [], 0), (some (.iastore), 0, 0, [], 0), (some (.iinc 5 1), 0, 0, [], 1), (some (.goto (-52)), 29, 0, [], 0)]
  | 84 => [(some (.iconst 0), 0, 0, [], 0), (some (.istore 5), 0, 0, [], 0), (none, 87, 0, [], 0)]
  | 87 => [(some (.iload 5), 0, 0, [], 0), (some (.iconst 2), 0, 0, [], 2), (some (.if_icmp .ge 46), 136, 0, [], 0), (some (.iload 4), 0, 0, [], 0), (some (.ifCond .ne 17), 112, 0, [], 0), (some (.aload_n 0), 0, 0, [], 0), (some (.getfield 15), 6, 1, [], 0), (some (.iload 5), 0, 0, [], 0), (some (.iaload), 0, 0, [], 0), (some (.aload_n 3), 0, 0, [], 0), (some (.iload 5), 0, 0, [], 0), (some (.iaload), 0, 0, [], 0), (some (.if_icmp .eq 7), 116, 0, [], 0), (none, 112, 0, [], 0)]
  | 112 => [(some (.iconst 1), 0, 0, [], 1), (some (.goto 4), 117, 0, [], 0)]
  | 116 => [(some (.iconst 0), 0, 0, [], 0), (none, 117, 0, [], 0)]
  | 117 => [(some (.istore 4), 0, 0, [], 0), (some (.aload_n 0), 0, 0, [], 0), (some (.getfield 15), 6, 1, [], 0), (some (.iload 5), 0, 0, [], 0), (some (.aload_n 3), 0, 0, [], 0), (some (.iload 5), 0, 0, [], 0), (some (.iaload), 0, 0, [], 0), (some (.iastore), 0, 0, [], 0), (some (.iinc 5 1), 0, 0, [], 1), (some (.goto (-46)), 87, 0, [], 0)]
  | 136 => [(some (.iload 4), 0, 0, [], 0), (some (.ifCond .eq 15), 153, 0, [], 0), (some (.aload_n 0), 0, 0, [], 0), (some (.aload_n 1), 0, 0, [], 0), (some (.invokevirtual 45), 37, 2, [], 0), (some (.aload_n 0), 0, 0, [], 0), (some (.aload_n 1), 0, 0, [], 0), (some (.iconst 0), 0, 0, [], 0), (some (.iconst 0), 0, 0, [], 0), (some (.invokestatic 49), 109, 4, [], 0), (none, 153, 0, [], 0)]
  | 153 => [(some (.return_), 0, 0, [], 0)]
  | _ => []
theorem lb_36_0 : lab_36 0 = [(some (.aload_n 0), 0, 0, [], 0), (some (.getfield 30), 6, 6, [], 0), (some (.aload_n 1), 0, 0, [], 0), (some (.getfield 34), 4, 6, [], 0), (some (.if_icmp .eq 7), 15, 0, [], 0), (some (.iconst 1), 0, 0, [], 1), (some (.goto 4), 16, 0, [], 0)] := rfl
theorem lb_36_15 : lab_36 15 = [(some (.iconst 0), 0, 0, [], 0), (none, 16, 0, [], 0)] := rfl
theorem lb_36_16 : lab_36 16 = [(some (.istore 4), 0, 0, [], 0), (some (.aload_n 0), 0, 0, [], 0), (some (.aload_n 1), 0, 0, [], 0), (some (.getfield 34), 4, 6, [], 0), (some (.putfield 30), 6, 6, [], 0), (some (.iconst 0), 0, 0, [], 0), (some (.istore 5), 0, 0, [], 0), (none, 29, 0, [], 0)] := rfl
theorem lb_36_29 : lab_36 29 = [(some (.iload 5), 0, 0, [], 0), (some (.iconst 3), 0, 0, [], 3), (some (.if_icmp .ge 52), 84, 0, [], 0), (some (.aload_n 2), 0, 0, [], 0), (some (.iconst 1), 0, 0, [], 1), (some (.iload 5), 0, 0, [], 0), (some (.ishl), 0, 0, [], 0), (some (.invokevirtual 39), 32, 2, [], 0), (some (.istore 6), 0, 0, [], 0), (some (.iload 4), 0, 0, [], 0), (some (.ifCond .ne 15), 62, 0, [], 0), (some (.aload_n 0), 0, 0, [], 0), (some (.getfield 9), 6, 0, [], 0), (some (.iload 5), 0, 0, [], 0), (some (.iaload), 0, 0, [], 0), (some (.iload 6), 0, 0, [], 0), (some (.if_icmp .eq 7), 66, 0, [], 0), (none, 62, 0, [], 0)] := rfl
theorem lb_36_62 : lab_36 62 = [(some (.iconst 1), 0, 0, [], 1), (some (.goto 4), 67, 0, [], 0)] := rfl
theorem lb_36_66 : lab_36 66 = [(some (.iconst 0), 0, 0, [], 0), (none, 67, 0, [], 0)] := rfl
theorem lb_36_67 : lab_36 67 = [(some (.istore 4), 0, 0, [], 0), (some (.aload_n 0), 0, 0, [], 0), (some (.getfield 9), 6, 0, [], 0), (some (.iload 5), 0, 0, [], 0), (some (.iload 6), 0, 0, [], 0), (some (.iastore), 0, 0, [], 0), (some (.iinc 5 1), 0, 0, [], 1), (some (.goto (-52)), 29, 0, [], 0)] := rfl
theorem lb_36_84 : lab_36 84 = [(some (.iconst 0), 0, 0, [], 0), (some (.istore 5), 0, 0, [], 0), (none, 87, 0, [], 0)] := rfl
theorem lb_36_87 : lab_36 87 = [(some (.iload 5), 0, 0, [], 0), (some (.iconst 2), 0, 0, [], 2), (some (.if_icmp .ge 46), 136, 0, [], 0), (some (.iload 4), 0, 0, [], 0), (some (.ifCond .ne 17), 112, 0, [], 0), (some (.aload_n 0), 0, 0, [], 0), (some (.getfield 15), 6, 1, [], 0), (some (.iload 5), 0, 0, [], 0), (some (.iaload), 0, 0, [], 0), (some (.aload_n 3), 0, 0, [], 0), (some (.iload 5), 0, 0, [], 0), (some (.iaload), 0, 0, [], 0), (some (.if_icmp .eq 7), 116, 0, [], 0), (none, 112, 0, [], 0)] := rfl
theorem lb_36_112 : lab_36 112 = [(some (.iconst 1), 0, 0, [], 1), (some (.goto 4), 117, 0, [], 0)] := rfl
theorem lb_36_116 : lab_36 116 = [(some (.iconst 0), 0, 0, [], 0), (none, 117, 0, [], 0)] := rfl
theorem lb_36_117 : lab_36 117 = [(some (.istore 4), 0, 0, [], 0), (some (.aload_n 0), 0, 0, [], 0), (some (.getfield 15), 6, 1, [], 0), (some (.iload 5), 0, 0, [], 0), (some (.aload_n 3), 0, 0, [], 0), (some (.iload 5), 0, 0, [], 0), (some (.iaload), 0, 0, [], 0), (some (.iastore), 0, 0, [], 0), (some (.iinc 5 1), 0, 0, [], 1), (some (.goto (-46)), 87, 0, [], 0)] := rfl
theorem lb_36_136 : lab_36 136 = [(some (.iload 4), 0, 0, [], 0), (some (.ifCond .eq 15), 153, 0, [], 0), (some (.aload_n 0), 0, 0, [], 0), (some (.aload_n 1), 0, 0, [], 0), (some (.invokevirtual 45), 37, 2, [], 0), (some (.aload_n 0), 0, 0, [], 0), (some (.aload_n 1), 0, 0, [], 0), (some (.iconst 0), 0, 0, [], 0), (some (.iconst 0), 0, 0, [], 0), (some (.invokestatic 49), 109, 4, [], 0), (none, 153, 0, [], 0)] := rfl
theorem lb_36_153 : lab_36 153 = [(some (.return_), 0, 0, [], 0)] := rfl
set_option maxRecDepth 20000 in
theorem ok_36 : ∀ t, mm_okc (mm_m 36) t (lab_36 t) = true := by
  intro t
  unfold lab_36
  split <;> first | decide +kernel | rfl
/-! X6_prepare -/
def lab_37 : Nat → List mm_E := fun t => match t with
  | 0 => [(some (.iconst 1), 0, 0, [], 1), (some (.istore_n 2), 0, 0, [], 0), (none, 2, 0, [], 0)]
  | 2 => [(some (.iload_n 2), 0, 0, [], 0), (some (.bipush 7), 0, 0, [], 7), (some (.if_icmp .gt 50), 55, 0, [], 0), (some (.aload_n 0), 0, 0, [], 0), (some (.getfield 18), 6, 2, [], 0), (some (.iload_n 2), 0, 0, [], 0), (some (.iconst 0), 0, 0, [], 0), (some (.iastore), 0, 0, [], 0), (some (.iconst 0), 0, 0, [], 0), (some (.istore_n 3), 0, 0, [], 0), (none, 17, 0, [], 0)]
  | 17 => [(some (.iload_n 3), 0, 0, [], 0), (some (.iconst 3), 0, 0, [], 3), (some (.if_icmp .ge 30), 49, 0, [], 0), (some (.aload_n 0), 0, 0, [], 0), (some (.getfield 18), 6, 2, [], 0), (some (.iload_n 2), 0, 0, [], 0), (some (.dup2), 0, 0, [], 0), (some (.iaload), 0, 0, [], 0), (some (.iload_n 2), 0, 0, [], 0), (some (.iload_n 3), 0, 0, [], 0), (some (.ishr), 0, 0, [], 0), (some (.iconst 1), 0, 0, [], 1), (some (.iand), 0, 0, [], 0), (some (.aload_n 0), 0, 0, [], 0), (some (.getfield 9), 6, 0, [], 0), (some (.iload_n 3), 0, 0, [], 0), (some (.iaload), 0, 0, [], 0), (some (.imul), 0, 0, [], 0), (some (.iadd), 0, 0, [], 0), (some (.iastore), 0, 0, [], 0), (some (.iinc 3 1), 0, 0, [], 1), (some (.goto (-29)), 17, 0, [], 0)]
  | 49 => [(some (.iinc 2 1), 0, 0, [], 1), (some (.goto (-50)), 2, 0, [], 0)]
  | 55 => [(some (.iconst 3), 0, 0, [], 3), (some (.istore_n 2), 0, 0, [], 0), (none, 57, 0, [], 0)]
  | 57 => [(some (.iload_n 2), 0, 0, [], 0), (some (.ifCond .lt 37), 95, 0, [], 0), (some (.aload_n 0), 0, 0, [], 0), (some (.getfield 21), 6, 3, [], 0), (some (.iload_n 2), 0, 0, [], 0), (some (.aload_n 0), 0, 0, [], 0), (some (.getfield 21), 6, 3, [], 0), (some (.iload_n 2), 0, 0, [], 0), (some (.iconst 1), 0, 0, [], 1), (some (.iadd), 0, 0, [], 0), (some (.iaload), 0, 0, [], 0), (some (.aload_n 1), 0, 0, [], 0), (some (.getfield 53), 4, 5, [], 0), (some (.iload_n 2), 0, 0, [], 0), (some (.iaload), 0, 0, [], 0), (some (.aload_n 0), 0, 0, [], 0), (some (.aload_n 1), 0, 0, [], 0), (some (.iload_n 2), 0, 0, [], 0), (some (.invokevirtual 56), 39, 3, [], 0), (some (.imul), 0, 0, [], 0), (some (.iadd), 0, 0, [], 0), (some (.iastore), 0, 0, [], 0), (some (.iinc 2 (-1)), 0, 0, [], (-1)), (some (.goto (-35)), 57, 0, [], 0)]
  | 95 => [(some (.aload_n 0), 0, 0, [], 0), (some (.iconst 0), 0, 0, [], 0), (some (.putfield 60), 6, 7, [], 0), (some (.return_), 0, 0, [], 0)]
  | _ => []
theorem lb_37_0 : lab_37 0 = [(some (.iconst 1), 0, 0, [], 1), (some (.istore_n 2), 0, 0, [], 0), (none, 2, 0, [], 0)] := rfl
theorem lb_37_2 : lab_37 2 = [(some (.iload_n 2), 0, 0, [], 0), (some (.bipush 7), 0, 0, [], 7), (some (.if_icmp .gt 50), 55, 0, [], 0), (some (.aload_n 0), 0, 0, [], 0), (some (.getfield 18), 6, 2, [], 0), (some (.iload_n 2), 0, 0, [], 0), (some (.iconst 0), 0, 0, [], 0), (some (.iastore), 0, 0, [], 0), (some (.iconst 0), 0, 0, [], 0), (some (.istore_n 3), 0, 0, [], 0), (none, 17, 0, [], 0)] := rfl
theorem lb_37_17 : lab_37 17 = [(some (.iload_n 3), 0, 0, [], 0), (some (.iconst 3), 0, 0, [], 3), (some (.if_icmp .ge 30), 49, 0, [], 0), (some (.aload_n 0), 0, 0, [], 0), (some (.getfield 18), 6, 2, [], 0), (some (.iload_n 2), 0, 0, [], 0), (some (.dup2), 0, 0, [], 0), (some (.iaload), 0, 0, [], 0), (some (.iload_n 2), 0, 0, [], 0), (some (.iload_n 3), 0, 0, [], 0), (some (.ishr), 0, 0, [], 0), (some (.iconst 1), 0, 0, [], 1), (some (.iand), 0, 0, [], 0), (some (.aload_n 0), 0, 0, [], 0), (some (.getfield 9), 6, 0, [], 0), (some (.iload_n 3), 0, 0, [], 0), (some (.iaload), 0, 0, [], 0), (some (.imul), 0, 0, [], 0), (some (.iadd), 0, 0, [], 0), (some (.iastore), 0, 0, [], 0), (some (.iinc 3 1), 0, 0, [], 1), (some (.goto (-29)), 17, 0, [], 0)] := rfl
theorem lb_37_49 : lab_37 49 = [(some (.iinc 2 1), 0, 0, [], 1), (some (.goto (-50)), 2, 0, [], 0)] := rfl
theorem lb_37_55 : lab_37 55 = [(some (.iconst 3), 0, 0, [], 3), (some (.istore_n 2), 0, 0, [], 0), (none, 57, 0, [], 0)] := rfl
theorem lb_37_57 : lab_37 57 = [(some (.iload_n 2), 0, 0, [], 0), (some (.ifCond .lt 37), 95, 0, [], 0), (some (.aload_n 0), 0, 0, [], 0), (some (.getfield 21), 6, 3, [], 0), (some (.iload_n 2), 0, 0, [], 0), (some (.aload_n 0), 0, 0, [], 0), (some (.getfield 21), 6, 3, [], 0), (some (.iload_n 2), 0, 0, [], 0), (some (.iconst 1), 0, 0, [], 1), (some (.iadd), 0, 0, [], 0), (some (.iaload), 0, 0, [], 0), (some (.aload_n 1), 0, 0, [], 0), (some (.getfield 53), 4, 5, [], 0), (some (.iload_n 2), 0, 0, [], 0), (some (.iaload), 0, 0, [], 0), (some (.aload_n 0), 0, 0, [], 0), (some (.aload_n 1), 0, 0, [], 0), (some (.iload_n 2), 0, 0, [], 0), (some (.invokevirtual 56), 39, 3, [], 0), (some (.imul), 0, 0, [], 0), (some (.iadd), 0, 0, [], 0), (some (.iastore), 0, 0, [], 0), (some (.iinc 2 (-1)), 0, 0, [], (-1)), (some (.goto (-35)), 57, 0, [], 0)] := rfl
theorem lb_37_95 : lab_37 95 = [(some (.aload_n 0), 0, 0, [], 0), (some (.iconst 0), 0, 0, [], 0), (some (.putfield 60), 6, 7, [], 0), (some (.return_), 0, 0, [], 0)] := rfl
set_option maxRecDepth 20000 in
theorem ok_37 : ∀ t, mm_okc (mm_m 37) t (lab_37 t) = true := by
  intro t
  unfold lab_37
  split <;> first | decide +kernel | rfl
/-! X6_keepTried -/
def lab_38 : Nat → List mm_E := fun t => match t with
  | 0 => [(some (.iload_n 1), 0, 0, [], 0), (some (.aload_n 0), 0, 0, [], 0), (some (.getfield 60), 6, 7, [], 0), (some (.if_icmp .lt 22), 27, 0, [], 0), (some (.aload_n 0), 0, 0, [], 0), (some (.iload_n 1), 0, 0, [], 0), (some (.putfield 60), 6, 7, [], 0), (some (.aload_n 0), 0, 0, [], 0), (some (.getfield 24), 6, 4, [], 0), (some (.iconst 0), 0, 0, [], 0), (some (.aload_n 0), 0, 0, [], 0), (some (.getfield 27), 6, 5, [], 0), (some (.iconst 0), 0, 0, [], 0), (some (.iconst 4), 0, 0, [], 4), (some (.invokestatic 71), 1002, 0, [], 0), (none, 27, 0, [], 0)]
  | 27 => [(some (.return_), 0, 0, [], 0)]
  | _ => []
theorem lb_38_0 : lab_38 0 = [(some (.iload_n 1), 0, 0, [], 0), (some (.aload_n 0), 0, 0, [], 0), (some (.getfield 60), 6, 7, [], 0), (some (.if_icmp .lt 22), 27, 0, [], 0), (some (.aload_n 0), 0, 0, [], 0), (some (.iload_n 1), 0, 0, [], 0), (some (.putfield 60), 6, 7, [], 0), (some (.aload_n 0), 0, 0, [], 0), (some (.getfield 24), 6, 4, [], 0), (some (.iconst 0), 0, 0, [], 0), (some (.aload_n 0), 0, 0, [], 0), (some (.getfield 27), 6, 5, [], 0), (some (.iconst 0), 0, 0, [], 0), (some (.iconst 4), 0, 0, [], 4), (some (.invokestatic 71), 1002, 0, [], 0), (none, 27, 0, [], 0)] := rfl
theorem lb_38_27 : lab_38 27 = [(some (.return_), 0, 0, [], 0)] := rfl
set_option maxRecDepth 20000 in
theorem ok_38 : ∀ t, mm_okc (mm_m 38) t (lab_38 t) = true := by
  intro t
  unfold lab_38
  split <;> first | decide +kernel | rfl
/-! X6_mostCases -/
def lab_39 : Nat → List mm_E := fun t => match t with
  | 0 => [(some (.aload_n 1), 0, 0, [], 0), (some (.getfield 77), 4, 3, [], 0), (some (.iload_n 2), 0, 0, [], 0), (some (.iaload), 0, 0, [], 0), (some (.istore_n 3), 0, 0, [], 0), (some (.iload_n 3), 0, 0, [], 0), (some (.iconst 1), 0, 0, [], 1), (some (.if_icmp .ge 5), 14, 0, [], 0), (some (.iconst 0), 0, 0, [], 0), (some (.ireturn), 0, 0, [], 0)]
  | 14 => [(some (.aload_n 1), 0, 0, [], 0), (some (.getfield 80), 4, 1, [], 0), (some (.iload_n 2), 0, 0, [], 0), (some (.iaload), 0, 0, [], 0), (some (.istore 4), 0, 0, [], 0), (some (.bipush 20), 0, 0, [], 20), (some (.aload_n 0), 0, 0, [], 0), (some (.getfield 15), 6, 1, [], 0), (some (.aload_n 1), 0, 0, [], 0), (some (.getfield 83), 4, 2, [], 0), (some (.iload_n 2), 0, 0, [], 0), (some (.iaload), 0, 0, [], 0), (some (.iaload), 0, 0, [], 0), (some (.invokestatic 86), 1000, 0, [], 0), (some (.istore 5), 0, 0, [], 0), (some (.iload 4), 0, 0, [], 0), (some (.istore 6), 0, 0, [], 0), (none, 44, 0, [], 0)]
  | 44 => [(some (.iload 6), 0, 0, [], 0), (some (.bipush 7), 0, 0, [], 7), (some (.if_icmp .gt 35), 83, 0, [], 0), (some (.iload 6), 0, 0, [], 0), (some (.iload 4), 0, 0, [], 0), (some (.iand), 0, 0, [], 0), (some (.iload 4), 0, 0, [], 0), (some (.if_icmp .ne 19), 77, 0, [], 0), (some (.iload 5), 0, 0, [], 0), (some (.aload_n 0), 0, 0, [], 0), (some (.getfield 18), 6, 2, [], 0), (some (.iload 6), 0, 0, [], 0), (some (.iaload), 0, 0, [], 0), (some (.iload_n 3), 0, 0, [], 0), (some (.idiv), 0, 0, [], 0), (some (.invokestatic 86), 1000, 0, [], 0), (some (.istore 5), 0, 0, [], 0), (none, 77, 0, [], 0)]
  | 77 => [(some (.iinc 6 1), 0, 0, [], 1), (some (.goto (-36)), 44, 0, [], 0)]
  | 83 => [(some (.iload 5), 0, 0, [], 0), (some (.ireturn), 0, 0, [], 0)]
  | _ => []
theorem lb_39_0 : lab_39 0 = [(some (.aload_n 1), 0, 0, [], 0), (some (.getfield 77), 4, 3, [], 0), (some (.iload_n 2), 0, 0, [], 0), (some (.iaload), 0, 0, [], 0), (some (.istore_n 3), 0, 0, [], 0), (some (.iload_n 3), 0, 0, [], 0), (some (.iconst 1), 0, 0, [], 1), (some (.if_icmp .ge 5), 14, 0, [], 0), (some (.iconst 0), 0, 0, [], 0), (some (.ireturn), 0, 0, [], 0)] := rfl
theorem lb_39_14 : lab_39 14 = [(some (.aload_n 1), 0, 0, [], 0), (some (.getfield 80), 4, 1, [], 0), (some (.iload_n 2), 0, 0, [], 0), (some (.iaload), 0, 0, [], 0), (some (.istore 4), 0, 0, [], 0), (some (.bipush 20), 0, 0, [], 20), (some (.aload_n 0), 0, 0, [], 0), (some (.getfield 15), 6, 1, [], 0), (some (.aload_n 1), 0, 0, [], 0), (some (.getfield 83), 4, 2, [], 0), (some (.iload_n 2), 0, 0, [], 0), (some (.iaload), 0, 0, [], 0), (some (.iaload), 0, 0, [], 0), (some (.invokestatic 86), 1000, 0, [], 0), (some (.istore 5), 0, 0, [], 0), (some (.iload 4), 0, 0, [], 0), (some (.istore 6), 0, 0, [], 0), (none, 44, 0, [], 0)] := rfl
theorem lb_39_44 : lab_39 44 = [(some (.iload 6), 0, 0, [], 0), (some (.bipush 7), 0, 0, [], 7), (some (.if_icmp .gt 35), 83, 0, [], 0), (some (.iload 6), 0, 0, [], 0), (some (.iload 4), 0, 0, [], 0), (some (.iand), 0, 0, [], 0), (some (.iload 4), 0, 0, [], 0), (some (.if_icmp .ne 19), 77, 0, [], 0), (some (.iload 5), 0, 0, [], 0), (some (.aload_n 0), 0, 0, [], 0), (some (.getfield 18), 6, 2, [], 0), (some (.iload 6), 0, 0, [], 0), (some (.iaload), 0, 0, [], 0), (some (.iload_n 3), 0, 0, [], 0), (some (.idiv), 0, 0, [], 0), (some (.invokestatic 86), 1000, 0, [], 0), (some (.istore 5), 0, 0, [], 0), (none, 77, 0, [], 0)] := rfl
theorem lb_39_77 : lab_39 77 = [(some (.iinc 6 1), 0, 0, [], 1), (some (.goto (-36)), 44, 0, [], 0)] := rfl
theorem lb_39_83 : lab_39 83 = [(some (.iload 5), 0, 0, [], 0), (some (.ireturn), 0, 0, [], 0)] := rfl
set_option maxRecDepth 20000 in
theorem ok_39 : ∀ t, mm_okc (mm_m 39) t (lab_39 t) = true := by
  intro t
  unfold lab_39
  split <;> first | decide +kernel | rfl
/-! X6_use -/
def lab_40 : Nat → List mm_E := fun t => match t with
  | 0 => [(some (.aload_n 1), 0, 0, [], 0), (some (.getfield 80), 4, 1, [], 0), (some (.iload_n 2), 0, 0, [], 0), (some (.iaload), 0, 0, [], 0), (some (.istore 4), 0, 0, [], 0), (some (.aload_n 0), 0, 0, [], 0), (some (.getfield 15), 6, 1, [], 0), (some (.aload_n 1), 0, 0, [], 0), (some (.getfield 83), 4, 2, [], 0), (some (.iload_n 2), 0, 0, [], 0), (some (.iaload), 0, 0, [], 0), (some (.dup2), 0, 0, [], 0), (some (.iaload), 0, 0, [], 0), (some (.iload_n 3), 0, 0, [], 0), (some (.isub), 0, 0, [], 0), (some (.iastore), 0, 0, [], 0), (some (.iload 4), 0, 0, [], 0), (some (.istore 5), 0, 0, [], 0), (none, 27, 0, [], 0)]
  | 27 => [(some (.iload 5), 0, 0, [], 0), (some (.bipush 7), 0, 0, [], 7), (some (.if_icmp .gt 37), 68, 0, [], 0), (some (.iload 5), 0, 0, [], 0), (some (.iload 4), 0, 0, [], 0), (some (.iand), 0, 0, [], 0), (some (.iload 4), 0, 0, [], 0), (some (.if_icmp .ne 21), 62, 0, [], 0), (some (.aload_n 0), 0, 0, [], 0), (some (.getfield 18), 6, 2, [], 0), (some (.iload 5), 0, 0, [], 0), (some (.dup2), 0, 0, [], 0), (some (.iaload), 0, 0, [], 0), (some (.iload_n 3), 0, 0, [], 0), (some (.aload_n 1), 0, 0, [], 0), (some (.getfield 77), 4, 3, [], 0), (some (.iload_n 2), 0, 0, [], 0), (some (.iaload), 0, 0, [], 0), (some (.imul), 0, 0, [], 0), (some (.isub), 0, 0, [], 0), (some (.iastore), 0, 0, [], 0), (none, 62, 0, [], 0)]
  | 62 => [(some (.iinc 5 1), 0, 0, [], 1), (some (.goto (-38)), 27, 0, [], 0)]
  | 68 => [(some (.return_), 0, 0, [], 0)]
  | _ => []
theorem lb_40_0 : lab_40 0 = [(some (.aload_n 1), 0, 0, [], 0), (some (.getfield 80), 4, 1, [], 0), (some (.iload_n 2), 0, 0, [], 0), (some (.iaload), 0, 0, [], 0), (some (.istore 4), 0, 0, [], 0), (some (.aload_n 0), 0, 0, [], 0), (some (.getfield 15), 6, 1, [], 0), (some (.aload_n 1), 0, 0, [], 0), (some (.getfield 83), 4, 2, [], 0), (some (.iload_n 2), 0, 0, [], 0), (some (.iaload), 0, 0, [], 0), (some (.dup2), 0, 0, [], 0), (some (.iaload), 0, 0, [], 0), (some (.iload_n 3), 0, 0, [], 0), (some (.isub), 0, 0, [], 0), (some (.iastore), 0, 0, [], 0), (some (.iload 4), 0, 0, [], 0), (some (.istore 5), 0, 0, [], 0), (none, 27, 0, [], 0)] := rfl
theorem lb_40_27 : lab_40 27 = [(some (.iload 5), 0, 0, [], 0), (some (.bipush 7), 0, 0, [], 7), (some (.if_icmp .gt 37), 68, 0, [], 0), (some (.iload 5), 0, 0, [], 0), (some (.iload 4), 0, 0, [], 0), (some (.iand), 0, 0, [], 0), (some (.iload 4), 0, 0, [], 0), (some (.if_icmp .ne 21), 62, 0, [], 0), (some (.aload_n 0), 0, 0, [], 0), (some (.getfield 18), 6, 2, [], 0), (some (.iload 5), 0, 0, [], 0), (some (.dup2), 0, 0, [], 0), (some (.iaload), 0, 0, [], 0), (some (.iload_n 3), 0, 0, [], 0), (some (.aload_n 1), 0, 0, [], 0), (some (.getfield 77), 4, 3, [], 0), (some (.iload_n 2), 0, 0, [], 0), (some (.iaload), 0, 0, [], 0), (some (.imul), 0, 0, [], 0), (some (.isub), 0, 0, [], 0), (some (.iastore), 0, 0, [], 0), (none, 62, 0, [], 0)] := rfl
theorem lb_40_62 : lab_40 62 = [(some (.iinc 5 1), 0, 0, [], 1), (some (.goto (-38)), 27, 0, [], 0)] := rfl
theorem lb_40_68 : lab_40 68 = [(some (.return_), 0, 0, [], 0)] := rfl
set_option maxRecDepth 20000 in
theorem ok_40 : ∀ t, mm_okc (mm_m 40) t (lab_40 t) = true := by
  intro t
  unfold lab_40
  split <;> first | decide +kernel | rfl
/-! X7_land -/
def lab_41 : Nat → List mm_E := fun t => match t with
  | 0 => [(some (.iload_n 1), 0, 0, [], 0), (some (.iconst 0), 0, 0, [], 0), (some (.iconst 2), 0, 0, [], 2), (some (.invokestatic 62), 65, 3, [], 0), (some (.ifCond .eq 14), 20, 0, [], 0), (some (.iload_n 2), 0, 0, [], 0), (some (.iconst 1), 0, 0, [], 1), (some (.sipush 5000), 0, 0, [], 5000), (some (.invokestatic 62), 65, 3, [], 0), (some (.ifCond .ne 5), 22, 0, [], 0), (none, 20, 0, [], 0)]
  | 20 => [(some (.iconst (-1)), 0, 0, [], (-1)), (some (.ireturn), 0, 0, [], 0)]
  | 22 => [(some (.iload_n 3), 0, 0, [], 0), (some (.iconst 0), 0, 0, [], 0), (some (.bipush 39), 0, 0, [], 39), (some (.invokestatic 62), 65, 3, [], 0), (some (.ifCond .eq 9), 38, 0, [], 0), (some (.iload_n 3), 0, 0, [], 0), (some (.bipush 20), 0, 0, [], 20), (some (.if_icmp .lt 5), 40, 0, [], 0), (none, 38, 0, [], 0)]
  | 38 => [(some (.iconst (-1)), 0, 0, [], (-1)), (some (.ireturn), 0, 0, [], 0)]
  | 40 => [(some (.aload_n 0), 0, 0, [], 0), (some (.getfield 10), 7, 0, [], 0), (some (.iload_n 1), 0, 0, [], 0), (some (.iload_n 2), 0, 0, [], 0), (some (.aload_n 0), 0, 0, [], 0), (some (.getfield 66), 7, 8, [], 0), (some (.iload_n 3), 0, 0, [], 0), (some (.isub), 0, 0, [], 0), (some (.invokevirtual 70), 27, 4, [], 0), (some (.ireturn), 0, 0, [], 0)]
  | _ => []
theorem lb_41_0 : lab_41 0 = [(some (.iload_n 1), 0, 0, [], 0), (some (.iconst 0), 0, 0, [], 0), (some (.iconst 2), 0, 0, [], 2), (some (.invokestatic 62), 65, 3, [], 0), (some (.ifCond .eq 14), 20, 0, [], 0), (some (.iload_n 2), 0, 0, [], 0), (some (.iconst 1), 0, 0, [], 1), (some (.sipush 5000), 0, 0, [], 5000), (some (.invokestatic 62), 65, 3, [], 0), (some (.ifCond .ne 5), 22, 0, [], 0), (none, 20, 0, [], 0)] := rfl
theorem lb_41_20 : lab_41 20 = [(some (.iconst (-1)), 0, 0, [], (-1)), (some (.ireturn), 0, 0, [], 0)] := rfl
theorem lb_41_22 : lab_41 22 = [(some (.iload_n 3), 0, 0, [], 0), (some (.iconst 0), 0, 0, [], 0), (some (.bipush 39), 0, 0, [], 39), (some (.invokestatic 62), 65, 3, [], 0), (some (.ifCond .eq 9), 38, 0, [], 0), (some (.iload_n 3), 0, 0, [], 0), (some (.bipush 20), 0, 0, [], 20), (some (.if_icmp .lt 5), 40, 0, [], 0), (none, 38, 0, [], 0)] := rfl
theorem lb_41_38 : lab_41 38 = [(some (.iconst (-1)), 0, 0, [], (-1)), (some (.ireturn), 0, 0, [], 0)] := rfl
theorem lb_41_40 : lab_41 40 = [(some (.aload_n 0), 0, 0, [], 0), (some (.getfield 10), 7, 0, [], 0), (some (.iload_n 1), 0, 0, [], 0), (some (.iload_n 2), 0, 0, [], 0), (some (.aload_n 0), 0, 0, [], 0), (some (.getfield 66), 7, 8, [], 0), (some (.iload_n 3), 0, 0, [], 0), (some (.isub), 0, 0, [], 0), (some (.invokevirtual 70), 27, 4, [], 0), (some (.ireturn), 0, 0, [], 0)] := rfl
set_option maxRecDepth 20000 in
theorem ok_41 : ∀ t, mm_okc (mm_m 41) t (lab_41 t) = true := by
  intro t
  unfold lab_41
  split <;> first | decide +kernel | rfl
/-! X7_ice -/
def lab_42 : Nat → List mm_E := fun t => match t with
  | 0 => [(some (.iload_n 1), 0, 0, [], 0), (some (.iconst 1), 0, 0, [], 1), (some (.ldc 74), 0, 0, [], 100000), (some (.invokestatic 62), 65, 3, [], 0), (some (.ifCond .eq 14), 21, 0, [], 0), (some (.aload_n 0), 0, 0, [], 0), (some (.getfield 75), 7, 9, [], 0), (some (.iload_n 1), 0, 0, [], 0), (some (.iadd), 0, 0, [], 0), (some (.ldc 78), 0, 0, [], 1000000), (some (.if_icmp .le 5), 23, 0, [], 0), (none, 21, 0, [], 0)]
  | 21 => [(some (.iconst (-1)), 0, 0, [], (-1)), (some (.ireturn), 0, 0, [], 0)]
  | 23 => [(some (.aload_n 0), 0, 0, [], 0), (some (.dup), 0, 0, [], 0), (some (.getfield 75), 7, 9, [], 0), (some (.iload_n 1), 0, 0, [], 0), (some (.iadd), 0, 0, [], 0), (some (.putfield 75), 7, 9, [], 0), (some (.aload_n 0), 0, 0, [], 0), (some (.getfield 75), 7, 9, [], 0), (some (.ireturn), 0, 0, [], 0)]
  | _ => []
theorem lb_42_0 : lab_42 0 = [(some (.iload_n 1), 0, 0, [], 0), (some (.iconst 1), 0, 0, [], 1), (some (.ldc 74), 0, 0, [], 100000), (some (.invokestatic 62), 65, 3, [], 0), (some (.ifCond .eq 14), 21, 0, [], 0), (some (.aload_n 0), 0, 0, [], 0), (some (.getfield 75), 7, 9, [], 0), (some (.iload_n 1), 0, 0, [], 0), (some (.iadd), 0, 0, [], 0), (some (.ldc 78), 0, 0, [], 1000000), (some (.if_icmp .le 5), 23, 0, [], 0), (none, 21, 0, [], 0)] := rfl
theorem lb_42_21 : lab_42 21 = [(some (.iconst (-1)), 0, 0, [], (-1)), (some (.ireturn), 0, 0, [], 0)] := rfl
theorem lb_42_23 : lab_42 23 = [(some (.aload_n 0), 0, 0, [], 0), (some (.dup), 0, 0, [], 0), (some (.getfield 75), 7, 9, [], 0), (some (.iload_n 1), 0, 0, [], 0), (some (.iadd), 0, 0, [], 0), (some (.putfield 75), 7, 9, [], 0), (some (.aload_n 0), 0, 0, [], 0), (some (.getfield 75), 7, 9, [], 0), (some (.ireturn), 0, 0, [], 0)] := rfl
set_option maxRecDepth 20000 in
theorem ok_42 : ∀ t, mm_okc (mm_m 42) t (lab_42 t) = true := by
  intro t
  unfold lab_42
  split <;> first | decide +kernel | rfl
/-! X7_iced -/
def lab_43 : Nat → List mm_E := fun t => match t with
  | 0 => [(some (.aload_n 0), 0, 0, [], 0), (some (.getfield 10), 7, 0, [], 0), (some (.iload_n 1), 0, 0, [], 0), (some (.invokevirtual 79), 26, 2, [], 0), (some (.ifCond .eq 31), 39, 0, [], 0), (some (.aload_n 0), 0, 0, [], 0), (some (.getfield 10), 7, 0, [], 0), (some (.iload_n 1), 0, 0, [], 0), (some (.aload_n 0), 0, 0, [], 0), (some (.getfield 66), 7, 8, [], 0), (some (.invokevirtual 83), 29, 3, [], 0), (some (.ifCond .eq 16), 39, 0, [], 0), (some (.aload_n 0), 0, 0, [], 0), (some (.getfield 10), 7, 0, [], 0), (some (.getfield 87), 5, 1, [], 0), (some (.iload_n 1), 0, 0, [], 0), (some (.iaload), 0, 0, [], 0), (some (.iconst 1), 0, 0, [], 1), (some (.if_icmp .ge 5), 41, 0, [], 0), (none, 39, 0, [], 0)]
  | 39 => [(some (.iconst 0), 0, 0, [], 0), (some (.ireturn), 0, 0, [], 0)]
  | 41 => [(some (.aload_n 0), 0, 0, [], 0), (some (.getfield 10), 7, 0, [], 0), (some (.getfield 90), 5, 3, [], 0), (some (.iload_n 1), 0, 0, [], 0), (some (.baload), 0, 0, [], 0), (some (.ifCond .ne 19), 69, 0, [], 0), (some (.aload_n 0), 0, 0, [], 0), (some (.getfield 10), 7, 0, [], 0), (some (.getfield 87), 5, 1, [], 0), (some (.iload_n 1), 0, 0, [], 0), (some (.iaload), 0, 0, [], 0), (some (.aload_n 0), 0, 0, [], 0), (some (.getfield 75), 7, 9, [], 0), (some (.if_icmp .le 5), 71, 0, [], 0), (none, 69, 0, [], 0)]
  | 69 => [(some (.iconst 0), 0, 0, [], 0), (some (.ireturn), 0, 0, [], 0)]
  | 71 => [(some (.aload_n 0), 0, 0, [], 0), (some (.dup), 0, 0, [], 0), (some (.getfield 75), 7, 9, [], 0), (some (.aload_n 0), 0, 0, [], 0), (some (.getfield 10), 7, 0, [], 0), (some (.getfield 87), 5, 1, [], 0), (some (.iload_n 1), 0, 0, [], 0), (some (.iaload), 0, 0, [], 0), (some (.isub), 0, 0, [], 0), (some (.putfield 75), 7, 9, [], 0), (some (.aload_n 0), 0, 0, [], 0), (some (.getfield 10), 7, 0, [], 0), (some (.getfield 90), 5, 3, [], 0), (some (.iload_n 1), 0, 0, [], 0), (some (.iconst 1), 0, 0, [], 1), (some (.bastore), 0, 0, [], 0), (some (.iconst 1), 0, 0, [], 1), (some (.ireturn), 0, 0, [], 0)]
  | _ => []
theorem lb_43_0 : lab_43 0 = [(some (.aload_n 0), 0, 0, [], 0), (some (.getfield 10), 7, 0, [], 0), (some (.iload_n 1), 0, 0, [], 0), (some (.invokevirtual 79), 26, 2, [], 0), (some (.ifCond .eq 31), 39, 0, [], 0), (some (.aload_n 0), 0, 0, [], 0), (some (.getfield 10), 7, 0, [], 0), (some (.iload_n 1), 0, 0, [], 0), (some (.aload_n 0), 0, 0, [], 0), (some (.getfield 66), 7, 8, [], 0), (some (.invokevirtual 83), 29, 3, [], 0), (some (.ifCond .eq 16), 39, 0, [], 0), (some (.aload_n 0), 0, 0, [], 0), (some (.getfield 10), 7, 0, [], 0), (some (.getfield 87), 5, 1, [], 0), (some (.iload_n 1), 0, 0, [], 0), (some (.iaload), 0, 0, [], 0), (some (.iconst 1), 0, 0, [], 1), (some (.if_icmp .ge 5), 41, 0, [], 0), (none, 39, 0, [], 0)] := rfl
theorem lb_43_39 : lab_43 39 = [(some (.iconst 0), 0, 0, [], 0), (some (.ireturn), 0, 0, [], 0)] := rfl
theorem lb_43_41 : lab_43 41 = [(some (.aload_n 0), 0, 0, [], 0), (some (.getfield 10), 7, 0, [], 0), (some (.getfield 90), 5, 3, [], 0), (some (.iload_n 1), 0, 0, [], 0), (some (.baload), 0, 0, [], 0), (some (.ifCond .ne 19), 69, 0, [], 0), (some (.aload_n 0), 0, 0, [], 0), (some (.getfield 10), 7, 0, [], 0), (some (.getfield 87), 5, 1, [], 0), (some (.iload_n 1), 0, 0, [], 0), (some (.iaload), 0, 0, [], 0), (some (.aload_n 0), 0, 0, [], 0), (some (.getfield 75), 7, 9, [], 0), (some (.if_icmp .le 5), 71, 0, [], 0), (none, 69, 0, [], 0)] := rfl
theorem lb_43_69 : lab_43 69 = [(some (.iconst 0), 0, 0, [], 0), (some (.ireturn), 0, 0, [], 0)] := rfl
theorem lb_43_71 : lab_43 71 = [(some (.aload_n 0), 0, 0, [], 0), (some (.dup), 0, 0, [], 0), (some (.getfield 75), 7, 9, [], 0), (some (.aload_n 0), 0, 0, [], 0), (some (.getfield 10), 7, 0, [], 0), (some (.getfield 87), 5, 1, [], 0), (some (.iload_n 1), 0, 0, [], 0), (some (.iaload), 0, 0, [], 0), (some (.isub), 0, 0, [], 0), (some (.putfield 75), 7, 9, [], 0), (some (.aload_n 0), 0, 0, [], 0), (some (.getfield 10), 7, 0, [], 0), (some (.getfield 90), 5, 3, [], 0), (some (.iload_n 1), 0, 0, [], 0), (some (.iconst 1), 0, 0, [], 1), (some (.bastore), 0, 0, [], 0), (some (.iconst 1), 0, 0, [], 1), (some (.ireturn), 0, 0, [], 0)] := rfl
set_option maxRecDepth 20000 in
theorem ok_43 : ∀ t, mm_okc (mm_m 43) t (lab_43 t) = true := by
  intro t
  unfold lab_43
  split <;> first | decide +kernel | rfl
/-! X7_kind -/
def lab_44 : Nat → List mm_E := fun t => match t with
  | 0 => [(some (.iload_n 1), 0, 0, [], 0), (some (.iconst 0), 0, 0, [], 0), (some (.iconst 3), 0, 0, [], 3), (some (.invokestatic 62), 65, 3, [], 0), (some (.ifCond .eq 15), 21, 0, [], 0), (some (.aload_n 0), 0, 0, [], 0), (some (.getfield 19), 7, 1, [], 0), (some (.getfield 94), 4, 0, [], 0), (some (.iload_n 1), 0, 0, [], 0), (some (.baload), 0, 0, [], 0), (some (.ifCond .eq 5), 23, 0, [], 0), (none, 21, 0, [], 0)]
  | 21 => [(some (.iconst 0), 0, 0, [], 0), (some (.ireturn), 0, 0, [], 0)]
  | 23 => [(some (.iload_n 2), 0, 0, [], 0), (some (.invokestatic 97), 19, 1, [], 0), (some (.ifCond .eq 13), 40, 0, [], 0), (some (.iload_n 3), 0, 0, [], 0), (some (.iconst 1), 0, 0, [], 1), (some (.bipush 99), 0, 0, [], 99), (some (.invokestatic 62), 65, 3, [], 0), (some (.ifCond .ne 5), 42, 0, [], 0), (none, 40, 0, [], 0)]
  | 40 => [(some (.iconst 0), 0, 0, [], 0), (some (.ireturn), 0, 0, [], 0)]
  | 42 => [(some (.aload_n 0), 0, 0, [], 0), (some (.getfield 19), 7, 1, [], 0), (some (.iload_n 1), 0, 0, [], 0), (some (.iload_n 2), 0, 0, [], 0), (some (.iload_n 3), 0, 0, [], 0), (some (.invokevirtual 100), 25, 4, [], 0), (some (.iconst 1), 0, 0, [], 1), (some (.ireturn), 0, 0, [], 0)]
  | _ => []
theorem lb_44_0 : lab_44 0 = [(some (.iload_n 1), 0, 0, [], 0), (some (.iconst 0), 0, 0, [], 0), (some (.iconst 3), 0, 0, [], 3), (some (.invokestatic 62), 65, 3, [], 0), (some (.ifCond .eq 15), 21, 0, [], 0), (some (.aload_n 0), 0, 0, [], 0), (some (.getfield 19), 7, 1, [], 0), (some (.getfield 94), 4, 0, [], 0), (some (.iload_n 1), 0, 0, [], 0), (some (.baload), 0, 0, [], 0), (some (.ifCond .eq 5), 23, 0, [], 0), (none, 21, 0, [], 0)] := rfl
theorem lb_44_21 : lab_44 21 = [(some (.iconst 0), 0, 0, [], 0), (some (.ireturn), 0, 0, [], 0)] := rfl
theorem lb_44_23 : lab_44 23 = [(some (.iload_n 2), 0, 0, [], 0), (some (.invokestatic 97), 19, 1, [], 0), (some (.ifCond .eq 13), 40, 0, [], 0), (some (.iload_n 3), 0, 0, [], 0), (some (.iconst 1), 0, 0, [], 1), (some (.bipush 99), 0, 0, [], 99), (some (.invokestatic 62), 65, 3, [], 0), (some (.ifCond .ne 5), 42, 0, [], 0), (none, 40, 0, [], 0)] := rfl
theorem lb_44_40 : lab_44 40 = [(some (.iconst 0), 0, 0, [], 0), (some (.ireturn), 0, 0, [], 0)] := rfl
theorem lb_44_42 : lab_44 42 = [(some (.aload_n 0), 0, 0, [], 0), (some (.getfield 19), 7, 1, [], 0), (some (.iload_n 1), 0, 0, [], 0), (some (.iload_n 2), 0, 0, [], 0), (some (.iload_n 3), 0, 0, [], 0), (some (.invokevirtual 100), 25, 4, [], 0), (some (.iconst 1), 0, 0, [], 1), (some (.ireturn), 0, 0, [], 0)] := rfl
set_option maxRecDepth 20000 in
theorem ok_44 : ∀ t, mm_okc (mm_m 44) t (lab_44 t) = true := by
  intro t
  unfold lab_44
  split <;> first | decide +kernel | rfl
/-! X7_sauce -/
def lab_45 : Nat → List mm_E := fun t => match t with
  | 0 => [(some (.iload_n 1), 0, 0, [], 0), (some (.iconst 0), 0, 0, [], 0), (some (.iconst 1), 0, 0, [], 1), (some (.invokestatic 62), 65, 3, [], 0), (some (.ifCond .eq 14), 20, 0, [], 0), (some (.iload_n 2), 0, 0, [], 0), (some (.iconst 1), 0, 0, [], 1), (some (.sipush 10000), 0, 0, [], 10000), (some (.invokestatic 62), 65, 3, [], 0), (some (.ifCond .ne 5), 22, 0, [], 0), (none, 20, 0, [], 0)]
  | 20 => [(some (.iconst (-1)), 0, 0, [], (-1)), (some (.ireturn), 0, 0, [], 0)]
  | 22 => [(some (.aload_n 0), 0, 0, [], 0), (some (.getfield 58), 7, 7, [], 0), (some (.iload_n 1), 0, 0, [], 0), (some (.iaload), 0, 0, [], 0), (some (.iload_n 2), 0, 0, [], 0), (some (.iadd), 0, 0, [], 0), (some (.ldc 74), 0, 0, [], 100000), (some (.if_icmp .le 5), 37, 0, [], 0), (some (.iconst (-1)), 0, 0, [], (-1)), (some (.ireturn), 0, 0, [], 0)]
  | 37 => [(some (.aload_n 0), 0, 0, [], 0), (some (.getfield 58), 7, 7, [], 0), (some (.iload_n 1), 0, 0, [], 0), (some (.dup2), 0, 0, [], 0), (some (.iaload), 0, 0, [], 0), (some (.iload_n 2), 0, 0, [], 0), (some (.iadd), 0, 0, [], 0), (some (.iastore), 0, 0, [], 0), (some (.aload_n 0), 0, 0, [], 0), (some (.getfield 58), 7, 7, [], 0), (some (.iload_n 1), 0, 0, [], 0), (some (.iaload), 0, 0, [], 0), (some (.ireturn), 0, 0, [], 0)]
  | _ => []
theorem lb_45_0 : lab_45 0 = [(some (.iload_n 1), 0, 0, [], 0), (some (.iconst 0), 0, 0, [], 0), (some (.iconst 1), 0, 0, [], 1), (some (.invokestatic 62), 65, 3, [], 0), (some (.ifCond .eq 14), 20, 0, [], 0), (some (.iload_n 2), 0, 0, [], 0), (some (.iconst 1), 0, 0, [], 1), (some (.sipush 10000), 0, 0, [], 10000), (some (.invokestatic 62), 65, 3, [], 0), (some (.ifCond .ne 5), 22, 0, [], 0), (none, 20, 0, [], 0)] := rfl
theorem lb_45_20 : lab_45 20 = [(some (.iconst (-1)), 0, 0, [], (-1)), (some (.ireturn), 0, 0, [], 0)] := rfl
theorem lb_45_22 : lab_45 22 = [(some (.aload_n 0), 0, 0, [], 0), (some (.getfield 58), 7, 7, [], 0), (some (.iload_n 1), 0, 0, [], 0), (some (.iaload), 0, 0, [], 0), (some (.iload_n 2), 0, 0, [], 0), (some (.iadd), 0, 0, [], 0), (some (.ldc 74), 0, 0, [], 100000), (some (.if_icmp .le 5), 37, 0, [], 0), (some (.iconst (-1)), 0, 0, [], (-1)), (some (.ireturn), 0, 0, [], 0)] := rfl
theorem lb_45_37 : lab_45 37 = [(some (.aload_n 0), 0, 0, [], 0), (some (.getfield 58), 7, 7, [], 0), (some (.iload_n 1), 0, 0, [], 0), (some (.dup2), 0, 0, [], 0), (some (.iaload), 0, 0, [], 0), (some (.iload_n 2), 0, 0, [], 0), (some (.iadd), 0, 0, [], 0), (some (.iastore), 0, 0, [], 0), (some (.aload_n 0), 0, 0, [], 0), (some (.getfield 58), 7, 7, [], 0), (some (.iload_n 1), 0, 0, [], 0), (some (.iaload), 0, 0, [], 0), (some (.ireturn), 0, 0, [], 0)] := rfl
set_option maxRecDepth 20000 in
theorem ok_45 : ∀ t, mm_okc (mm_m 45) t (lab_45 t) = true := by
  intro t
  unfold lab_45
  split <;> first | decide +kernel | rfl
/-! X7_call -/
def lab_46 : Nat → List mm_E := fun t => match t with
  | 0 => [(some (.iload_n 1), 0, 0, [], 0), (some (.iconst 0), 0, 0, [], 0), (some (.iconst 2), 0, 0, [], 2), (some (.invokestatic 62), 65, 3, [], 0), (some (.ifCond .eq 18), 24, 0, [], 0), (some (.aload_n 0), 0, 0, [], 0), (some (.getfield 26), 7, 2, [], 0), (some (.iload_n 1), 0, 0, [], 0), (some (.aload_n 0), 0, 0, [], 0), (some (.getfield 66), 7, 8, [], 0), (some (.invokevirtual 103), 17, 3, [], 0), (some (.ifCond .ne 5), 26, 0, [], 0), (none, 24, 0, [], 0)]
  | 24 => [(some (.iconst (-1)), 0, 0, [], (-1)), (some (.ireturn), 0, 0, [], 0)]
  | 26 => [(some (.aload_n 0), 0, 0, [], 0), (some (.getfield 26), 7, 2, [], 0), (some (.getfield 106), 3, 1, [], 0), (some (.iload_n 1), 0, 0, [], 0), (some (.aload_n 0), 0, 0, [], 0), (some (.getfield 66), 7, 8, [], 0), (some (.iconst 3), 0, 0, [], 3), (some (.iadd), 0, 0, [], 0), (some (.iastore), 0, 0, [], 0), (some (.aload_n 0), 0, 0, [], 0), (some (.getfield 26), 7, 2, [], 0), (some (.getfield 109), 3, 0, [], 0), (some (.iload_n 1), 0, 0, [], 0), (some (.iconst 1), 0, 0, [], 1), (some (.bastore), 0, 0, [], 0), (some (.aload_n 0), 0, 0, [], 0), (some (.getfield 26), 7, 2, [], 0), (some (.getfield 106), 3, 1, [], 0), (some (.iload_n 1), 0, 0, [], 0), (some (.iaload), 0, 0, [], 0), (some (.ireturn), 0, 0, [], 0)]
  | _ => []
theorem lb_46_0 : lab_46 0 = [(some (.iload_n 1), 0, 0, [], 0), (some (.iconst 0), 0, 0, [], 0), (some (.iconst 2), 0, 0, [], 2), (some (.invokestatic 62), 65, 3, [], 0), (some (.ifCond .eq 18), 24, 0, [], 0), (some (.aload_n 0), 0, 0, [], 0), (some (.getfield 26), 7, 2, [], 0), (some (.iload_n 1), 0, 0, [], 0), (some (.aload_n 0), 0, 0, [], 0), (some (.getfield 66), 7, 8, [], 0), (some (.invokevirtual 103), 17, 3, [], 0), (some (.ifCond .ne 5), 26, 0, [], 0), (none, 24, 0, [], 0)] := rfl
theorem lb_46_24 : lab_46 24 = [(some (.iconst (-1)), 0, 0, [], (-1)), (some (.ireturn), 0, 0, [], 0)] := rfl
theorem lb_46_26 : lab_46 26 = [(some (.aload_n 0), 0, 0, [], 0), (some (.getfield 26), 7, 2, [], 0), (some (.getfield 106), 3, 1, [], 0), (some (.iload_n 1), 0, 0, [], 0), (some (.aload_n 0), 0, 0, [], 0), (some (.getfield 66), 7, 8, [], 0), (some (.iconst 3), 0, 0, [], 3), (some (.iadd), 0, 0, [], 0), (some (.iastore), 0, 0, [], 0), (some (.aload_n 0), 0, 0, [], 0), (some (.getfield 26), 7, 2, [], 0), (some (.getfield 109), 3, 0, [], 0), (some (.iload_n 1), 0, 0, [], 0), (some (.iconst 1), 0, 0, [], 1), (some (.bastore), 0, 0, [], 0), (some (.aload_n 0), 0, 0, [], 0), (some (.getfield 26), 7, 2, [], 0), (some (.getfield 106), 3, 1, [], 0), (some (.iload_n 1), 0, 0, [], 0), (some (.iaload), 0, 0, [], 0), (some (.ireturn), 0, 0, [], 0)] := rfl
set_option maxRecDepth 20000 in
theorem ok_46 : ∀ t, mm_okc (mm_m 46) t (lab_46 t) = true := by
  intro t
  unfold lab_46
  split <;> first | decide +kernel | rfl
/-! X7_pack -/
def lab_47 : Nat → List mm_E := fun t => match t with
  | 0 => [(some (.iload_n 1), 0, 0, [], 0), (some (.iconst 0), 0, 0, [], 0), (some (.iconst 2), 0, 0, [], 2), (some (.invokestatic 62), 65, 3, [], 0), (some (.ifCond .eq 14), 20, 0, [], 0), (some (.aload_n 0), 0, 0, [], 0), (some (.getfield 33), 7, 3, [], 0), (some (.iload_n 1), 0, 0, [], 0), (some (.invokevirtual 112), 12, 2, [], 0), (some (.ifCond .ne 5), 22, 0, [], 0), (none, 20, 0, [], 0)]
  | 20 => [(some (.iconst (-1)), 0, 0, [], (-1)), (some (.ireturn), 0, 0, [], 0)]
  | 22 => [(some (.aload_n 0), 0, 0, [], 0), (some (.getfield 19), 7, 1, [], 0), (some (.iload_n 2), 0, 0, [], 0), (some (.invokevirtual 115), 24, 2, [], 0), (some (.ifCond .eq 13), 43, 0, [], 0), (some (.iload_n 3), 0, 0, [], 0), (some (.iconst 1), 0, 0, [], 1), (some (.bipush 50), 0, 0, [], 50), (some (.invokestatic 62), 65, 3, [], 0), (some (.ifCond .ne 5), 45, 0, [], 0), (none, 43, 0, [], 0)]
  | 43 => [(some (.iconst (-1)), 0, 0, [], (-1)), (some (.ireturn), 0, 0, [], 0)]
  | 45 => [(some (.iload_n 3), 0, 0, [], 0), (some (.aload_n 0), 0, 0, [], 0), (some (.getfield 19), 7, 1, [], 0), (some (.getfield 116), 4, 3, [], 0), (some (.iload_n 2), 0, 0, [], 0), (some (.iaload), 0, 0, [], 0), (some (.imul), 0, 0, [], 0), (some (.istore 4), 0, 0, [], 0), (some (.aload_n 0), 0, 0, [], 0), (some (.getfield 40), 7, 4, [], 0), (some (.getfield 119), 0, 7, [], 0), (some (.aload_n 0), 0, 0, [], 0), (some (.getfield 33), 7, 3, [], 0), (some (.invokevirtual 122), 13, 1, [], 0), (none, 72, 0, [], 0)]
  | 72 => [(some (.iadd), 0, 0, [], 0), (some (.bipush 100), 0, 0, [], 100), (some (.if_icmp .ge 14), 89, 0, [], 0), (some (.aload_n 0), 0, 0, [], 0), (some (.iload_n 2), 0, 0, [], 0), (some (.iload_n 3), 0, 0, [], 0), (some (.iload 4), 0, 0, [], 0), (some (.invokevirtual 126), 62, 4, [], 0), (some (.ifCond .ne 5), 91, 0, [], 0), (none, 89, 0, [], 0)]
  | 89 => [(some (.iconst (-1)), 0, 0, [], (-1)), (some (.ireturn), 0, 0, [], 0)]
  | 91 => [(some (.aload_n 0), 0, 0, [], 0), (some (.getfield 58), 7, 7, [], 0), (some (.aload_n 0), 0, 0, [], 0), (some (.getfield 19), 7, 1, [], 0), (some (.getfield 129), 4, 2, [], 0), (some (.iload_n 2), 0, 0, [], 0), (some (.iaload), 0, 0, [], 0), (some (.dup2), 0, 0, [], 0), (some (.iaload), 0, 0, [], 0), (some (.iload_n 3), 0, 0, [], 0), (some (.isub), 0, 0, [], 0), (some (.iastore), 0, 0, [], 0), (some (.aload_n 0), 0, 0, [], 0), (some (.dup), 0, 0, [], 0), (some (.getfield 132), 7, 10, [], 0), (some (.iload 4), 0, 0, [], 0), (some (.iadd), 0, 0, [], 0), (some (.putfield 132), 7, 10, [], 0), (some (.aload_n 0), 0, 0, [], 0), (some (.getfield 33), 7, 3, [], 0), (some (.iload_n 1), 0, 0, [], 0), (some (.iload_n 2), 0, 0, [], 0), (some (.iload_n 3), 0, 0, [], 0), (some (.iload 4), 0, 0, [], 0), (some (.aload_n 0), 0, 0, [], 0), (some (.getfield 66), 7, 8, [], 0), (some (.aload_n 0), 0, 0, [], 0), (some (.getfield 19), 7, 1, [], 0), (some (.getfield 135), 4, 4, [], 0), (some (.iload_n 2), 0, 0, [], 0), (some (.iaload), 0, 0, [], 0), (some (.iadd), 0, 0, [], 0), (some (.invokevirtual 138), 15, 6, [], 0), (some (.aload_n 0), 0, 0, [], 0), (some (.getfield 10), 7, 0, [], 0), (some (.aload_n 0), 0, 0, [], 0), (some (.getfield 19), 7, 1, [], 0), (some (.getfield 142), 4, 1, [], 0), (some (.iload_n 2), 0, 0, [], 0), (some (.iaload), 0, 0, [], 0), (some (.iload 4), 0, 0, [], 0), (some (.aload_n 0), 0, 0, [], 0), (some (.getfield 33), 7, 3, [], 0), (some (.getfield 145), 2, 4, [], 0), (some (.iload_n 1), 0, 0, [], 0), (some (.bipush 60), 0, 0, [], 60), (some (.imul), 0, 0, [], 0), (some (.invokevirtual 146), 33, 5, [], 0), (some (.iload 4), 0, 0, [], 0), (some (.ireturn), 0, 0, [], 0)]
  | _ => []
theorem lb_47_0 : lab_47 0 = [(some (.iload_n 1), 0, 0, [], 0), (some (.iconst 0), 0, 0, [], 0), (some (.iconst 2), 0, 0, [], 2), (some (.invokestatic 62), 65, 3, [], 0), (some (.ifCond .eq 14), 20, 0, [], 0), (some (.aload_n 0), 0, 0, [], 0), (some (.getfield 33), 7, 3, [], 0), (some (.iload_n 1), 0, 0, [], 0), (some (.invokevirtual 112), 12, 2, [], 0), (some (.ifCond .ne 5), 22, 0, [], 0), (none, 20, 0, [], 0)] := rfl
theorem lb_47_20 : lab_47 20 = [(some (.iconst (-1)), 0, 0, [], (-1)), (some (.ireturn), 0, 0, [], 0)] := rfl
theorem lb_47_22 : lab_47 22 = [(some (.aload_n 0), 0, 0, [], 0), (some (.getfield 19), 7, 1, [], 0), (some (.iload_n 2), 0, 0, [], 0), (some (.invokevirtual 115), 24, 2, [], 0), (some (.ifCond .eq 13), 43, 0, [], 0), (some (.iload_n 3), 0, 0, [], 0), (some (.iconst 1), 0, 0, [], 1), (some (.bipush 50), 0, 0, [], 50), (some (.invokestatic 62), 65, 3, [], 0), (some (.ifCond .ne 5), 45, 0, [], 0), (none, 43, 0, [], 0)] := rfl
theorem lb_47_43 : lab_47 43 = [(some (.iconst (-1)), 0, 0, [], (-1)), (some (.ireturn), 0, 0, [], 0)] := rfl
theorem lb_47_45 : lab_47 45 = [(some (.iload_n 3), 0, 0, [], 0), (some (.aload_n 0), 0, 0, [], 0), (some (.getfield 19), 7, 1, [], 0), (some (.getfield 116), 4, 3, [], 0), (some (.iload_n 2), 0, 0, [], 0), (some (.iaload), 0, 0, [], 0), (some (.imul), 0, 0, [], 0), (some (.istore 4), 0, 0, [], 0), (some (.aload_n 0), 0, 0, [], 0), (some (.getfield 40), 7, 4, [], 0), (some (.getfield 119), 0, 7, [], 0), (some (.aload_n 0), 0, 0, [], 0), (some (.getfield 33), 7, 3, [], 0), (some (.invokevirtual 122), 13, 1, [], 0), (none, 72, 0, [], 0)] := rfl
theorem lb_47_72 : lab_47 72 = [(some (.iadd), 0, 0, [], 0), (some (.bipush 100), 0, 0, [], 100), (some (.if_icmp .ge 14), 89, 0, [], 0), (some (.aload_n 0), 0, 0, [], 0), (some (.iload_n 2), 0, 0, [], 0), (some (.iload_n 3), 0, 0, [], 0), (some (.iload 4), 0, 0, [], 0), (some (.invokevirtual 126), 62, 4, [], 0), (some (.ifCond .ne 5), 91, 0, [], 0), (none, 89, 0, [], 0)] := rfl
theorem lb_47_89 : lab_47 89 = [(some (.iconst (-1)), 0, 0, [], (-1)), (some (.ireturn), 0, 0, [], 0)] := rfl
theorem lb_47_91 : lab_47 91 = [(some (.aload_n 0), 0, 0, [], 0), (some (.getfield 58), 7, 7, [], 0), (some (.aload_n 0), 0, 0, [], 0), (some (.getfield 19), 7, 1, [], 0), (some (.getfield 129), 4, 2, [], 0), (some (.iload_n 2), 0, 0, [], 0), (some (.iaload), 0, 0, [], 0), (some (.dup2), 0, 0, [], 0), (some (.iaload), 0, 0, [], 0), (some (.iload_n 3), 0, 0, [], 0), (some (.isub), 0, 0, [], 0), (some (.iastore), 0, 0, [], 0), (some (.aload_n 0), 0, 0, [], 0), (some (.dup), 0, 0, [], 0), (some (.getfield 132), 7, 10, [], 0), (some (.iload 4), 0, 0, [], 0), (some (.iadd), 0, 0, [], 0), (some (.putfield 132), 7, 10, [], 0), (some (.aload_n 0), 0, 0, [], 0), (some (.getfield 33), 7, 3, [], 0), (some (.iload_n 1), 0, 0, [], 0), (some (.iload_n 2), 0, 0, [], 0), (some (.iload_n 3), 0, 0, [], 0), (some (.iload 4), 0, 0, [], 0), (some (.aload_n 0), 0, 0, [], 0), (some (.getfield 66), 7, 8, [], 0), (some (.aload_n 0), 0, 0, [], 0), (some (.getfield 19), 7, 1, [], 0), (some (.getfield 135), 4, 4, [], 0), (some (.iload_n 2), 0, 0, [], 0), (some (.iaload), 0, 0, [], 0), (some (.iadd), 0, 0, [], 0), (some (.invokevirtual 138), 15, 6, [], 0), (some (.aload_n 0), 0, 0, [], 0), (some (.getfield 10), 7, 0, [], 0), (some (.aload_n 0), 0, 0, [], 0), (some (.getfield 19), 7, 1, [], 0), (some (.getfield 142), 4, 1, [], 0), (some (.iload_n 2), 0, 0, [], 0), (some (.iaload), 0, 0, [], 0), (some (.iload 4), 0, 0, [], 0), (some (.aload_n 0), 0, 0, [], 0), (some (.getfield 33), 7, 3, [], 0), (some (.getfield 145), 2, 4, [], 0), (some (.iload_n 1), 0, 0, [], 0), (some (.bipush 60), 0, 0, [], 60), (some (.imul), 0, 0, [], 0), (some (.invokevirtual 146), 33, 5, [], 0), (some (.iload 4), 0, 0, [], 0), (some (.ireturn), 0, 0, [], 0)] := rfl
set_option maxRecDepth 20000 in
theorem ok_47 : ∀ t, mm_okc (mm_m 47) t (lab_47 t) = true := by
  intro t
  unfold lab_47
  split <;> first | decide +kernel | rfl
/-! X7_fail -/
def lab_48 : Nat → List mm_E := fun t => match t with
  | 0 => [(some (.iload_n 1), 0, 0, [], 0), (some (.iconst 0), 0, 0, [], 0), (some (.iconst 2), 0, 0, [], 2), (some (.invokestatic 62), 65, 3, [], 0), (some (.ifCond .eq 14), 20, 0, [], 0), (some (.aload_n 0), 0, 0, [], 0), (some (.getfield 33), 7, 3, [], 0), (some (.iload_n 1), 0, 0, [], 0), (some (.invokevirtual 112), 12, 2, [], 0), (some (.ifCond .eq 5), 22, 0, [], 0), (none, 20, 0, [], 0)]
  | 20 => [(some (.iconst (-1)), 0, 0, [], (-1)), (some (.ireturn), 0, 0, [], 0)]
  | 22 => [(some (.aload_n 0), 0, 0, [], 0), (some (.getfield 33), 7, 3, [], 0), (some (.getfield 150), 2, 3, [], 0), (some (.iload_n 1), 0, 0, [], 0), (some (.iaload), 0, 0, [], 0), (some (.istore_n 2), 0, 0, [], 0), (some (.aload_n 0), 0, 0, [], 0), (some (.dup), 0, 0, [], 0), (some (.getfield 153), 7, 11, [], 0), (some (.iload_n 2), 0, 0, [], 0), (some (.iadd), 0, 0, [], 0), (some (.putfield 153), 7, 11, [], 0), (some (.aload_n 0), 0, 0, [], 0), (some (.getfield 33), 7, 3, [], 0), (some (.iload_n 1), 0, 0, [], 0), (some (.invokevirtual 156), 16, 2, [], 0), (some (.iload_n 2), 0, 0, [], 0), (some (.ireturn), 0, 0, [], 0)]
  | _ => []
theorem lb_48_0 : lab_48 0 = [(some (.iload_n 1), 0, 0, [], 0), (some (.iconst 0), 0, 0, [], 0), (some (.iconst 2), 0, 0, [], 2), (some (.invokestatic 62), 65, 3, [], 0), (some (.ifCond .eq 14), 20, 0, [], 0), (some (.aload_n 0), 0, 0, [], 0), (some (.getfield 33), 7, 3, [], 0), (some (.iload_n 1), 0, 0, [], 0), (some (.invokevirtual 112), 12, 2, [], 0), (some (.ifCond .eq 5), 22, 0, [], 0), (none, 20, 0, [], 0)] := rfl
theorem lb_48_20 : lab_48 20 = [(some (.iconst (-1)), 0, 0, [], (-1)), (some (.ireturn), 0, 0, [], 0)] := rfl
theorem lb_48_22 : lab_48 22 = [(some (.aload_n 0), 0, 0, [], 0), (some (.getfield 33), 7, 3, [], 0), (some (.getfield 150), 2, 3, [], 0), (some (.iload_n 1), 0, 0, [], 0), (some (.iaload), 0, 0, [], 0), (some (.istore_n 2), 0, 0, [], 0), (some (.aload_n 0), 0, 0, [], 0), (some (.dup), 0, 0, [], 0), (some (.getfield 153), 7, 11, [], 0), (some (.iload_n 2), 0, 0, [], 0), (some (.iadd), 0, 0, [], 0), (some (.putfield 153), 7, 11, [], 0), (some (.aload_n 0), 0, 0, [], 0), (some (.getfield 33), 7, 3, [], 0), (some (.iload_n 1), 0, 0, [], 0), (some (.invokevirtual 156), 16, 2, [], 0), (some (.iload_n 2), 0, 0, [], 0), (some (.ireturn), 0, 0, [], 0)] := rfl
set_option maxRecDepth 20000 in
theorem ok_48 : ∀ t, mm_okc (mm_m 48) t (lab_48 t) = true := by
  intro t
  unfold lab_48
  split <;> first | decide +kernel | rfl
/-! X7_go -/
def lab_49 : Nat → List mm_E := fun t => match t with
  | 0 => [(some (.iload_n 1), 0, 0, [], 0), (some (.iconst 0), 0, 0, [], 0), (some (.sipush 400), 0, 0, [], 400), (some (.invokestatic 62), 65, 3, [], 0), (some (.ifCond .ne 5), 13, 0, [], 0), (some (.iconst (-1)), 0, 0, [], (-1)), (some (.ireturn), 0, 0, [], 0)]
  | 13 => [(some (.iconst 0), 0, 0, [], 0), (some (.istore_n 2), 0, 0, [], 0), (none, 15, 0, [], 0)]
  | 15 => [(some (.iload_n 2), 0, 0, [], 0), (some (.iload_n 1), 0, 0, [], 0), (some (.if_icmp .ge 23), 40, 0, [], 0), (some (.aload_n 0), 0, 0, [], 0), (some (.getfield 66), 7, 8, [], 0), (some (.sipush 5000), 0, 0, [], 5000), (some (.if_icmp .ge 13), 40, 0, [], 0), (some (.aload_n 0), 0, 0, [], 0), (some (.invokevirtual 160), 63, 1, [], 0), (some (.iinc 2 1), 0, 0, [], 1), (some (.goto (-22)), 15, 0, [], 0)]
  | 40 => [(some (.aload_n 0), 0, 0, [], 0), (some (.getfield 66), 7, 8, [], 0), (some (.ireturn), 0, 0, [], 0)]
  | _ => []
theorem lb_49_0 : lab_49 0 = [(some (.iload_n 1), 0, 0, [], 0), (some (.iconst 0), 0, 0, [], 0), (some (.sipush 400), 0, 0, [], 400), (some (.invokestatic 62), 65, 3, [], 0), (some (.ifCond .ne 5), 13, 0, [], 0), (some (.iconst (-1)), 0, 0, [], (-1)), (some (.ireturn), 0, 0, [], 0)] := rfl
theorem lb_49_13 : lab_49 13 = [(some (.iconst 0), 0, 0, [], 0), (some (.istore_n 2), 0, 0, [], 0), (none, 15, 0, [], 0)] := rfl
theorem lb_49_15 : lab_49 15 = [(some (.iload_n 2), 0, 0, [], 0), (some (.iload_n 1), 0, 0, [], 0), (some (.if_icmp .ge 23), 40, 0, [], 0), (some (.aload_n 0), 0, 0, [], 0), (some (.getfield 66), 7, 8, [], 0), (some (.sipush 5000), 0, 0, [], 5000), (some (.if_icmp .ge 13), 40, 0, [], 0), (some (.aload_n 0), 0, 0, [], 0), (some (.invokevirtual 160), 63, 1, [], 0), (some (.iinc 2 1), 0, 0, [], 1), (some (.goto (-22)), 15, 0, [], 0)] := rfl
theorem lb_49_40 : lab_49 40 = [(some (.aload_n 0), 0, 0, [], 0), (some (.getfield 66), 7, 8, [], 0), (some (.ireturn), 0, 0, [], 0)] := rfl
set_option maxRecDepth 20000 in
theorem ok_49 : ∀ t, mm_okc (mm_m 49) t (lab_49 t) = true := by
  intro t
  unfold lab_49
  split <;> first | decide +kernel | rfl
/-! X7_plan -/
def lab_50 : Nat → List mm_E := fun t => match t with
  | 0 => [(some (.aload_n 0), 0, 0, [], 0), (some (.getfield 19), 7, 1, [], 0), (some (.iload_n 1), 0, 0, [], 0), (some (.invokevirtual 115), 24, 2, [], 0), (some (.ifCond .ne 5), 13, 0, [], 0), (some (.iconst (-1)), 0, 0, [], (-1)), (some (.ireturn), 0, 0, [], 0)]
  | 13 => [(some (.aload_n 0), 0, 0, [], 0), (some (.getfield 54), 7, 6, [], 0), (some (.aload_n 0), 0, 0, [], 0), (some (.getfield 19), 7, 1, [], 0), (some (.aload_n 0), 0, 0, [], 0), (some (.getfield 10), 7, 0, [], 0), (some (.aload_n 0), 0, 0, [], 0), (some (.getfield 58), 7, 7, [], 0), (some (.invokevirtual 163), 36, 4, [], 0), (some (.aload_n 0), 0, 0, [], 0), (some (.getfield 54), 7, 6, [], 0), (some (.getfield 167), 6, 5, [], 0), (some (.iload_n 1), 0, 0, [], 0), (some (.iaload), 0, 0, [], 0), (some (.ireturn), 0, 0, [], 0)]
  | _ => []
theorem lb_50_0 : lab_50 0 = [(some (.aload_n 0), 0, 0, [], 0), (some (.getfield 19), 7, 1, [], 0), (some (.iload_n 1), 0, 0, [], 0), (some (.invokevirtual 115), 24, 2, [], 0), (some (.ifCond .ne 5), 13, 0, [], 0), (some (.iconst (-1)), 0, 0, [], (-1)), (some (.ireturn), 0, 0, [], 0)] := rfl
theorem lb_50_13 : lab_50 13 = [(some (.aload_n 0), 0, 0, [], 0), (some (.getfield 54), 7, 6, [], 0), (some (.aload_n 0), 0, 0, [], 0), (some (.getfield 19), 7, 1, [], 0), (some (.aload_n 0), 0, 0, [], 0), (some (.getfield 10), 7, 0, [], 0), (some (.aload_n 0), 0, 0, [], 0), (some (.getfield 58), 7, 7, [], 0), (some (.invokevirtual 163), 36, 4, [], 0), (some (.aload_n 0), 0, 0, [], 0), (some (.getfield 54), 7, 6, [], 0), (some (.getfield 167), 6, 5, [], 0), (some (.iload_n 1), 0, 0, [], 0), (some (.iaload), 0, 0, [], 0), (some (.ireturn), 0, 0, [], 0)] := rfl
set_option maxRecDepth 20000 in
theorem ok_50 : ∀ t, mm_okc (mm_m 50) t (lab_50 t) = true := by
  intro t
  unfold lab_50
  split <;> first | decide +kernel | rfl
/-! X7_worth -/
def lab_51 : Nat → List mm_E := fun t => match t with
  | 0 => [(some (.aload_n 0), 0, 0, [], 0), (some (.getfield 54), 7, 6, [], 0), (some (.aload_n 0), 0, 0, [], 0), (some (.getfield 19), 7, 1, [], 0), (some (.aload_n 0), 0, 0, [], 0), (some (.getfield 10), 7, 0, [], 0), (some (.aload_n 0), 0, 0, [], 0), (some (.getfield 58), 7, 7, [], 0), (some (.invokevirtual 163), 36, 4, [], 0), (some (.aload_n 0), 0, 0, [], 0), (some (.getfield 54), 7, 6, [], 0), (some (.getfield 170), 6, 7, [], 0), (some (.ireturn), 0, 0, [], 0)]
  | _ => []
theorem lb_51_0 : lab_51 0 = [(some (.aload_n 0), 0, 0, [], 0), (some (.getfield 54), 7, 6, [], 0), (some (.aload_n 0), 0, 0, [], 0), (some (.getfield 19), 7, 1, [], 0), (some (.aload_n 0), 0, 0, [], 0), (some (.getfield 10), 7, 0, [], 0), (some (.aload_n 0), 0, 0, [], 0), (some (.getfield 58), 7, 7, [], 0), (some (.invokevirtual 163), 36, 4, [], 0), (some (.aload_n 0), 0, 0, [], 0), (some (.getfield 54), 7, 6, [], 0), (some (.getfield 170), 6, 7, [], 0), (some (.ireturn), 0, 0, [], 0)] := rfl
set_option maxRecDepth 20000 in
theorem ok_51 : ∀ t, mm_okc (mm_m 51) t (lab_51 t) = true := by
  intro t
  unfold lab_51
  split <;> first | decide +kernel | rfl
/-! X7_sell -/
def lab_52 : Nat → List mm_E := fun t => match t with
  | 0 => [(some (.iload_n 1), 0, 0, [], 0), (some (.iconst 0), 0, 0, [], 0), (some (.iconst 5), 0, 0, [], 5), (some (.invokestatic 62), 65, 3, [], 0), (some (.ifCond .eq 14), 20, 0, [], 0), (some (.aload_n 0), 0, 0, [], 0), (some (.getfield 19), 7, 1, [], 0), (some (.iload_n 2), 0, 0, [], 0), (some (.invokevirtual 115), 24, 2, [], 0), (some (.ifCond .ne 5), 22, 0, [], 0), (none, 20, 0, [], 0)]
  | 20 => [(some (.iconst (-1)), 0, 0, [], (-1)), (some (.ireturn), 0, 0, [], 0)]
  | 22 => [(some (.iload_n 3), 0, 0, [], 0), (some (.iconst 1), 0, 0, [], 1), (some (.aload_n 0), 0, 0, [], 0), (some (.getfield 40), 7, 4, [], 0), (some (.iload_n 2), 0, 0, [], 0), (some (.invokevirtual 173), 3, 2, [], 0), (some (.invokestatic 62), 65, 3, [], 0), (some (.ifCond .ne 5), 40, 0, [], 0), (some (.iconst (-1)), 0, 0, [], (-1)), (some (.ireturn), 0, 0, [], 0)]
  | 40 => [(some (.aload_n 0), 0, 0, [], 0), (some (.getfield 40), 7, 4, [], 0), (some (.iload_n 1), 0, 0, [], 0), (some (.iload_n 2), 0, 0, [], 0), (some (.iload_n 3), 0, 0, [], 0), (some (.aload_n 0), 0, 0, [], 0), (some (.getfield 19), 7, 1, [], 0), (some (.getfield 177), 4, 5, [], 0), (some (.iload_n 2), 0, 0, [], 0), (some (.iaload), 0, 0, [], 0), (some (.aload_n 0), 0, 0, [], 0), (some (.getfield 66), 7, 8, [], 0), (some (.invokevirtual 180), 5, 6, [], 0), (some (.istore 4), 0, 0, [], 0), (some (.aload_n 0), 0, 0, [], 0), (some (.getfield 47), 7, 5, [], 0), (some (.iload_n 1), 0, 0, [], 0), (some (.iload_n 2), 0, 0, [], 0), (some (.iload_n 3), 0, 0, [], 0), (some (.invokevirtual 184), 9, 4, [], 0), (some (.aload_n 0), 0, 0, [], 0), (some (.dup), 0, 0, [], 0), (some (.getfield 187), 7, 12, [], 0), (some (.iload 4), 0, 0, [], 0), (some (.iadd), 0, 0, [], 0), (some (.putfield 187), 7, 12, [], 0), (some (.iload 4), 0, 0, [], 0), (some (.ireturn), 0, 0, [], 0)]
  | _ => []
theorem lb_52_0 : lab_52 0 = [(some (.iload_n 1), 0, 0, [], 0), (some (.iconst 0), 0, 0, [], 0), (some (.iconst 5), 0, 0, [], 5), (some (.invokestatic 62), 65, 3, [], 0), (some (.ifCond .eq 14), 20, 0, [], 0), (some (.aload_n 0), 0, 0, [], 0), (some (.getfield 19), 7, 1, [], 0), (some (.iload_n 2), 0, 0, [], 0), (some (.invokevirtual 115), 24, 2, [], 0), (some (.ifCond .ne 5), 22, 0, [], 0), (none, 20, 0, [], 0)] := rfl
theorem lb_52_20 : lab_52 20 = [(some (.iconst (-1)), 0, 0, [], (-1)), (some (.ireturn), 0, 0, [], 0)] := rfl
theorem lb_52_22 : lab_52 22 = [(some (.iload_n 3), 0, 0, [], 0), (some (.iconst 1), 0, 0, [], 1), (some (.aload_n 0), 0, 0, [], 0), (some (.getfield 40), 7, 4, [], 0), (some (.iload_n 2), 0, 0, [], 0), (some (.invokevirtual 173), 3, 2, [], 0), (some (.invokestatic 62), 65, 3, [], 0), (some (.ifCond .ne 5), 40, 0, [], 0), (some (.iconst (-1)), 0, 0, [], (-1)), (some (.ireturn), 0, 0, [], 0)] := rfl
theorem lb_52_40 : lab_52 40 = [(some (.aload_n 0), 0, 0, [], 0), (some (.getfield 40), 7, 4, [], 0), (some (.iload_n 1), 0, 0, [], 0), (some (.iload_n 2), 0, 0, [], 0), (some (.iload_n 3), 0, 0, [], 0), (some (.aload_n 0), 0, 0, [], 0), (some (.getfield 19), 7, 1, [], 0), (some (.getfield 177), 4, 5, [], 0), (some (.iload_n 2), 0, 0, [], 0), (some (.iaload), 0, 0, [], 0), (some (.aload_n 0), 0, 0, [], 0), (some (.getfield 66), 7, 8, [], 0), (some (.invokevirtual 180), 5, 6, [], 0), (some (.istore 4), 0, 0, [], 0), (some (.aload_n 0), 0, 0, [], 0), (some (.getfield 47), 7, 5, [], 0), (some (.iload_n 1), 0, 0, [], 0), (some (.iload_n 2), 0, 0, [], 0), (some (.iload_n 3), 0, 0, [], 0), (some (.invokevirtual 184), 9, 4, [], 0), (some (.aload_n 0), 0, 0, [], 0), (some (.dup), 0, 0, [], 0), (some (.getfield 187), 7, 12, [], 0), (some (.iload 4), 0, 0, [], 0), (some (.iadd), 0, 0, [], 0), (some (.putfield 187), 7, 12, [], 0), (some (.iload 4), 0, 0, [], 0), (some (.ireturn), 0, 0, [], 0)] := rfl
set_option maxRecDepth 20000 in
theorem ok_52 : ∀ t, mm_okc (mm_m 52) t (lab_52 t) = true := by
  intro t
  unfold lab_52
  split <;> first | decide +kernel | rfl
/-! X7_contract -/
def lab_53 : Nat → List mm_E := fun t => match t with
  | 0 => [(some (.iload_n 1), 0, 0, [], 0), (some (.iconst 0), 0, 0, [], 0), (some (.iconst 5), 0, 0, [], 5), (some (.invokestatic 62), 65, 3, [], 0), (some (.ifCond .eq 14), 20, 0, [], 0), (some (.aload_n 0), 0, 0, [], 0), (some (.getfield 19), 7, 1, [], 0), (some (.iload_n 2), 0, 0, [], 0), (some (.invokevirtual 115), 24, 2, [], 0), (some (.ifCond .ne 5), 22, 0, [], 0), (none, 20, 0, [], 0)]
  | 20 => [(some (.iconst (-1)), 0, 0, [], (-1)), (some (.ireturn), 0, 0, [], 0)]
  | 22 => [(some (.iload_n 3), 0, 0, [], 0), (some (.iconst 1), 0, 0, [], 1), (some (.sipush 500), 0, 0, [], 500), (some (.invokestatic 62), 65, 3, [], 0), (some (.ifCond .eq 21), 51, 0, [], 0), (some (.iload 4), 0, 0, [], 0), (some (.aload_n 0), 0, 0, [], 0), (some (.getfield 66), 7, 8, [], 0), (some (.sipush 168), 0, 0, [], 168), (some (.idiv), 0, 0, [], 0), (some (.bipush 29), 0, 0, [], 29), (some (.invokestatic 62), 65, 3, [], 0), (some (.ifCond .ne 5), 53, 0, [], 0), (none, 51, 0, [], 0)]
  | 51 => [(some (.iconst (-1)), 0, 0, [], (-1)), (some (.ireturn), 0, 0, [], 0)]
  | 53 => [(some (.aload_n 0), 0, 0, [], 0), (some (.getfield 47), 7, 5, [], 0), (some (.iload_n 1), 0, 0, [], 0), (some (.iload_n 2), 0, 0, [], 0), (some (.iload_n 3), 0, 0, [], 0), (some (.iload 4), 0, 0, [], 0), (some (.invokevirtual 190), 8, 5, [], 0), (some (.ireturn), 0, 0, [], 0)]
  | _ => []
theorem lb_53_0 : lab_53 0 = [(some (.iload_n 1), 0, 0, [], 0), (some (.iconst 0), 0, 0, [], 0), (some (.iconst 5), 0, 0, [], 5), (some (.invokestatic 62), 65, 3, [], 0), (some (.ifCond .eq 14), 20, 0, [], 0), (some (.aload_n 0), 0, 0, [], 0), (some (.getfield 19), 7, 1, [], 0), (some (.iload_n 2), 0, 0, [], 0), (some (.invokevirtual 115), 24, 2, [], 0), (some (.ifCond .ne 5), 22, 0, [], 0), (none, 20, 0, [], 0)] := rfl
theorem lb_53_20 : lab_53 20 = [(some (.iconst (-1)), 0, 0, [], (-1)), (some (.ireturn), 0, 0, [], 0)] := rfl
theorem lb_53_22 : lab_53 22 = [(some (.iload_n 3), 0, 0, [], 0), (some (.iconst 1), 0, 0, [], 1), (some (.sipush 500), 0, 0, [], 500), (some (.invokestatic 62), 65, 3, [], 0), (some (.ifCond .eq 21), 51, 0, [], 0), (some (.iload 4), 0, 0, [], 0), (some (.aload_n 0), 0, 0, [], 0), (some (.getfield 66), 7, 8, [], 0), (some (.sipush 168), 0, 0, [], 168), (some (.idiv), 0, 0, [], 0), (some (.bipush 29), 0, 0, [], 29), (some (.invokestatic 62), 65, 3, [], 0), (some (.ifCond .ne 5), 53, 0, [], 0), (none, 51, 0, [], 0)] := rfl
theorem lb_53_51 : lab_53 51 = [(some (.iconst (-1)), 0, 0, [], (-1)), (some (.ireturn), 0, 0, [], 0)] := rfl
theorem lb_53_53 : lab_53 53 = [(some (.aload_n 0), 0, 0, [], 0), (some (.getfield 47), 7, 5, [], 0), (some (.iload_n 1), 0, 0, [], 0), (some (.iload_n 2), 0, 0, [], 0), (some (.iload_n 3), 0, 0, [], 0), (some (.iload 4), 0, 0, [], 0), (some (.invokevirtual 190), 8, 5, [], 0), (some (.ireturn), 0, 0, [], 0)] := rfl
set_option maxRecDepth 20000 in
theorem ok_53 : ∀ t, mm_okc (mm_m 53) t (lab_53 t) = true := by
  intro t
  unfold lab_53
  split <;> first | decide +kernel | rfl
/-! X7_lacks -/
def lab_54 : Nat → List mm_E := fun t => match t with
  | 0 => [(some (.aload_n 0), 0, 0, [], 0), (some (.getfield 47), 7, 5, [], 0), (some (.iload_n 1), 0, 0, [], 0), (some (.invokevirtual 193), 7, 2, [], 0), (some (.ifCond .eq 15), 23, 0, [], 0), (some (.aload_n 0), 0, 0, [], 0), (some (.getfield 47), 7, 5, [], 0), (some (.getfield 194), 1, 5, [], 0), (some (.iload_n 1), 0, 0, [], 0), (some (.baload), 0, 0, [], 0), (some (.ifCond .eq 5), 25, 0, [], 0), (none, 23, 0, [], 0)]
  | 23 => [(some (.iconst (-1)), 0, 0, [], (-1)), (some (.ireturn), 0, 0, [], 0)]
  | 25 => [(some (.aload_n 0), 0, 0, [], 0), (some (.getfield 47), 7, 5, [], 0), (some (.iload_n 1), 0, 0, [], 0), (some (.aload_n 0), 0, 0, [], 0), (some (.getfield 40), 7, 4, [], 0), (some (.aload_n 0), 0, 0, [], 0), (some (.getfield 47), 7, 5, [], 0), (some (.getfield 197), 1, 1, [], 0), (some (.iload_n 1), 0, 0, [], 0), (some (.iaload), 0, 0, [], 0), (some (.invokevirtual 173), 3, 2, [], 0), (some (.invokevirtual 200), 10, 3, [], 0), (some (.ireturn), 0, 0, [], 0)]
  | _ => []
theorem lb_54_0 : lab_54 0 = [(some (.aload_n 0), 0, 0, [], 0), (some (.getfield 47), 7, 5, [], 0), (some (.iload_n 1), 0, 0, [], 0), (some (.invokevirtual 193), 7, 2, [], 0), (some (.ifCond .eq 15), 23, 0, [], 0), (some (.aload_n 0), 0, 0, [], 0), (some (.getfield 47), 7, 5, [], 0), (some (.getfield 194), 1, 5, [], 0), (some (.iload_n 1), 0, 0, [], 0), (some (.baload), 0, 0, [], 0), (some (.ifCond .eq 5), 25, 0, [], 0), (none, 23, 0, [], 0)] := rfl
theorem lb_54_23 : lab_54 23 = [(some (.iconst (-1)), 0, 0, [], (-1)), (some (.ireturn), 0, 0, [], 0)] := rfl
theorem lb_54_25 : lab_54 25 = [(some (.aload_n 0), 0, 0, [], 0), (some (.getfield 47), 7, 5, [], 0), (some (.iload_n 1), 0, 0, [], 0), (some (.aload_n 0), 0, 0, [], 0), (some (.getfield 40), 7, 4, [], 0), (some (.aload_n 0), 0, 0, [], 0), (some (.getfield 47), 7, 5, [], 0), (some (.getfield 197), 1, 1, [], 0), (some (.iload_n 1), 0, 0, [], 0), (some (.iaload), 0, 0, [], 0), (some (.invokevirtual 173), 3, 2, [], 0), (some (.invokevirtual 200), 10, 3, [], 0), (some (.ireturn), 0, 0, [], 0)] := rfl
set_option maxRecDepth 20000 in
theorem ok_54 : ∀ t, mm_okc (mm_m 54) t (lab_54 t) = true := by
  intro t
  unfold lab_54
  split <;> first | decide +kernel | rfl
/-! X7_recall -/
def lab_55 : Nat → List mm_E := fun t => match t with
  | 0 => [(some (.aload_n 0), 0, 0, [], 0), (some (.getfield 10), 7, 0, [], 0), (some (.iload_n 1), 0, 0, [], 0), (some (.invokevirtual 79), 26, 2, [], 0), (some (.ifCond .eq 15), 23, 0, [], 0), (some (.aload_n 0), 0, 0, [], 0), (some (.getfield 10), 7, 0, [], 0), (some (.getfield 204), 5, 4, [], 0), (some (.iload_n 1), 0, 0, [], 0), (some (.baload), 0, 0, [], 0), (some (.ifCond .eq 5), 25, 0, [], 0), (none, 23, 0, [], 0)]
  | 23 => [(some (.iconst (-1)), 0, 0, [], (-1)), (some (.ireturn), 0, 0, [], 0)]
  | 25 => [(some (.aload_n 0), 0, 0, [], 0), (some (.getfield 10), 7, 0, [], 0), (some (.getfield 204), 5, 4, [], 0), (some (.iload_n 1), 0, 0, [], 0), (some (.iconst 1), 0, 0, [], 1), (some (.bastore), 0, 0, [], 0), (some (.aload_n 0), 0, 0, [], 0), (some (.getfield 40), 7, 4, [], 0), (some (.iload_n 1), 0, 0, [], 0), (some (.invokevirtual 207), 6, 2, [], 0), (some (.ireturn), 0, 0, [], 0)]
  | _ => []
theorem lb_55_0 : lab_55 0 = [(some (.aload_n 0), 0, 0, [], 0), (some (.getfield 10), 7, 0, [], 0), (some (.iload_n 1), 0, 0, [], 0), (some (.invokevirtual 79), 26, 2, [], 0), (some (.ifCond .eq 15), 23, 0, [], 0), (some (.aload_n 0), 0, 0, [], 0), (some (.getfield 10), 7, 0, [], 0), (some (.getfield 204), 5, 4, [], 0), (some (.iload_n 1), 0, 0, [], 0), (some (.baload), 0, 0, [], 0), (some (.ifCond .eq 5), 25, 0, [], 0), (none, 23, 0, [], 0)] := rfl
theorem lb_55_23 : lab_55 23 = [(some (.iconst (-1)), 0, 0, [], (-1)), (some (.ireturn), 0, 0, [], 0)] := rfl
theorem lb_55_25 : lab_55 25 = [(some (.aload_n 0), 0, 0, [], 0), (some (.getfield 10), 7, 0, [], 0), (some (.getfield 204), 5, 4, [], 0), (some (.iload_n 1), 0, 0, [], 0), (some (.iconst 1), 0, 0, [], 1), (some (.bastore), 0, 0, [], 0), (some (.aload_n 0), 0, 0, [], 0), (some (.getfield 40), 7, 4, [], 0), (some (.iload_n 1), 0, 0, [], 0), (some (.invokevirtual 207), 6, 2, [], 0), (some (.ireturn), 0, 0, [], 0)] := rfl
set_option maxRecDepth 20000 in
theorem ok_55 : ∀ t, mm_okc (mm_m 55) t (lab_55 t) = true := by
  intro t
  unfold lab_55
  split <;> first | decide +kernel | rfl
/-! X7_lot -/
def lab_56 : Nat → List mm_E := fun t => match t with
  | 0 => [(some (.aload_n 0), 0, 0, [], 0), (some (.getfield 10), 7, 0, [], 0), (some (.iload_n 1), 0, 0, [], 0), (some (.invokevirtual 79), 26, 2, [], 0), (some (.ifCond .ne 5), 13, 0, [], 0), (some (.iconst (-1)), 0, 0, [], (-1)), (some (.ireturn), 0, 0, [], 0)]
  | 13 => [(some (.iload_n 2), 0, 0, [], 0), (some (.tableswitch 89 0 4 #[34, 44, 54, 63, 76]), 103, 34, [48, 58, 68, 77, 90], 0)]
  | 48 => [(some (.aload_n 0), 0, 0, [], 0), (some (.getfield 10), 7, 0, [], 0), (some (.getfield 210), 5, 0, [], 0), (some (.iload_n 1), 0, 0, [], 0), (some (.iaload), 0, 0, [], 0), (some (.ireturn), 0, 0, [], 0)]
  | 58 => [(some (.aload_n 0), 0, 0, [], 0), (some (.getfield 10), 7, 0, [], 0), (some (.getfield 87), 5, 1, [], 0), (some (.iload_n 1), 0, 0, [], 0), (some (.iaload), 0, 0, [], 0), (some (.ireturn), 0, 0, [], 0)]
  | 68 => [(some (.aload_n 0), 0, 0, [], 0), (some (.getfield 10), 7, 0, [], 0), (some (.iload_n 1), 0, 0, [], 0), (some (.invokevirtual 213), 28, 2, [], 0), (some (.ireturn), 0, 0, [], 0)]
  | 77 => [(some (.aload_n 0), 0, 0, [], 0), (some (.getfield 10), 7, 0, [], 0), (some (.getfield 90), 5, 3, [], 0), (some (.iload_n 1), 0, 0, [], 0), (some (.baload), 0, 0, [], 0), (some (.invokestatic 216), 66, 1, [], 0), (some (.ireturn), 0, 0, [], 0)]
  | 90 => [(some (.aload_n 0), 0, 0, [], 0), (some (.getfield 10), 7, 0, [], 0), (some (.getfield 204), 5, 4, [], 0), (some (.iload_n 1), 0, 0, [], 0), (some (.baload), 0, 0, [], 0), (some (.invokestatic 216), 66, 1, [], 0), (some (.ireturn), 0, 0, [], 0)]
  | 103 => [(some (.iconst (-1)), 0, 0, [], (-1)), (some (.ireturn), 0, 0, [], 0)]
  | _ => []
theorem lb_56_0 : lab_56 0 = [(some (.aload_n 0), 0, 0, [], 0), (some (.getfield 10), 7, 0, [], 0), (some (.iload_n 1), 0, 0, [], 0), (some (.invokevirtual 79), 26, 2, [], 0), (some (.ifCond .ne 5), 13, 0, [], 0), (some (.iconst (-1)), 0, 0, [], (-1)), (some (.ireturn), 0, 0, [], 0)] := rfl
theorem lb_56_13 : lab_56 13 = [(some (.iload_n 2), 0, 0, [], 0), (some (.tableswitch 89 0 4 #[34, 44, 54, 63, 76]), 103, 34, [48, 58, 68, 77, 90], 0)] := rfl
theorem lb_56_48 : lab_56 48 = [(some (.aload_n 0), 0, 0, [], 0), (some (.getfield 10), 7, 0, [], 0), (some (.getfield 210), 5, 0, [], 0), (some (.iload_n 1), 0, 0, [], 0), (some (.iaload), 0, 0, [], 0), (some (.ireturn), 0, 0, [], 0)] := rfl
theorem lb_56_58 : lab_56 58 = [(some (.aload_n 0), 0, 0, [], 0), (some (.getfield 10), 7, 0, [], 0), (some (.getfield 87), 5, 1, [], 0), (some (.iload_n 1), 0, 0, [], 0), (some (.iaload), 0, 0, [], 0), (some (.ireturn), 0, 0, [], 0)] := rfl
theorem lb_56_68 : lab_56 68 = [(some (.aload_n 0), 0, 0, [], 0), (some (.getfield 10), 7, 0, [], 0), (some (.iload_n 1), 0, 0, [], 0), (some (.invokevirtual 213), 28, 2, [], 0), (some (.ireturn), 0, 0, [], 0)] := rfl
theorem lb_56_77 : lab_56 77 = [(some (.aload_n 0), 0, 0, [], 0), (some (.getfield 10), 7, 0, [], 0), (some (.getfield 90), 5, 3, [], 0), (some (.iload_n 1), 0, 0, [], 0), (some (.baload), 0, 0, [], 0), (some (.invokestatic 216), 66, 1, [], 0), (some (.ireturn), 0, 0, [], 0)] := rfl
theorem lb_56_90 : lab_56 90 = [(some (.aload_n 0), 0, 0, [], 0), (some (.getfield 10), 7, 0, [], 0), (some (.getfield 204), 5, 4, [], 0), (some (.iload_n 1), 0, 0, [], 0), (some (.baload), 0, 0, [], 0), (some (.invokestatic 216), 66, 1, [], 0), (some (.ireturn), 0, 0, [], 0)] := rfl
theorem lb_56_103 : lab_56 103 = [(some (.iconst (-1)), 0, 0, [], (-1)), (some (.ireturn), 0, 0, [], 0)] := rfl
set_option maxRecDepth 20000 in
theorem ok_56 : ∀ t, mm_okc (mm_m 56) t (lab_56 t) = true := by
  intro t
  unfold lab_56
  split <;> first | decide +kernel | rfl
/-! X7_batch -/
def lab_57 : Nat → List mm_E := fun t => match t with
  | 0 => [(some (.aload_n 0), 0, 0, [], 0), (some (.getfield 40), 7, 4, [], 0), (some (.iload_n 1), 0, 0, [], 0), (some (.invokevirtual 220), 0, 2, [], 0), (some (.ifCond .ne 5), 13, 0, [], 0), (some (.iconst (-1)), 0, 0, [], (-1)), (some (.ireturn), 0, 0, [], 0)]
  | 13 => [(some (.iload_n 2), 0, 0, [], 0), (some (.tableswitch 121 0 5 #[38, 48, 58, 68, 81, 91]), 135, 38, [52, 62, 72, 82, 95, 105], 0)]
  | 52 => [(some (.aload_n 0), 0, 0, [], 0), (some (.getfield 40), 7, 4, [], 0), (some (.getfield 221), 0, 0, [], 0), (some (.iload_n 1), 0, 0, [], 0), (some (.iaload), 0, 0, [], 0), (some (.ireturn), 0, 0, [], 0)]
  | 62 => [(some (.aload_n 0), 0, 0, [], 0), (some (.getfield 40), 7, 4, [], 0), (some (.getfield 222), 0, 2, [], 0), (some (.iload_n 1), 0, 0, [], 0), (some (.iaload), 0, 0, [], 0), (some (.ireturn), 0, 0, [], 0)]
  | 72 => [(some (.aload_n 0), 0, 0, [], 0), (some (.getfield 40), 7, 4, [], 0), (some (.getfield 223), 0, 3, [], 0), (some (.iload_n 1), 0, 0, [], 0), (some (.iaload), 0, 0, [], 0), (some (.ireturn), 0, 0, [], 0)]
  | 82 => [(some (.aload_n 0), 0, 0, [], 0), (some (.getfield 40), 7, 4, [], 0), (some (.getfield 226), 0, 5, [], 0), (some (.iload_n 1), 0, 0, [], 0), (some (.baload), 0, 0, [], 0), (some (.invokestatic 216), 66, 1, [], 0), (some (.ireturn), 0, 0, [], 0)]
  | 95 => [(some (.aload_n 0), 0, 0, [], 0), (some (.getfield 40), 7, 4, [], 0), (some (.getfield 229), 0, 1, [], 0), (some (.iload_n 1), 0, 0, [], 0), (some (.iaload), 0, 0, [], 0), (some (.ireturn), 0, 0, [], 0)]
  | 105 => [(some (.aload_n 0), 0, 0, [], 0), (some (.getfield 40), 7, 4, [], 0), (some (.iload_n 1), 0, 0, [], 0), (some (.aload_n 0), 0, 0, [], 0), (some (.getfield 19), 7, 1, [], 0), (some (.getfield 177), 4, 5, [], 0), (some (.aload_n 0), 0, 0, [], 0), (some (.getfield 40), 7, 4, [], 0), (some (.getfield 221), 0, 0, [], 0), (some (.iload_n 1), 0, 0, [], 0), (some (.iaload), 0, 0, [], 0), (some (.iaload), 0, 0, [], 0), (some (.aload_n 0), 0, 0, [], 0), (some (.getfield 66), 7, 8, [], 0), (some (.invokevirtual 232), 4, 4, [], 0), (some (.ireturn), 0, 0, [], 0)]
  | 135 => [(some (.iconst (-1)), 0, 0, [], (-1)), (some (.ireturn), 0, 0, [], 0)]
  | _ => []
theorem lb_57_0 : lab_57 0 = [(some (.aload_n 0), 0, 0, [], 0), (some (.getfield 40), 7, 4, [], 0), (some (.iload_n 1), 0, 0, [], 0), (some (.invokevirtual 220), 0, 2, [], 0), (some (.ifCond .ne 5), 13, 0, [], 0), (some (.iconst (-1)), 0, 0, [], (-1)), (some (.ireturn), 0, 0, [], 0)] := rfl
theorem lb_57_13 : lab_57 13 = [(some (.iload_n 2), 0, 0, [], 0), (some (.tableswitch 121 0 5 #[38, 48, 58, 68, 81, 91]), 135, 38, [52, 62, 72, 82, 95, 105], 0)] := rfl
theorem lb_57_52 : lab_57 52 = [(some (.aload_n 0), 0, 0, [], 0), (some (.getfield 40), 7, 4, [], 0), (some (.getfield 221), 0, 0, [], 0), (some (.iload_n 1), 0, 0, [], 0), (some (.iaload), 0, 0, [], 0), (some (.ireturn), 0, 0, [], 0)] := rfl
theorem lb_57_62 : lab_57 62 = [(some (.aload_n 0), 0, 0, [], 0), (some (.getfield 40), 7, 4, [], 0), (some (.getfield 222), 0, 2, [], 0), (some (.iload_n 1), 0, 0, [], 0), (some (.iaload), 0, 0, [], 0), (some (.ireturn), 0, 0, [], 0)] := rfl
theorem lb_57_72 : lab_57 72 = [(some (.aload_n 0), 0, 0, [], 0), (some (.getfield 40), 7, 4, [], 0), (some (.getfield 223), 0, 3, [], 0), (some (.iload_n 1), 0, 0, [], 0), (some (.iaload), 0, 0, [], 0), (some (.ireturn), 0, 0, [], 0)] := rfl
theorem lb_57_82 : lab_57 82 = [(some (.aload_n 0), 0, 0, [], 0), (some (.getfield 40), 7, 4, [], 0), (some (.getfield 226), 0, 5, [], 0), (some (.iload_n 1), 0, 0, [], 0), (some (.baload), 0, 0, [], 0), (some (.invokestatic 216), 66, 1, [], 0), (some (.ireturn), 0, 0, [], 0)] := rfl
theorem lb_57_95 : lab_57 95 = [(some (.aload_n 0), 0, 0, [], 0), (some (.getfield 40), 7, 4, [], 0), (some (.getfield 229), 0, 1, [], 0), (some (.iload_n 1), 0, 0, [], 0), (some (.iaload), 0, 0, [], 0), (some (.ireturn), 0, 0, [], 0)] := rfl
theorem lb_57_105 : lab_57 105 = [(some (.aload_n 0), 0, 0, [], 0), (some (.getfield 40), 7, 4, [], 0), (some (.iload_n 1), 0, 0, [], 0), (some (.aload_n 0), 0, 0, [], 0), (some (.getfield 19), 7, 1, [], 0), (some (.getfield 177), 4, 5, [], 0), (some (.aload_n 0), 0, 0, [], 0), (some (.getfield 40), 7, 4, [], 0), (some (.getfield 221), 0, 0, [], 0), (some (.iload_n 1), 0, 0, [], 0), (some (.iaload), 0, 0, [], 0), (some (.iaload), 0, 0, [], 0), (some (.aload_n 0), 0, 0, [], 0), (some (.getfield 66), 7, 8, [], 0), (some (.invokevirtual 232), 4, 4, [], 0), (some (.ireturn), 0, 0, [], 0)] := rfl
theorem lb_57_135 : lab_57 135 = [(some (.iconst (-1)), 0, 0, [], (-1)), (some (.ireturn), 0, 0, [], 0)] := rfl
set_option maxRecDepth 20000 in
theorem ok_57 : ∀ t, mm_okc (mm_m 57) t (lab_57 t) = true := by
  intro t
  unfold lab_57
  split <;> first | decide +kernel | rfl
/-! X7_of -/
def lab_58 : Nat → List mm_E := fun t => match t with
  | 0 => [(some (.aload_n 0), 0, 0, [], 0), (some (.getfield 40), 7, 4, [], 0), (some (.iload_n 1), 0, 0, [], 0), (some (.invokevirtual 220), 0, 2, [], 0), (some (.ifCond .eq 14), 22, 0, [], 0), (some (.aload_n 0), 0, 0, [], 0), (some (.getfield 10), 7, 0, [], 0), (some (.iload_n 2), 0, 0, [], 0), (some (.invokevirtual 79), 26, 2, [], 0), (some (.ifCond .ne 5), 24, 0, [], 0), (none, 22, 0, [], 0)]
  | 22 => [(some (.iconst (-1)), 0, 0, [], (-1)), (some (.ireturn), 0, 0, [], 0)]
  | 24 => [(some (.aload_n 0), 0, 0, [], 0), (some (.getfield 40), 7, 4, [], 0), (some (.getfield 235), 0, 6, [], 0), (some (.iload_n 1), 0, 0, [], 0), (some (.bipush 60), 0, 0, [], 60), (some (.imul), 0, 0, [], 0), (some (.iload_n 2), 0, 0, [], 0), (some (.iadd), 0, 0, [], 0), (some (.iaload), 0, 0, [], 0), (some (.ireturn), 0, 0, [], 0)]
  | _ => []
theorem lb_58_0 : lab_58 0 = [(some (.aload_n 0), 0, 0, [], 0), (some (.getfield 40), 7, 4, [], 0), (some (.iload_n 1), 0, 0, [], 0), (some (.invokevirtual 220), 0, 2, [], 0), (some (.ifCond .eq 14), 22, 0, [], 0), (some (.aload_n 0), 0, 0, [], 0), (some (.getfield 10), 7, 0, [], 0), (some (.iload_n 2), 0, 0, [], 0), (some (.invokevirtual 79), 26, 2, [], 0), (some (.ifCond .ne 5), 24, 0, [], 0), (none, 22, 0, [], 0)] := rfl
theorem lb_58_22 : lab_58 22 = [(some (.iconst (-1)), 0, 0, [], (-1)), (some (.ireturn), 0, 0, [], 0)] := rfl
theorem lb_58_24 : lab_58 24 = [(some (.aload_n 0), 0, 0, [], 0), (some (.getfield 40), 7, 4, [], 0), (some (.getfield 235), 0, 6, [], 0), (some (.iload_n 1), 0, 0, [], 0), (some (.bipush 60), 0, 0, [], 60), (some (.imul), 0, 0, [], 0), (some (.iload_n 2), 0, 0, [], 0), (some (.iadd), 0, 0, [], 0), (some (.iaload), 0, 0, [], 0), (some (.ireturn), 0, 0, [], 0)] := rfl
set_option maxRecDepth 20000 in
theorem ok_58 : ∀ t, mm_okc (mm_m 58) t (lab_58 t) = true := by
  intro t
  unfold lab_58
  split <;> first | decide +kernel | rfl
/-! X7_cooker -/
def lab_59 : Nat → List mm_E := fun t => match t with
  | 0 => [(some (.iload_n 1), 0, 0, [], 0), (some (.iconst 0), 0, 0, [], 0), (some (.iconst 2), 0, 0, [], 2), (some (.invokestatic 62), 65, 3, [], 0), (some (.ifCond .ne 5), 11, 0, [], 0), (some (.iconst (-1)), 0, 0, [], (-1)), (some (.ireturn), 0, 0, [], 0)]
  | 11 => [(some (.iload_n 2), 0, 0, [], 0), (some (.tableswitch 58 0 2 #[28, 38, 48]), 70, 28, [40, 50, 60], 0)]
  | 40 => [(some (.aload_n 0), 0, 0, [], 0), (some (.getfield 33), 7, 3, [], 0), (some (.getfield 236), 2, 0, [], 0), (some (.iload_n 1), 0, 0, [], 0), (some (.iaload), 0, 0, [], 0), (some (.ireturn), 0, 0, [], 0)]
  | 50 => [(some (.aload_n 0), 0, 0, [], 0), (some (.getfield 33), 7, 3, [], 0), (some (.getfield 237), 2, 1, [], 0), (some (.iload_n 1), 0, 0, [], 0), (some (.iaload), 0, 0, [], 0), (some (.ireturn), 0, 0, [], 0)]
  | 60 => [(some (.aload_n 0), 0, 0, [], 0), (some (.getfield 33), 7, 3, [], 0), (some (.getfield 238), 2, 2, [], 0), (some (.iload_n 1), 0, 0, [], 0), (some (.iaload), 0, 0, [], 0), (some (.ireturn), 0, 0, [], 0)]
  | 70 => [(some (.iconst (-1)), 0, 0, [], (-1)), (some (.ireturn), 0, 0, [], 0)]
  | _ => []
theorem lb_59_0 : lab_59 0 = [(some (.iload_n 1), 0, 0, [], 0), (some (.iconst 0), 0, 0, [], 0), (some (.iconst 2), 0, 0, [], 2), (some (.invokestatic 62), 65, 3, [], 0), (some (.ifCond .ne 5), 11, 0, [], 0), (some (.iconst (-1)), 0, 0, [], (-1)), (some (.ireturn), 0, 0, [], 0)] := rfl
theorem lb_59_11 : lab_59 11 = [(some (.iload_n 2), 0, 0, [], 0), (some (.tableswitch 58 0 2 #[28, 38, 48]), 70, 28, [40, 50, 60], 0)] := rfl
theorem lb_59_40 : lab_59 40 = [(some (.aload_n 0), 0, 0, [], 0), (some (.getfield 33), 7, 3, [], 0), (some (.getfield 236), 2, 0, [], 0), (some (.iload_n 1), 0, 0, [], 0), (some (.iaload), 0, 0, [], 0), (some (.ireturn), 0, 0, [], 0)] := rfl
theorem lb_59_50 : lab_59 50 = [(some (.aload_n 0), 0, 0, [], 0), (some (.getfield 33), 7, 3, [], 0), (some (.getfield 237), 2, 1, [], 0), (some (.iload_n 1), 0, 0, [], 0), (some (.iaload), 0, 0, [], 0), (some (.ireturn), 0, 0, [], 0)] := rfl
theorem lb_59_60 : lab_59 60 = [(some (.aload_n 0), 0, 0, [], 0), (some (.getfield 33), 7, 3, [], 0), (some (.getfield 238), 2, 2, [], 0), (some (.iload_n 1), 0, 0, [], 0), (some (.iaload), 0, 0, [], 0), (some (.ireturn), 0, 0, [], 0)] := rfl
theorem lb_59_70 : lab_59 70 = [(some (.iconst (-1)), 0, 0, [], (-1)), (some (.ireturn), 0, 0, [], 0)] := rfl
set_option maxRecDepth 20000 in
theorem ok_59 : ∀ t, mm_okc (mm_m 59) t (lab_59 t) = true := by
  intro t
  unfold lab_59
  split <;> first | decide +kernel | rfl
/-! X7_told -/
def lab_60 : Nat → List mm_E := fun t => match t with
  | 0 => [(some (.aload_n 0), 0, 0, [], 0), (some (.getfield 47), 7, 5, [], 0), (some (.iload_n 1), 0, 0, [], 0), (some (.invokevirtual 193), 7, 2, [], 0), (some (.ifCond .ne 5), 13, 0, [], 0), (some (.iconst (-1)), 0, 0, [], (-1)), (some (.ireturn), 0, 0, [], 0)]
  | 13 => [(some (.iload_n 2), 0, 0, [], 0), (some (.tableswitch 101 0 5 #[38, 48, 58, 68, 78, 88]), 115, 38, [52, 62, 72, 82, 92, 102], 0)]
  | 52 => [(some (.aload_n 0), 0, 0, [], 0), (some (.getfield 47), 7, 5, [], 0), (some (.getfield 239), 1, 0, [], 0), (some (.iload_n 1), 0, 0, [], 0), (some (.iaload), 0, 0, [], 0), (some (.ireturn), 0, 0, [], 0)]
  | 62 => [(some (.aload_n 0), 0, 0, [], 0), (some (.getfield 47), 7, 5, [], 0), (some (.getfield 197), 1, 1, [], 0), (some (.iload_n 1), 0, 0, [], 0), (some (.iaload), 0, 0, [], 0), (some (.ireturn), 0, 0, [], 0)]
  | 72 => [(some (.aload_n 0), 0, 0, [], 0), (some (.getfield 47), 7, 5, [], 0), (some (.getfield 242), 1, 2, [], 0), (some (.iload_n 1), 0, 0, [], 0), (some (.iaload), 0, 0, [], 0), (some (.ireturn), 0, 0, [], 0)]
  | 82 => [(some (.aload_n 0), 0, 0, [], 0), (some (.getfield 47), 7, 5, [], 0), (some (.getfield 245), 1, 3, [], 0), (some (.iload_n 1), 0, 0, [], 0), (some (.iaload), 0, 0, [], 0), (some (.ireturn), 0, 0, [], 0)]
  | 92 => [(some (.aload_n 0), 0, 0, [], 0), (some (.getfield 47), 7, 5, [], 0), (some (.getfield 248), 1, 4, [], 0), (some (.iload_n 1), 0, 0, [], 0), (some (.iaload), 0, 0, [], 0), (some (.ireturn), 0, 0, [], 0)]
  | 102 => [(some (.aload_n 0), 0, 0, [], 0), (some (.getfield 47), 7, 5, [], 0), (some (.getfield 194), 1, 5, [], 0), (some (.iload_n 1), 0, 0, [], 0), (some (.baload), 0, 0, [], 0), (some (.invokestatic 216), 66, 1, [], 0), (some (.ireturn), 0, 0, [], 0)]
  | 115 => [(some (.iconst (-1)), 0, 0, [], (-1)), (some (.ireturn), 0, 0, [], 0)]
  | _ => []
theorem lb_60_0 : lab_60 0 = [(some (.aload_n 0), 0, 0, [], 0), (some (.getfield 47), 7, 5, [], 0), (some (.iload_n 1), 0, 0, [], 0), (some (.invokevirtual 193), 7, 2, [], 0), (some (.ifCond .ne 5), 13, 0, [], 0), (some (.iconst (-1)), 0, 0, [], (-1)), (some (.ireturn), 0, 0, [], 0)] := rfl
theorem lb_60_13 : lab_60 13 = [(some (.iload_n 2), 0, 0, [], 0), (some (.tableswitch 101 0 5 #[38, 48, 58, 68, 78, 88]), 115, 38, [52, 62, 72, 82, 92, 102], 0)] := rfl
theorem lb_60_52 : lab_60 52 = [(some (.aload_n 0), 0, 0, [], 0), (some (.getfield 47), 7, 5, [], 0), (some (.getfield 239), 1, 0, [], 0), (some (.iload_n 1), 0, 0, [], 0), (some (.iaload), 0, 0, [], 0), (some (.ireturn), 0, 0, [], 0)] := rfl
theorem lb_60_62 : lab_60 62 = [(some (.aload_n 0), 0, 0, [], 0), (some (.getfield 47), 7, 5, [], 0), (some (.getfield 197), 1, 1, [], 0), (some (.iload_n 1), 0, 0, [], 0), (some (.iaload), 0, 0, [], 0), (some (.ireturn), 0, 0, [], 0)] := rfl
theorem lb_60_72 : lab_60 72 = [(some (.aload_n 0), 0, 0, [], 0), (some (.getfield 47), 7, 5, [], 0), (some (.getfield 242), 1, 2, [], 0), (some (.iload_n 1), 0, 0, [], 0), (some (.iaload), 0, 0, [], 0), (some (.ireturn), 0, 0, [], 0)] := rfl
theorem lb_60_82 : lab_60 82 = [(some (.aload_n 0), 0, 0, [], 0), (some (.getfield 47), 7, 5, [], 0), (some (.getfield 245), 1, 3, [], 0), (some (.iload_n 1), 0, 0, [], 0), (some (.iaload), 0, 0, [], 0), (some (.ireturn), 0, 0, [], 0)] := rfl
theorem lb_60_92 : lab_60 92 = [(some (.aload_n 0), 0, 0, [], 0), (some (.getfield 47), 7, 5, [], 0), (some (.getfield 248), 1, 4, [], 0), (some (.iload_n 1), 0, 0, [], 0), (some (.iaload), 0, 0, [], 0), (some (.ireturn), 0, 0, [], 0)] := rfl
theorem lb_60_102 : lab_60 102 = [(some (.aload_n 0), 0, 0, [], 0), (some (.getfield 47), 7, 5, [], 0), (some (.getfield 194), 1, 5, [], 0), (some (.iload_n 1), 0, 0, [], 0), (some (.baload), 0, 0, [], 0), (some (.invokestatic 216), 66, 1, [], 0), (some (.ireturn), 0, 0, [], 0)] := rfl
theorem lb_60_115 : lab_60 115 = [(some (.iconst (-1)), 0, 0, [], (-1)), (some (.ireturn), 0, 0, [], 0)] := rfl
set_option maxRecDepth 20000 in
theorem ok_60 : ∀ t, mm_okc (mm_m 60) t (lab_60 t) = true := by
  intro t
  unfold lab_60
  split <;> first | decide +kernel | rfl
/-! X7_count -/
def lab_61 : Nat → List mm_E := fun t => match t with
  | 0 => [(some (.iload_n 1), 0, 0, [], 0), (some (.tableswitch 167 0 13 #[71, 76, 84, 92, 100, 108, 113, 121, 133, 138, 143, 148, 153, 160]), 168, 71, [72, 77, 85, 93, 101, 109, 114, 122, 134, 139, 144, 149, 154, 161], 0)]
  | 72 => [(some (.aload_n 0), 0, 0, [], 0), (some (.getfield 66), 7, 8, [], 0), (some (.ireturn), 0, 0, [], 0)]
  | 77 => [(some (.aload_n 0), 0, 0, [], 0), (some (.getfield 10), 7, 0, [], 0), (some (.getfield 251), 5, 6, [], 0), (some (.ireturn), 0, 0, [], 0)]
  | 85 => [(some (.aload_n 0), 0, 0, [], 0), (some (.getfield 10), 7, 0, [], 0), (some (.invokevirtual 252), 30, 1, [], 0), (some (.ireturn), 0, 0, [], 0)]
  | 93 => [(some (.aload_n 0), 0, 0, [], 0), (some (.getfield 33), 7, 3, [], 0), (some (.invokevirtual 254), 14, 1, [], 0), (some (.ireturn), 0, 0, [], 0)]
  | 101 => [(some (.aload_n 0), 0, 0, [], 0), (some (.getfield 40), 7, 4, [], 0), (some (.getfield 257), 0, 8, [], 0), (some (.ireturn), 0, 0, [], 0)]
  | 109 => [(some (.aload_n 0), 0, 0, [], 0), (some (.getfield 153), 7, 11, [], 0), (some (.ireturn), 0, 0, [], 0)]
  | 114 => [(some (.aload_n 0), 0, 0, [], 0), (some (.getfield 40), 7, 4, [], 0), (some (.getfield 119), 0, 7, [], 0), (some (.ireturn), 0, 0, [], 0)]
  | 122 => [(some (.aload_n 0), 0, 0, [], 0), (some (.getfield 26), 7, 2, [], 0), (some (.aload_n 0), 0, 0, [], 0), (some (.getfield 66), 7, 8, [], 0), (some (.invokevirtual 259), 18, 2, [], 0), (some (.ireturn), 0, 0, [], 0)]
  | 134 => [(some (.aload_n 0), 0, 0, [], 0), (some (.getfield 132), 7, 10, [], 0), (some (.ireturn), 0, 0, [], 0)]
  | 139 => [(some (.aload_n 0), 0, 0, [], 0), (some (.getfield 187), 7, 12, [], 0), (some (.ireturn), 0, 0, [], 0)]
  | 144 => [(some (.aload_n 0), 0, 0, [], 0), (some (.getfield 262), 7, 13, [], 0), (some (.ireturn), 0, 0, [], 0)]
  | 149 => [(some (.aload_n 0), 0, 0, [], 0), (some (.getfield 75), 7, 9, [], 0), (some (.ireturn), 0, 0, [], 0)]
  | 154 => [(some (.aload_n 0), 0, 0, [], 0), (some (.getfield 58), 7, 7, [], 0), (some (.iconst 0), 0, 0, [], 0), (some (.iaload), 0, 0, [], 0), (some (.ireturn), 0, 0, [], 0)]
  | 161 => [(some (.aload_n 0), 0, 0, [], 0), (some (.getfield 58), 7, 7, [], 0), (some (.iconst 1), 0, 0, [], 1), (some (.iaload), 0, 0, [], 0), (some (.ireturn), 0, 0, [], 0)]
  | 168 => [(some (.iconst (-1)), 0, 0, [], (-1)), (some (.ireturn), 0, 0, [], 0)]
  | _ => []
theorem lb_61_0 : lab_61 0 = [(some (.iload_n 1), 0, 0, [], 0), (some (.tableswitch 167 0 13 #[71, 76, 84, 92, 100, 108, 113, 121, 133, 138, 143, 148, 153, 160]), 168, 71, [72, 77, 85, 93, 101, 109, 114, 122, 134, 139, 144, 149, 154, 161], 0)] := rfl
theorem lb_61_72 : lab_61 72 = [(some (.aload_n 0), 0, 0, [], 0), (some (.getfield 66), 7, 8, [], 0), (some (.ireturn), 0, 0, [], 0)] := rfl
theorem lb_61_77 : lab_61 77 = [(some (.aload_n 0), 0, 0, [], 0), (some (.getfield 10), 7, 0, [], 0), (some (.getfield 251), 5, 6, [], 0), (some (.ireturn), 0, 0, [], 0)] := rfl
theorem lb_61_85 : lab_61 85 = [(some (.aload_n 0), 0, 0, [], 0), (some (.getfield 10), 7, 0, [], 0), (some (.invokevirtual 252), 30, 1, [], 0), (some (.ireturn), 0, 0, [], 0)] := rfl
theorem lb_61_93 : lab_61 93 = [(some (.aload_n 0), 0, 0, [], 0), (some (.getfield 33), 7, 3, [], 0), (some (.invokevirtual 254), 14, 1, [], 0), (some (.ireturn), 0, 0, [], 0)] := rfl
theorem lb_61_101 : lab_61 101 = [(some (.aload_n 0), 0, 0, [], 0), (some (.getfield 40), 7, 4, [], 0), (some (.getfield 257), 0, 8, [], 0), (some (.ireturn), 0, 0, [], 0)] := rfl
theorem lb_61_109 : lab_61 109 = [(some (.aload_n 0), 0, 0, [], 0), (some (.getfield 153), 7, 11, [], 0), (some (.ireturn), 0, 0, [], 0)] := rfl
theorem lb_61_114 : lab_61 114 = [(some (.aload_n 0), 0, 0, [], 0), (some (.getfield 40), 7, 4, [], 0), (some (.getfield 119), 0, 7, [], 0), (some (.ireturn), 0, 0, [], 0)] := rfl
theorem lb_61_122 : lab_61 122 = [(some (.aload_n 0), 0, 0, [], 0), (some (.getfield 26), 7, 2, [], 0), (some (.aload_n 0), 0, 0, [], 0), (some (.getfield 66), 7, 8, [], 0), (some (.invokevirtual 259), 18, 2, [], 0), (some (.ireturn), 0, 0, [], 0)] := rfl
theorem lb_61_134 : lab_61 134 = [(some (.aload_n 0), 0, 0, [], 0), (some (.getfield 132), 7, 10, [], 0), (some (.ireturn), 0, 0, [], 0)] := rfl
theorem lb_61_139 : lab_61 139 = [(some (.aload_n 0), 0, 0, [], 0), (some (.getfield 187), 7, 12, [], 0), (some (.ireturn), 0, 0, [], 0)] := rfl
theorem lb_61_144 : lab_61 144 = [(some (.aload_n 0), 0, 0, [], 0), (some (.getfield 262), 7, 13, [], 0), (some (.ireturn), 0, 0, [], 0)] := rfl
theorem lb_61_149 : lab_61 149 = [(some (.aload_n 0), 0, 0, [], 0), (some (.getfield 75), 7, 9, [], 0), (some (.ireturn), 0, 0, [], 0)] := rfl
theorem lb_61_154 : lab_61 154 = [(some (.aload_n 0), 0, 0, [], 0), (some (.getfield 58), 7, 7, [], 0), (some (.iconst 0), 0, 0, [], 0), (some (.iaload), 0, 0, [], 0), (some (.ireturn), 0, 0, [], 0)] := rfl
theorem lb_61_161 : lab_61 161 = [(some (.aload_n 0), 0, 0, [], 0), (some (.getfield 58), 7, 7, [], 0), (some (.iconst 1), 0, 0, [], 1), (some (.iaload), 0, 0, [], 0), (some (.ireturn), 0, 0, [], 0)] := rfl
theorem lb_61_168 : lab_61 168 = [(some (.iconst (-1)), 0, 0, [], (-1)), (some (.ireturn), 0, 0, [], 0)] := rfl
set_option maxRecDepth 20000 in
theorem ok_61 : ∀ t, mm_okc (mm_m 61) t (lab_61 t) = true := by
  intro t
  unfold lab_61
  split <;> first | decide +kernel | rfl
/-! X7_canPack -/
def lab_62 : Nat → List mm_E := fun t => match t with
  | 0 => [(some (.aload_n 0), 0, 0, [], 0), (some (.getfield 58), 7, 7, [], 0), (some (.aload_n 0), 0, 0, [], 0), (some (.getfield 19), 7, 1, [], 0), (some (.getfield 129), 4, 2, [], 0), (some (.iload_n 1), 0, 0, [], 0), (some (.iaload), 0, 0, [], 0), (some (.iaload), 0, 0, [], 0), (some (.iload_n 2), 0, 0, [], 0), (some (.if_icmp .lt 50), 65, 0, [], 0), (some (.aload_n 0), 0, 0, [], 0), (some (.getfield 10), 7, 0, [], 0), (some (.aload_n 0), 0, 0, [], 0), (some (.getfield 19), 7, 1, [], 0), (some (.getfield 142), 4, 1, [], 0), (some (.iload_n 1), 0, 0, [], 0), (some (.iaload), 0, 0, [], 0), (some (.invokevirtual 265), 32, 2, [], 0), (some (.iload_n 3), 0, 0, [], 0), (some (.if_icmp .lt 30), 65, 0, [], 0), (some (.aload_n 0), 0, 0, [], 0), (some (.getfield 26), 7, 2, [], 0), (some (.aload_n 0), 0, 0, [], 0), (some (.getfield 66), 7, 8, [], 0), (some (.invokevirtual 259), 18, 2, [], 0), (some (.bipush 100), 0, 0, [], 100), (some (.imul), 0, 0, [], 0), (some (.aload_n 0), 0, 0, [], 0), (some (.getfield 132), 7, 10, [], 0), (some (.isub), 0, 0, [], 0), (some (.iload_n 3), 0, 0, [], 0), (some (.if_icmp .lt 7), 65, 0, [], 0), (some (.iconst 1), 0, 0, [], 1), (some (.goto 4), 66, 0, [], 0)]
  | 65 => [(some (.iconst 0), 0, 0, [], 0), (none, 66, 0, [], 0)]
  | 66 => [(some (.ireturn), 0, 0, [], 0)]
  | _ => []
theorem lb_62_0 : lab_62 0 = [(some (.aload_n 0), 0, 0, [], 0), (some (.getfield 58), 7, 7, [], 0), (some (.aload_n 0), 0, 0, [], 0), (some (.getfield 19), 7, 1, [], 0), (some (.getfield 129), 4, 2, [], 0), (some (.iload_n 1), 0, 0, [], 0), (some (.iaload), 0, 0, [], 0), (some (.iaload), 0, 0, [], 0), (some (.iload_n 2), 0, 0, [], 0), (some (.if_icmp .lt 50), 65, 0, [], 0), (some (.aload_n 0), 0, 0, [], 0), (some (.getfield 10), 7, 0, [], 0), (some (.aload_n 0), 0, 0, [], 0), (some (.getfield 19), 7, 1, [], 0), (some (.getfield 142), 4, 1, [], 0), (some (.iload_n 1), 0, 0, [], 0), (some (.iaload), 0, 0, [], 0), (some (.invokevirtual 265), 32, 2, [], 0), (some (.iload_n 3), 0, 0, [], 0), (some (.if_icmp .lt 30), 65, 0, [], 0), (some (.aload_n 0), 0, 0, [], 0), (some (.getfield 26), 7, 2, [], 0), (some (.aload_n 0), 0, 0, [], 0), (some (.getfield 66), 7, 8, [], 0), (some (.invokevirtual 259), 18, 2, [], 0), (some (.bipush 100), 0, 0, [], 100), (some (.imul), 0, 0, [], 0), (some (.aload_n 0), 0, 0, [], 0), (some (.getfield 132), 7, 10, [], 0), (some (.isub), 0, 0, [], 0), (some (.iload_n 3), 0, 0, [], 0), (some (.if_icmp .lt 7), 65, 0, [], 0), (some (.iconst 1), 0, 0, [], 1), (some (.goto 4), 66, 0, [], 0)] := rfl
theorem lb_62_65 : lab_62 65 = [(some (.iconst 0), 0, 0, [], 0), (none, 66, 0, [], 0)] := rfl
theorem lb_62_66 : lab_62 66 = [(some (.ireturn), 0, 0, [], 0)] := rfl
set_option maxRecDepth 20000 in
theorem ok_62 : ∀ t, mm_okc (mm_m 62) t (lab_62 t) = true := by
  intro t
  unfold lab_62
  split <;> first | decide +kernel | rfl
/-! X7_passHour -/
def lab_63 : Nat → List mm_E := fun t => match t with
  | 0 => [(some (.aload_n 0), 0, 0, [], 0), (some (.dup), 0, 0, [], 0), (some (.getfield 66), 7, 8, [], 0), (some (.iconst 1), 0, 0, [], 1), (some (.iadd), 0, 0, [], 0), (some (.putfield 66), 7, 8, [], 0), (some (.aload_n 0), 0, 0, [], 0), (some (.iconst 0), 0, 0, [], 0), (some (.putfield 132), 7, 10, [], 0), (some (.aload_n 0), 0, 0, [], 0), (some (.invokevirtual 268), 64, 1, [], 0), (some (.aload_n 0), 0, 0, [], 0), (some (.dup), 0, 0, [], 0), (some (.getfield 153), 7, 11, [], 0), (some (.aload_n 0), 0, 0, [], 0), (some (.getfield 10), 7, 0, [], 0), (some (.aload_n 0), 0, 0, [], 0), (some (.getfield 66), 7, 8, [], 0), (some (.invokevirtual 271), 35, 2, [], 0), (some (.iadd), 0, 0, [], 0), (some (.putfield 153), 7, 11, [], 0), (some (.aload_n 0), 0, 0, [], 0), (some (.getfield 66), 7, 8, [], 0), (some (.sipush 168), 0, 0, [], 168), (some (.irem), 0, 0, [], 0), (some (.ifCond .ne 36), 83, 0, [], 0), (some (.aload_n 0), 0, 0, [], 0), (some (.dup), 0, 0, [], 0), (some (.getfield 262), 7, 13, [], 0), (some (.aload_n 0), 0, 0, [], 0), (some (.getfield 47), 7, 5, [], 0), (some (.aload_n 0), 0, 0, [], 0), (some (.getfield 66), 7, 8, [], 0), (some (.sipush 168), 0, 0, [], 168), (some (.idiv), 0, 0, [], 0), (some (.iconst 1), 0, 0, [], 1), (some (.isub), 0, 0, [], 0), (some (.aload_n 0), 0, 0, [], 0), (some (.getfield 19), 7, 1, [], 0), (some (.getfield 177), 4, 5, [], 0), (some (.invokevirtual 274), 11, 3, [], 0), (some (.iadd), 0, 0, [], 0), (some (.putfield 262), 7, 13, [], 0), (none, 83, 0, [], 0)]
  | 83 => [(some (.return_), 0, 0, [], 0)]
  | _ => []
theorem lb_63_0 : lab_63 0 = [(some (.aload_n 0), 0, 0, [], 0), (some (.dup), 0, 0, [], 0), (some (.getfield 66), 7, 8, [], 0), (some (.iconst 1), 0, 0, [], 1), (some (.iadd), 0, 0, [], 0), (some (.putfield 66), 7, 8, [], 0), (some (.aload_n 0), 0, 0, [], 0), (some (.iconst 0), 0, 0, [], 0), (some (.putfield 132), 7, 10, [], 0), (some (.aload_n 0), 0, 0, [], 0), (some (.invokevirtual 268), 64, 1, [], 0), (some (.aload_n 0), 0, 0, [], 0), (some (.dup), 0, 0, [], 0), (some (.getfield 153), 7, 11, [], 0), (some (.aload_n 0), 0, 0, [], 0), (some (.getfield 10), 7, 0, [], 0), (some (.aload_n 0), 0, 0, [], 0), (some (.getfield 66), 7, 8, [], 0), (some (.invokevirtual 271), 35, 2, [], 0), (some (.iadd), 0, 0, [], 0), (some (.putfield 153), 7, 11, [], 0), (some (.aload_n 0), 0, 0, [], 0), (some (.getfield 66), 7, 8, [], 0), (some (.sipush 168), 0, 0, [], 168), (some (.irem), 0, 0, [], 0), (some (.ifCond .ne 36), 83, 0, [], 0), (some (.aload_n 0), 0, 0, [], 0), (some (.dup), 0, 0, [], 0), (some (.getfield 262), 7, 13, [], 0), (some (.aload_n 0), 0, 0, [], 0), (some (.getfield 47), 7, 5, [], 0), (some (.aload_n 0), 0, 0, [], 0), (some (.getfield 66), 7, 8, [], 0), (some (.sipush 168), 0, 0, [], 168), (some (.idiv), 0, 0, [], 0), (some (.iconst 1), 0, 0, [], 1), (some (.isub), 0, 0, [], 0), (some (.aload_n 0), 0, 0, [], 0), (some (.getfield 19), 7, 1, [], 0), (some (.getfield 177), 4, 5, [], 0), (some (.invokevirtual 274), 11, 3, [], 0), (some (.iadd), 0, 0, [], 0), (some (.putfield 262), 7, 13, [], 0), (none, 83, 0, [], 0)] := rfl
theorem lb_63_83 : lab_63 83 = [(some (.return_), 0, 0, [], 0)] := rfl
set_option maxRecDepth 20000 in
theorem ok_63 : ∀ t, mm_okc (mm_m 63) t (lab_63 t) = true := by
  intro t
  unfold lab_63
  split <;> first | decide +kernel | rfl
/-! X7_finishCharges -/
def lab_64 : Nat → List mm_E := fun t => match t with
  | 0 => [(some (.iconst 0), 0, 0, [], 0), (some (.istore_n 1), 0, 0, [], 0), (none, 2, 0, [], 0)]
  | 2 => [(some (.iload_n 1), 0, 0, [], 0), (some (.iconst 3), 0, 0, [], 3), (some (.if_icmp .ge 89), 93, 0, [], 0), (some (.aload_n 0), 0, 0, [], 0), (some (.getfield 33), 7, 3, [], 0), (some (.iload_n 1), 0, 0, [], 0), (some (.invokevirtual 112), 12, 2, [], 0), (some (.ifCond .ne 72), 87, 0, [], 0), (some (.aload_n 0), 0, 0, [], 0), (some (.getfield 33), 7, 3, [], 0), (some (.getfield 238), 2, 2, [], 0), (some (.iload_n 1), 0, 0, [], 0), (some (.iaload), 0, 0, [], 0), (some (.aload_n 0), 0, 0, [], 0), (some (.getfield 66), 7, 8, [], 0), (some (.if_icmp .gt 56), 87, 0, [], 0), (some (.aload_n 0), 0, 0, [], 0), (some (.getfield 40), 7, 4, [], 0), (some (.aload_n 0), 0, 0, [], 0), (some (.getfield 33), 7, 3, [], 0), (some (.iload_n 1), 0, 0, [], 0), (some (.invokevirtual 278), 1, 3, [], 0), (some (.istore_n 2), 0, 0, [], 0), (some (.iload_n 2), 0, 0, [], 0), (some (.iconst (-1)), 0, 0, [], (-1)), (some (.if_icmp .eq 30), 79, 0, [], 0), (some (.aload_n 0), 0, 0, [], 0), (some (.getfield 40), 7, 4, [], 0), (some (.getfield 226), 0, 5, [], 0), (some (.iload_n 2), 0, 0, [], 0), (some (.aload_n 0), 0, 0, [], 0), (some (.getfield 10), 7, 0, [], 0), (some (.aload_n 0), 0, 0, [], 0), (some (.getfield 40), 7, 4, [], 0), (some (.getfield 235), 0, 6, [], 0), (some (.iload_n 2), 0, 0, [], 0), (some (.bipush 60), 0, 0, [], 60), (some (.imul), 0, 0, [], 0), (some (.invokevirtual 281), 34, 3, [], 0), (some (.bastore), 0, 0, [], 0), (none, 79, 0, [], 0)]
  | 79 => [(some (.aload_n 0), 0, 0, [], 0), (some (.getfield 33), 7, 3, [], 0), (some (.iload_n 1), 0, 0, [], 0), (some (.invokevirtual 156), 16, 2, [], 0), (none, 87, 0, [], 0)]
  | 87 => [(some (.iinc 1 1), 0, 0, [], 1), (some (.goto (-88)), 2, 0, [], 0)]
  | 93 => [(some (.return_), 0, 0, [], 0)]
  | _ => []
theorem lb_64_0 : lab_64 0 = [(some (.iconst 0), 0, 0, [], 0), (some (.istore_n 1), 0, 0, [], 0), (none, 2, 0, [], 0)] := rfl
theorem lb_64_2 : lab_64 2 = [(some (.iload_n 1), 0, 0, [], 0), (some (.iconst 3), 0, 0, [], 3), (some (.if_icmp .ge 89), 93, 0, [], 0), (some (.aload_n 0), 0, 0, [], 0), (some (.getfield 33), 7, 3, [], 0), (some (.iload_n 1), 0, 0, [], 0), (some (.invokevirtual 112), 12, 2, [], 0), (some (.ifCond .ne 72), 87, 0, [], 0), (some (.aload_n 0), 0, 0, [], 0), (some (.getfield 33), 7, 3, [], 0), (some (.getfield 238), 2, 2, [], 0), (some (.iload_n 1), 0, 0, [], 0), (some (.iaload), 0, 0, [], 0), (some (.aload_n 0), 0, 0, [], 0), (some (.getfield 66), 7, 8, [], 0), (some (.if_icmp .gt 56), 87, 0, [], 0), (some (.aload_n 0), 0, 0, [], 0), (some (.getfield 40), 7, 4, [], 0), (some (.aload_n 0), 0, 0, [], 0), (some (.getfield 33), 7, 3, [], 0), (some (.iload_n 1), 0, 0, [], 0), (some (.invokevirtual 278), 1, 3, [], 0), (some (.istore_n 2), 0, 0, [], 0), (some (.iload_n 2), 0, 0, [], 0), (some (.iconst (-1)), 0, 0, [], (-1)), (some (.if_icmp .eq 30), 79, 0, [], 0), (some (.aload_n 0), 0, 0, [], 0), (some (.getfield 40), 7, 4, [], 0), (some (.getfield 226), 0, 5, [], 0), (some (.iload_n 2), 0, 0, [], 0), (some (.aload_n 0), 0, 0, [], 0), (some (.getfield 10), 7, 0, [], 0), (some (.aload_n 0), 0, 0, [], 0), (some (.getfield 40), 7, 4, [], 0), (some (.getfield 235), 0, 6, [], 0), (some (.iload_n 2), 0, 0, [], 0), (some (.bipush 60), 0, 0, [], 60), (some (.imul), 0, 0, [], 0), (some (.invokevirtual 281), 34, 3, [], 0), (some (.bastore), 0, 0, [], 0), (none, 79, 0, [], 0)] := rfl
theorem lb_64_79 : lab_64 79 = [(some (.aload_n 0), 0, 0, [], 0), (some (.getfield 33), 7, 3, [], 0), (some (.iload_n 1), 0, 0, [], 0), (some (.invokevirtual 156), 16, 2, [], 0), (none, 87, 0, [], 0)] := rfl
theorem lb_64_87 : lab_64 87 = [(some (.iinc 1 1), 0, 0, [], 1), (some (.goto (-88)), 2, 0, [], 0)] := rfl
theorem lb_64_93 : lab_64 93 = [(some (.return_), 0, 0, [], 0)] := rfl
set_option maxRecDepth 20000 in
theorem ok_64 : ∀ t, mm_okc (mm_m 64) t (lab_64 t) = true := by
  intro t
  unfold lab_64
  split <;> first | decide +kernel | rfl
/-! X7_within -/
def lab_65 : Nat → List mm_E := fun t => match t with
  | 0 => [(some (.iload_n 0), 0, 0, [], 0), (some (.iload_n 1), 0, 0, [], 0), (some (.if_icmp .lt 12), 14, 0, [], 0), (some (.iload_n 0), 0, 0, [], 0), (some (.iload_n 2), 0, 0, [], 0), (some (.if_icmp .gt 7), 14, 0, [], 0), (some (.iconst 1), 0, 0, [], 1), (some (.goto 4), 15, 0, [], 0)]
  | 14 => [(some (.iconst 0), 0, 0, [], 0), (none, 15, 0, [], 0)]
  | 15 => [(some (.ireturn), 0, 0, [], 0)]
  | _ => []
theorem lb_65_0 : lab_65 0 = [(some (.iload_n 0), 0, 0, [], 0), (some (.iload_n 1), 0, 0, [], 0), (some (.if_icmp .lt 12), 14, 0, [], 0), (some (.iload_n 0), 0, 0, [], 0), (some (.iload_n 2), 0, 0, [], 0), (some (.if_icmp .gt 7), 14, 0, [], 0), (some (.iconst 1), 0, 0, [], 1), (some (.goto 4), 15, 0, [], 0)] := rfl
theorem lb_65_14 : lab_65 14 = [(some (.iconst 0), 0, 0, [], 0), (none, 15, 0, [], 0)] := rfl
theorem lb_65_15 : lab_65 15 = [(some (.ireturn), 0, 0, [], 0)] := rfl
set_option maxRecDepth 20000 in
theorem ok_65 : ∀ t, mm_okc (mm_m 65) t (lab_65 t) = true := by
  intro t
  unfold lab_65
  split <;> first | decide +kernel | rfl
/-! X7_bit -/
def lab_66 : Nat → List mm_E := fun t => match t with
  | 0 => [(some (.iload_n 0), 0, 0, [], 0), (some (.ifCond .eq 7), 8, 0, [], 0), (some (.iconst 1), 0, 0, [], 1), (some (.goto 4), 9, 0, [], 0)]
  | 8 => [(some (.iconst 0), 0, 0, [], 0), (none, 9, 0, [], 0)]
  | 9 => [(some (.ireturn), 0, 0, [], 0)]
  | _ => []
theorem lb_66_0 : lab_66 0 = [(some (.iload_n 0), 0, 0, [], 0), (some (.ifCond .eq 7), 8, 0, [], 0), (some (.iconst 1), 0, 0, [], 1), (some (.goto 4), 9, 0, [], 0)] := rfl
theorem lb_66_8 : lab_66 8 = [(some (.iconst 0), 0, 0, [], 0), (none, 9, 0, [], 0)] := rfl
theorem lb_66_9 : lab_66 9 = [(some (.ireturn), 0, 0, [], 0)] := rfl
set_option maxRecDepth 20000 in
theorem ok_66 : ∀ t, mm_okc (mm_m 66) t (lab_66 t) = true := by
  intro t
  unfold lab_66
  split <;> first | decide +kernel | rfl
/-! X7_putInOrder -/
def lab_67 : Nat → List mm_E := fun t => match t with
  | 0 => [(some (.iload_n 2), 0, 0, [], 0), (some (.istore_n 3), 0, 0, [], 0), (none, 2, 0, [], 0)]
  | 2 => [(some (.iload_n 3), 0, 0, [], 0), (some (.ifCond .le 30), 33, 0, [], 0), (some (.aload_n 1), 0, 0, [], 0), (some (.aload_n 0), 0, 0, [], 0), (some (.iload_n 3), 0, 0, [], 0), (some (.iconst 1), 0, 0, [], 1), (some (.isub), 0, 0, [], 0), (some (.iaload), 0, 0, [], 0), (some (.iaload), 0, 0, [], 0), (some (.aload_n 1), 0, 0, [], 0), (some (.iload_n 2), 0, 0, [], 0), (some (.iaload), 0, 0, [], 0), (some (.if_icmp .le 17), 33, 0, [], 0), (some (.aload_n 0), 0, 0, [], 0), (some (.iload_n 3), 0, 0, [], 0), (some (.aload_n 0), 0, 0, [], 0), (some (.iload_n 3), 0, 0, [], 0), (some (.iconst 1), 0, 0, [], 1), (some (.isub), 0, 0, [], 0), (some (.iaload), 0, 0, [], 0), (some (.iastore), 0, 0, [], 0), (some (.iinc 3 (-1)), 0, 0, [], (-1)), (some (.goto (-28)), 2, 0, [], 0)]
  | 33 => [(some (.aload_n 0), 0, 0, [], 0), (some (.iload_n 3), 0, 0, [], 0), (some (.iload_n 2), 0, 0, [], 0), (some (.iastore), 0, 0, [], 0), (some (.return_), 0, 0, [], 0)]
  | _ => []
theorem lb_67_0 : lab_67 0 = [(some (.iload_n 2), 0, 0, [], 0), (some (.istore_n 3), 0, 0, [], 0), (none, 2, 0, [], 0)] := rfl
theorem lb_67_2 : lab_67 2 = [(some (.iload_n 3), 0, 0, [], 0), (some (.ifCond .le 30), 33, 0, [], 0), (some (.aload_n 1), 0, 0, [], 0), (some (.aload_n 0), 0, 0, [], 0), (some (.iload_n 3), 0, 0, [], 0), (some (.iconst 1), 0, 0, [], 1), (some (.isub), 0, 0, [], 0), (some (.iaload), 0, 0, [], 0), (some (.iaload), 0, 0, [], 0), (some (.aload_n 1), 0, 0, [], 0), (some (.iload_n 2), 0, 0, [], 0), (some (.iaload), 0, 0, [], 0), (some (.if_icmp .le 17), 33, 0, [], 0), (some (.aload_n 0), 0, 0, [], 0), (some (.iload_n 3), 0, 0, [], 0), (some (.aload_n 0), 0, 0, [], 0), (some (.iload_n 3), 0, 0, [], 0), (some (.iconst 1), 0, 0, [], 1), (some (.isub), 0, 0, [], 0), (some (.iaload), 0, 0, [], 0), (some (.iastore), 0, 0, [], 0), (some (.iinc 3 (-1)), 0, 0, [], (-1)), (some (.goto (-28)), 2, 0, [], 0)] := rfl
theorem lb_67_33 : lab_67 33 = [(some (.aload_n 0), 0, 0, [], 0), (some (.iload_n 3), 0, 0, [], 0), (some (.iload_n 2), 0, 0, [], 0), (some (.iastore), 0, 0, [], 0), (some (.return_), 0, 0, [], 0)] := rfl
set_option maxRecDepth 20000 in
theorem ok_67 : ∀ t, mm_okc (mm_m 67) t (lab_67 t) = true := by
  intro t
  unfold lab_67
  split <;> first | decide +kernel | rfl
/-! X8_in -/
def lab_68 : Nat → List mm_E := fun t => match t with
  | 0 => [(some (.iload_n 0), 0, 0, [], 0), (some (.iload_n 1), 0, 0, [], 0), (some (.if_icmp .lt 12), 14, 0, [], 0), (some (.iload_n 0), 0, 0, [], 0), (some (.iload_n 2), 0, 0, [], 0), (some (.if_icmp .gt 7), 14, 0, [], 0), (some (.iconst 1), 0, 0, [], 1), (some (.goto 4), 15, 0, [], 0)]
  | 14 => [(some (.iconst 0), 0, 0, [], 0), (none, 15, 0, [], 0)]
  | 15 => [(some (.ireturn), 0, 0, [], 0)]
  | _ => []
theorem lb_68_0 : lab_68 0 = [(some (.iload_n 0), 0, 0, [], 0), (some (.iload_n 1), 0, 0, [], 0), (some (.if_icmp .lt 12), 14, 0, [], 0), (some (.iload_n 0), 0, 0, [], 0), (some (.iload_n 2), 0, 0, [], 0), (some (.if_icmp .gt 7), 14, 0, [], 0), (some (.iconst 1), 0, 0, [], 1), (some (.goto 4), 15, 0, [], 0)] := rfl
theorem lb_68_14 : lab_68 14 = [(some (.iconst 0), 0, 0, [], 0), (none, 15, 0, [], 0)] := rfl
theorem lb_68_15 : lab_68 15 = [(some (.ireturn), 0, 0, [], 0)] := rfl
set_option maxRecDepth 20000 in
theorem ok_68 : ∀ t, mm_okc (mm_m 68) t (lab_68 t) = true := by
  intro t
  unfold lab_68
  split <;> first | decide +kernel | rfl
/-! X8_isLot -/
def lab_69 : Nat → List mm_E := fun t => match t with
  | 0 => [(some (.iload_n 1), 0, 0, [], 0), (some (.iconst 0), 0, 0, [], 0), (some (.aload_n 0), 0, 0, [], 0), (some (.getfield 98), 8, 1, [], 0), (some (.iconst 1), 0, 0, [], 1), (some (.isub), 0, 0, [], 0), (some (.invokestatic 102), 68, 3, [], 0), (some (.ireturn), 0, 0, [], 0)]
  | _ => []
theorem lb_69_0 : lab_69 0 = [(some (.iload_n 1), 0, 0, [], 0), (some (.iconst 0), 0, 0, [], 0), (some (.aload_n 0), 0, 0, [], 0), (some (.getfield 98), 8, 1, [], 0), (some (.iconst 1), 0, 0, [], 1), (some (.isub), 0, 0, [], 0), (some (.invokestatic 102), 68, 3, [], 0), (some (.ireturn), 0, 0, [], 0)] := rfl
set_option maxRecDepth 20000 in
theorem ok_69 : ∀ t, mm_okc (mm_m 69) t (lab_69 t) = true := by
  intro t
  unfold lab_69
  split <;> first | decide +kernel | rfl
/-! X8_freshTill -/
def lab_70 : Nat → List mm_E := fun t => match t with
  | 0 => [(some (.aload_n 0), 0, 0, [], 0), (some (.getfield 16), 8, 4, [], 0), (some (.iload_n 1), 0, 0, [], 0), (some (.iaload), 0, 0, [], 0), (some (.aload_n 0), 0, 0, [], 0), (some (.getfield 19), 8, 5, [], 0), (some (.iload_n 1), 0, 0, [], 0), (some (.baload), 0, 0, [], 0), (some (.ifCond .eq 8), 20, 0, [], 0), (some (.bipush 40), 0, 0, [], 40), (some (.goto 5), 22, 0, [], 0)]
  | 20 => [(some (.bipush 20), 0, 0, [], 20), (none, 22, 0, [], 0)]
  | 22 => [(some (.iadd), 0, 0, [], 0), (some (.ireturn), 0, 0, [], 0)]
  | _ => []
theorem lb_70_0 : lab_70 0 = [(some (.aload_n 0), 0, 0, [], 0), (some (.getfield 16), 8, 4, [], 0), (some (.iload_n 1), 0, 0, [], 0), (some (.iaload), 0, 0, [], 0), (some (.aload_n 0), 0, 0, [], 0), (some (.getfield 19), 8, 5, [], 0), (some (.iload_n 1), 0, 0, [], 0), (some (.baload), 0, 0, [], 0), (some (.ifCond .eq 8), 20, 0, [], 0), (some (.bipush 40), 0, 0, [], 40), (some (.goto 5), 22, 0, [], 0)] := rfl
theorem lb_70_20 : lab_70 20 = [(some (.bipush 20), 0, 0, [], 20), (none, 22, 0, [], 0)] := rfl
theorem lb_70_22 : lab_70 22 = [(some (.iadd), 0, 0, [], 0), (some (.ireturn), 0, 0, [], 0)] := rfl
set_option maxRecDepth 20000 in
theorem ok_70 : ∀ t, mm_okc (mm_m 70) t (lab_70 t) = true := by
  intro t
  unfold lab_70
  split <;> first | decide +kernel | rfl
/-! X8_isFresh -/
def lab_71 : Nat → List mm_E := fun t => match t with
  | 0 => [(some (.aload_n 0), 0, 0, [], 0), (some (.getfield 106), 8, 0, [], 0), (some (.aload_n 0), 0, 0, [], 0), (some (.iload_n 1), 0, 0, [], 0), (some (.invokevirtual 109), 70, 2, [], 0), (some (.if_icmp .ge 16), 25, 0, [], 0), (some (.aload_n 0), 0, 0, [], 0), (some (.getfield 13), 8, 3, [], 0), (some (.iload_n 1), 0, 0, [], 0), (some (.iaload), 0, 0, [], 0), (some (.ifCond .le 7), 25, 0, [], 0), (some (.iconst 1), 0, 0, [], 1), (some (.goto 4), 26, 0, [], 0)]
  | 25 => [(some (.iconst 0), 0, 0, [], 0), (none, 26, 0, [], 0)]
  | 26 => [(some (.ireturn), 0, 0, [], 0)]
  | _ => []
theorem lb_71_0 : lab_71 0 = [(some (.aload_n 0), 0, 0, [], 0), (some (.getfield 106), 8, 0, [], 0), (some (.aload_n 0), 0, 0, [], 0), (some (.iload_n 1), 0, 0, [], 0), (some (.invokevirtual 109), 70, 2, [], 0), (some (.if_icmp .ge 16), 25, 0, [], 0), (some (.aload_n 0), 0, 0, [], 0), (some (.getfield 13), 8, 3, [], 0), (some (.iload_n 1), 0, 0, [], 0), (some (.iaload), 0, 0, [], 0), (some (.ifCond .le 7), 25, 0, [], 0), (some (.iconst 1), 0, 0, [], 1), (some (.goto 4), 26, 0, [], 0)] := rfl
theorem lb_71_25 : lab_71 25 = [(some (.iconst 0), 0, 0, [], 0), (none, 26, 0, [], 0)] := rfl
theorem lb_71_26 : lab_71 26 = [(some (.ireturn), 0, 0, [], 0)] := rfl
set_option maxRecDepth 20000 in
theorem ok_71 : ∀ t, mm_okc (mm_m 71) t (lab_71 t) = true := by
  intro t
  unfold lab_71
  split <;> first | decide +kernel | rfl
/-! X8_land -/
def lab_72 : Nat → List mm_E := fun t => match t with
  | 0 => [(some (.iload_n 1), 0, 0, [], 0), (some (.iconst 0), 0, 0, [], 0), (some (.iconst 2), 0, 0, [], 2), (some (.invokestatic 102), 68, 3, [], 0), (some (.ifCond .eq 33), 39, 0, [], 0), (some (.iload_n 2), 0, 0, [], 0), (some (.iconst 1), 0, 0, [], 1), (some (.sipush 5000), 0, 0, [], 5000), (some (.invokestatic 102), 68, 3, [], 0), (some (.ifCond .eq 22), 39, 0, [], 0), (some (.iload_n 3), 0, 0, [], 0), (some (.iconst 0), 0, 0, [], 0), (some (.bipush 19), 0, 0, [], 19), (some (.invokestatic 102), 68, 3, [], 0), (some (.ifCond .eq 12), 39, 0, [], 0), (some (.aload_n 0), 0, 0, [], 0), (some (.getfield 98), 8, 1, [], 0), (some (.bipush 60), 0, 0, [], 60), (some (.if_icmp .ne 5), 41, 0, [], 0), (none, 39, 0, [], 0)]
  | 39 => [(some (.iconst (-1)), 0, 0, [], (-1)), (some (.ireturn), 0, 0, [], 0)]
  | 41 => [(some (.aload_n 0), 0, 0, [], 0), (some (.getfield 9), 8, 2, [], 0), (some (.aload_n 0), 0, 0, [], 0), (some (.getfield 98), 8, 1, [], 0), (some (.iload_n 1), 0, 0, [], 0), (some (.iastore), 0, 0, [], 0), (some (.aload_n 0), 0, 0, [], 0), (some (.getfield 13), 8, 3, [], 0), (some (.aload_n 0), 0, 0, [], 0), (some (.getfield 98), 8, 1, [], 0), (some (.iload_n 2), 0, 0, [], 0), (some (.iastore), 0, 0, [], 0), (some (.aload_n 0), 0, 0, [], 0), (some (.getfield 16), 8, 4, [], 0), (some (.aload_n 0), 0, 0, [], 0), (some (.getfield 98), 8, 1, [], 0), (some (.aload_n 0), 0, 0, [], 0), (some (.getfield 106), 8, 0, [], 0), (some (.iload_n 3), 0, 0, [], 0), (some (.isub), 0, 0, [], 0), (some (.iastore), 0, 0, [], 0), (some (.aload_n 0), 0, 0, [], 0), (some (.dup), 0, 0, [], 0), (some (.getfield 98), 8, 1, [], 0), (some (.iconst 1), 0, 0, [], 1), (some (.iadd), 0, 0, [], 0), (some (.putfield 98), 8, 1, [], 0), (some (.aload_n 0), 0, 0, [], 0), (some (.getfield 98), 8, 1, [], 0), (some (.iconst 1), 0, 0, [], 1), (some (.isub), 0, 0, [], 0), (some (.ireturn), 0, 0, [], 0)]
  | _ => []
theorem lb_72_0 : lab_72 0 = [(some (.iload_n 1), 0, 0, [], 0), (some (.iconst 0), 0, 0, [], 0), (some (.iconst 2), 0, 0, [], 2), (some (.invokestatic 102), 68, 3, [], 0), (some (.ifCond .eq 33), 39, 0, [], 0), (some (.iload_n 2), 0, 0, [], 0), (some (.iconst 1), 0, 0, [], 1), (some (.sipush 5000), 0, 0, [], 5000), (some (.invokestatic 102), 68, 3, [], 0), (some (.ifCond .eq 22), 39, 0, [], 0), (some (.iload_n 3), 0, 0, [], 0), (some (.iconst 0), 0, 0, [], 0), (some (.bipush 19), 0, 0, [], 19), (some (.invokestatic 102), 68, 3, [], 0), (some (.ifCond .eq 12), 39, 0, [], 0), (some (.aload_n 0), 0, 0, [], 0), (some (.getfield 98), 8, 1, [], 0), (some (.bipush 60), 0, 0, [], 60), (some (.if_icmp .ne 5), 41, 0, [], 0), (none, 39, 0, [], 0)] := rfl
theorem lb_72_39 : lab_72 39 = [(some (.iconst (-1)), 0, 0, [], (-1)), (some (.ireturn), 0, 0, [], 0)] := rfl
theorem lb_72_41 : lab_72 41 = [(some (.aload_n 0), 0, 0, [], 0), (some (.getfield 9), 8, 2, [], 0), (some (.aload_n 0), 0, 0, [], 0), (some (.getfield 98), 8, 1, [], 0), (some (.iload_n 1), 0, 0, [], 0), (some (.iastore), 0, 0, [], 0), (some (.aload_n 0), 0, 0, [], 0), (some (.getfield 13), 8, 3, [], 0), (some (.aload_n 0), 0, 0, [], 0), (some (.getfield 98), 8, 1, [], 0), (some (.iload_n 2), 0, 0, [], 0), (some (.iastore), 0, 0, [], 0), (some (.aload_n 0), 0, 0, [], 0), (some (.getfield 16), 8, 4, [], 0), (some (.aload_n 0), 0, 0, [], 0), (some (.getfield 98), 8, 1, [], 0), (some (.aload_n 0), 0, 0, [], 0), (some (.getfield 106), 8, 0, [], 0), (some (.iload_n 3), 0, 0, [], 0), (some (.isub), 0, 0, [], 0), (some (.iastore), 0, 0, [], 0), (some (.aload_n 0), 0, 0, [], 0), (some (.dup), 0, 0, [], 0), (some (.getfield 98), 8, 1, [], 0), (some (.iconst 1), 0, 0, [], 1), (some (.iadd), 0, 0, [], 0), (some (.putfield 98), 8, 1, [], 0), (some (.aload_n 0), 0, 0, [], 0), (some (.getfield 98), 8, 1, [], 0), (some (.iconst 1), 0, 0, [], 1), (some (.isub), 0, 0, [], 0), (some (.ireturn), 0, 0, [], 0)] := rfl
set_option maxRecDepth 20000 in
theorem ok_72 : ∀ t, mm_okc (mm_m 72) t (lab_72 t) = true := by
  intro t
  unfold lab_72
  split <;> first | decide +kernel | rfl
/-! X8_ice -/
def lab_73 : Nat → List mm_E := fun t => match t with
  | 0 => [(some (.iload_n 1), 0, 0, [], 0), (some (.iconst 1), 0, 0, [], 1), (some (.ldc 113), 0, 0, [], 100000), (some (.invokestatic 102), 68, 3, [], 0), (some (.ifCond .eq 14), 21, 0, [], 0), (some (.aload_n 0), 0, 0, [], 0), (some (.getfield 114), 8, 7, [], 0), (some (.iload_n 1), 0, 0, [], 0), (some (.iadd), 0, 0, [], 0), (some (.ldc 117), 0, 0, [], 1000000), (some (.if_icmp .le 5), 23, 0, [], 0), (none, 21, 0, [], 0)]
  | 21 => [(some (.iconst (-1)), 0, 0, [], (-1)), (some (.ireturn), 0, 0, [], 0)]
  | 23 => [(some (.aload_n 0), 0, 0, [], 0), (some (.dup), 0, 0, [], 0), (some (.getfield 114), 8, 7, [], 0), (some (.iload_n 1), 0, 0, [], 0), (some (.iadd), 0, 0, [], 0), (some (.putfield 114), 8, 7, [], 0), (some (.aload_n 0), 0, 0, [], 0), (some (.getfield 114), 8, 7, [], 0), (some (.ireturn), 0, 0, [], 0)]
  | _ => []
theorem lb_73_0 : lab_73 0 = [(some (.iload_n 1), 0, 0, [], 0), (some (.iconst 1), 0, 0, [], 1), (some (.ldc 113), 0, 0, [], 100000), (some (.invokestatic 102), 68, 3, [], 0), (some (.ifCond .eq 14), 21, 0, [], 0), (some (.aload_n 0), 0, 0, [], 0), (some (.getfield 114), 8, 7, [], 0), (some (.iload_n 1), 0, 0, [], 0), (some (.iadd), 0, 0, [], 0), (some (.ldc 117), 0, 0, [], 1000000), (some (.if_icmp .le 5), 23, 0, [], 0), (none, 21, 0, [], 0)] := rfl
theorem lb_73_21 : lab_73 21 = [(some (.iconst (-1)), 0, 0, [], (-1)), (some (.ireturn), 0, 0, [], 0)] := rfl
theorem lb_73_23 : lab_73 23 = [(some (.aload_n 0), 0, 0, [], 0), (some (.dup), 0, 0, [], 0), (some (.getfield 114), 8, 7, [], 0), (some (.iload_n 1), 0, 0, [], 0), (some (.iadd), 0, 0, [], 0), (some (.putfield 114), 8, 7, [], 0), (some (.aload_n 0), 0, 0, [], 0), (some (.getfield 114), 8, 7, [], 0), (some (.ireturn), 0, 0, [], 0)] := rfl
set_option maxRecDepth 20000 in
theorem ok_73 : ∀ t, mm_okc (mm_m 73) t (lab_73 t) = true := by
  intro t
  unfold lab_73
  split <;> first | decide +kernel | rfl
/-! X8_iced -/
def lab_74 : Nat → List mm_E := fun t => match t with
  | 0 => [(some (.aload_n 0), 0, 0, [], 0), (some (.iload_n 1), 0, 0, [], 0), (some (.invokevirtual 118), 69, 2, [], 0), (some (.ifCond .eq 33), 38, 0, [], 0), (some (.aload_n 0), 0, 0, [], 0), (some (.iload_n 1), 0, 0, [], 0), (some (.invokevirtual 122), 71, 2, [], 0), (some (.ifCond .eq 25), 38, 0, [], 0), (some (.aload_n 0), 0, 0, [], 0), (some (.getfield 19), 8, 5, [], 0), (some (.iload_n 1), 0, 0, [], 0), (some (.baload), 0, 0, [], 0), (some (.ifCond .ne 16), 38, 0, [], 0), (some (.aload_n 0), 0, 0, [], 0), (some (.getfield 114), 8, 7, [], 0), (some (.aload_n 0), 0, 0, [], 0), (some (.getfield 13), 8, 3, [], 0), (some (.iload_n 1), 0, 0, [], 0), (some (.iaload), 0, 0, [], 0), (some (.if_icmp .ge 5), 40, 0, [], 0), (none, 38, 0, [], 0)]
  | 38 => [(some (.iconst 0), 0, 0, [], 0), (some (.ireturn), 0, 0, [], 0)]
  | 40 => [(some (.aload_n 0), 0, 0, [], 0), (some (.dup), 0, 0, [], 0), (some (.getfield 114), 8, 7, [], 0), (some (.aload_n 0), 0, 0, [], 0), (some (.getfield 13), 8, 3, [], 0), (some (.iload_n 1), 0, 0, [], 0), (some (.iaload), 0, 0, [], 0), (some (.isub), 0, 0, [], 0), (some (.putfield 114), 8, 7, [], 0), (some (.aload_n 0), 0, 0, [], 0), (some (.getfield 19), 8, 5, [], 0), (some (.iload_n 1), 0, 0, [], 0), (some (.iconst 1), 0, 0, [], 1), (some (.bastore), 0, 0, [], 0), (some (.iconst 1), 0, 0, [], 1), (some (.ireturn), 0, 0, [], 0)]
  | _ => []
theorem lb_74_0 : lab_74 0 = [(some (.aload_n 0), 0, 0, [], 0), (some (.iload_n 1), 0, 0, [], 0), (some (.invokevirtual 118), 69, 2, [], 0), (some (.ifCond .eq 33), 38, 0, [], 0), (some (.aload_n 0), 0, 0, [], 0), (some (.iload_n 1), 0, 0, [], 0), (some (.invokevirtual 122), 71, 2, [], 0), (some (.ifCond .eq 25), 38, 0, [], 0), (some (.aload_n 0), 0, 0, [], 0), (some (.getfield 19), 8, 5, [], 0), (some (.iload_n 1), 0, 0, [], 0), (some (.baload), 0, 0, [], 0), (some (.ifCond .ne 16), 38, 0, [], 0), (some (.aload_n 0), 0, 0, [], 0), (some (.getfield 114), 8, 7, [], 0), (some (.aload_n 0), 0, 0, [], 0), (some (.getfield 13), 8, 3, [], 0), (some (.iload_n 1), 0, 0, [], 0), (some (.iaload), 0, 0, [], 0), (some (.if_icmp .ge 5), 40, 0, [], 0), (none, 38, 0, [], 0)] := rfl
theorem lb_74_38 : lab_74 38 = [(some (.iconst 0), 0, 0, [], 0), (some (.ireturn), 0, 0, [], 0)] := rfl
theorem lb_74_40 : lab_74 40 = [(some (.aload_n 0), 0, 0, [], 0), (some (.dup), 0, 0, [], 0), (some (.getfield 114), 8, 7, [], 0), (some (.aload_n 0), 0, 0, [], 0), (some (.getfield 13), 8, 3, [], 0), (some (.iload_n 1), 0, 0, [], 0), (some (.iaload), 0, 0, [], 0), (some (.isub), 0, 0, [], 0), (some (.putfield 114), 8, 7, [], 0), (some (.aload_n 0), 0, 0, [], 0), (some (.getfield 19), 8, 5, [], 0), (some (.iload_n 1), 0, 0, [], 0), (some (.iconst 1), 0, 0, [], 1), (some (.bastore), 0, 0, [], 0), (some (.iconst 1), 0, 0, [], 1), (some (.ireturn), 0, 0, [], 0)] := rfl
set_option maxRecDepth 20000 in
theorem ok_74 : ∀ t, mm_okc (mm_m 74) t (lab_74 t) = true := by
  intro t
  unfold lab_74
  split <;> first | decide +kernel | rfl
/-! X8_isKindNumber -/
def lab_75 : Nat → List mm_E := fun t => match t with
  | 0 => [(some (.iload_n 0), 0, 0, [], 0), (some (.iconst 0), 0, 0, [], 0), (some (.iconst 3), 0, 0, [], 3), (some (.invokestatic 102), 68, 3, [], 0), (some (.ireturn), 0, 0, [], 0)]
  | _ => []
theorem lb_75_0 : lab_75 0 = [(some (.iload_n 0), 0, 0, [], 0), (some (.iconst 0), 0, 0, [], 0), (some (.iconst 3), 0, 0, [], 3), (some (.invokestatic 102), 68, 3, [], 0), (some (.ireturn), 0, 0, [], 0)] := rfl
set_option maxRecDepth 20000 in
theorem ok_75 : ∀ t, mm_okc (mm_m 75) t (lab_75 t) = true := by
  intro t
  unfold lab_75
  split <;> first | decide +kernel | rfl
/-! X8_kind -/
def lab_76 : Nat → List mm_E := fun t => match t with
  | 0 => [(some (.iload_n 1), 0, 0, [], 0), (some (.invokestatic 125), 75, 1, [], 0), (some (.ifCond .eq 73), 77, 0, [], 0), (some (.aload_n 0), 0, 0, [], 0), (some (.getfield 29), 8, 9, [], 0), (some (.iload_n 1), 0, 0, [], 0), (some (.iaload), 0, 0, [], 0), (some (.ifCond .gt 64), 77, 0, [], 0), (some (.iload_n 2), 0, 0, [], 0), (some (.ifCond .lt 60), 77, 0, [], 0), (some (.iload_n 2), 0, 0, [], 0), (some (.sipush 1000), 0, 0, [], 1000), (some (.idiv), 0, 0, [], 0), (some (.iconst 1), 0, 0, [], 1), (some (.bipush 7), 0, 0, [], 7), (some (.invokestatic 102), 68, 3, [], 0), (some (.ifCond .eq 46), 77, 0, [], 0), (some (.iload_n 2), 0, 0, [], 0), (some (.bipush 100), 0, 0, [], 100), (some (.idiv), 0, 0, [], 0), (some (.bipush 10), 0, 0, [], 10), (some (.irem), 0, 0, [], 0), (some (.iconst 1), 0, 0, [], 1), (some (.if_icmp .gt 35), 77, 0, [], 0), (some (.iload_n 2), 0, 0, [], 0), (some (.bipush 10), 0, 0, [], 10), (some (.idiv), 0, 0, [], 0), (some (.bipush 10), 0, 0, [], 10), (some (.irem), 0, 0, [], 0), (some (.ifCond .eq 25), 77, 0, [], 0), (some (.iload_n 2), 0, 0, [], 0), (some (.bipush 10), 0, 0, [], 10), (some (.irem), 0, 0, [], 0), (some (.iconst 1), 0, 0, [], 1), (some (.iconst 5), 0, 0, [], 5), (some (.invokestatic 102), 68, 3, [], 0), (some (.ifCond .eq 13), 77, 0, [], 0), (some (.iload_n 3), 0, 0, [], 0), (some (.iconst 1), 0, 0, [], 1), (some (.bipush 99), 0, 0, [], 99), (some (.invokestatic 102), 68, 3, [], 0), (some (.ifCond .ne 5), 79, 0, [], 0), (none, 77, 0, [], 0)]
  | 77 => [(some (.iconst 0), 0, 0, [], 0), (some (.ireturn), 0, 0, [], 0)]
  | 79 => [(some (.aload_n 0), 0, 0, [], 0), (some (.getfield 26), 8, 8, [], 0), (some (.iload_n 1), 0, 0, [], 0), (some (.iload_n 2), 0, 0, [], 0), (some (.iastore), 0, 0, [], 0), (some (.aload_n 0), 0, 0, [], 0), (some (.getfield 29), 8, 9, [], 0), (some (.iload_n 1), 0, 0, [], 0), (some (.iload_n 3), 0, 0, [], 0), (some (.iastore), 0, 0, [], 0), (some (.iconst 1), 0, 0, [], 1), (some (.ireturn), 0, 0, [], 0)]
  | _ => []
theorem lb_76_0 : lab_76 0 = [(some (.iload_n 1), 0, 0, [], 0), (some (.invokestatic 125), 75, 1, [], 0), (some (.ifCond .eq 73), 77, 0, [], 0), (some (.aload_n 0), 0, 0, [], 0), (some (.getfield 29), 8, 9, [], 0), (some (.iload_n 1), 0, 0, [], 0), (some (.iaload), 0, 0, [], 0), (some (.ifCond .gt 64), 77, 0, [], 0), (some (.iload_n 2), 0, 0, [], 0), (some (.ifCond .lt 60), 77, 0, [], 0), (some (.iload_n 2), 0, 0, [], 0), (some (.sipush 1000), 0, 0, [], 1000), (some (.idiv), 0, 0, [], 0), (some (.iconst 1), 0, 0, [], 1), (some (.bipush 7), 0, 0, [], 7), (some (.invokestatic 102), 68, 3, [], 0), (some (.ifCond .eq 46), 77, 0, [], 0), (some (.iload_n 2), 0, 0, [], 0), (some (.bipush 100), 0, 0, [], 100), (some (.idiv), 0, 0, [], 0), (some (.bipush 10), 0, 0, [], 10), (some (.irem), 0, 0, [], 0), (some (.iconst 1), 0, 0, [], 1), (some (.if_icmp .gt 35), 77, 0, [], 0), (some (.iload_n 2), 0, 0, [], 0), (some (.bipush 10), 0, 0, [], 10), (some (.idiv), 0, 0, [], 0), (some (.bipush 10), 0, 0, [], 10), (some (.irem), 0, 0, [], 0), (some (.ifCond .eq 25), 77, 0, [], 0), (some (.iload_n 2), 0, 0, [], 0), (some (.bipush 10), 0, 0, [], 10), (some (.irem), 0, 0, [], 0), (some (.iconst 1), 0, 0, [], 1), (some (.iconst 5), 0, 0, [], 5), (some (.invokestatic 102), 68, 3, [], 0), (some (.ifCond .eq 13), 77, 0, [], 0), (some (.iload_n 3), 0, 0, [], 0), (some (.iconst 1), 0, 0, [], 1), (some (.bipush 99), 0, 0, [], 99), (some (.invokestatic 102), 68, 3, [], 0), (some (.ifCond .ne 5), 79, 0, [], 0), (none, 77, 0, [], 0)] := rfl
theorem lb_76_77 : lab_76 77 = [(some (.iconst 0), 0, 0, [], 0), (some (.ireturn), 0, 0, [], 0)] := rfl
theorem lb_76_79 : lab_76 79 = [(some (.aload_n 0), 0, 0, [], 0), (some (.getfield 26), 8, 8, [], 0), (some (.iload_n 1), 0, 0, [], 0), (some (.iload_n 2), 0, 0, [], 0), (some (.iastore), 0, 0, [], 0), (some (.aload_n 0), 0, 0, [], 0), (some (.getfield 29), 8, 9, [], 0), (some (.iload_n 1), 0, 0, [], 0), (some (.iload_n 3), 0, 0, [], 0), (some (.iastore), 0, 0, [], 0), (some (.iconst 1), 0, 0, [], 1), (some (.ireturn), 0, 0, [], 0)] := rfl
set_option maxRecDepth 20000 in
theorem ok_76 : ∀ t, mm_okc (mm_m 76) t (lab_76 t) = true := by
  intro t
  unfold lab_76
  split <;> first | decide +kernel | rfl
/-! X8_isTold -/
def lab_77 : Nat → List mm_E := fun t => match t with
  | 0 => [(some (.iload_n 1), 0, 0, [], 0), (some (.invokestatic 125), 75, 1, [], 0), (some (.ifCond .eq 16), 20, 0, [], 0), (some (.aload_n 0), 0, 0, [], 0), (some (.getfield 29), 8, 9, [], 0), (some (.iload_n 1), 0, 0, [], 0), (some (.iaload), 0, 0, [], 0), (some (.ifCond .le 7), 20, 0, [], 0), (some (.iconst 1), 0, 0, [], 1), (some (.goto 4), 21, 0, [], 0)]
  | 20 => [(some (.iconst 0), 0, 0, [], 0), (none, 21, 0, [], 0)]
  | 21 => [(some (.ireturn), 0, 0, [], 0)]
  | _ => []
theorem lb_77_0 : lab_77 0 = [(some (.iload_n 1), 0, 0, [], 0), (some (.invokestatic 125), 75, 1, [], 0), (some (.ifCond .eq 16), 20, 0, [], 0), (some (.aload_n 0), 0, 0, [], 0), (some (.getfield 29), 8, 9, [], 0), (some (.iload_n 1), 0, 0, [], 0), (some (.iaload), 0, 0, [], 0), (some (.ifCond .le 7), 20, 0, [], 0), (some (.iconst 1), 0, 0, [], 1), (some (.goto 4), 21, 0, [], 0)] := rfl
theorem lb_77_20 : lab_77 20 = [(some (.iconst 0), 0, 0, [], 0), (none, 21, 0, [], 0)] := rfl
theorem lb_77_21 : lab_77 21 = [(some (.ireturn), 0, 0, [], 0)] := rfl
set_option maxRecDepth 20000 in
theorem ok_77 : ∀ t, mm_okc (mm_m 77) t (lab_77 t) = true := by
  intro t
  unfold lab_77
  split <;> first | decide +kernel | rfl
/-! X8_takes -/
def lab_78 : Nat → List mm_E := fun t => match t with
  | 0 => [(some (.aload_n 0), 0, 0, [], 0), (some (.getfield 26), 8, 8, [], 0), (some (.iload_n 1), 0, 0, [], 0), (some (.iaload), 0, 0, [], 0), (some (.sipush 1000), 0, 0, [], 1000), (some (.idiv), 0, 0, [], 0), (some (.iload_n 2), 0, 0, [], 0), (some (.ishr), 0, 0, [], 0), (some (.iconst 1), 0, 0, [], 1), (some (.iand), 0, 0, [], 0), (some (.iconst 1), 0, 0, [], 1), (some (.if_icmp .ne 7), 22, 0, [], 0), (some (.iconst 1), 0, 0, [], 1), (some (.goto 4), 23, 0, [], 0)]
  | 22 => [(some (.iconst 0), 0, 0, [], 0), (none, 23, 0, [], 0)]
  | 23 => [(some (.ireturn), 0, 0, [], 0)]
  | _ => []
theorem lb_78_0 : lab_78 0 = [(some (.aload_n 0), 0, 0, [], 0), (some (.getfield 26), 8, 8, [], 0), (some (.iload_n 1), 0, 0, [], 0), (some (.iaload), 0, 0, [], 0), (some (.sipush 1000), 0, 0, [], 1000), (some (.idiv), 0, 0, [], 0), (some (.iload_n 2), 0, 0, [], 0), (some (.ishr), 0, 0, [], 0), (some (.iconst 1), 0, 0, [], 1), (some (.iand), 0, 0, [], 0), (some (.iconst 1), 0, 0, [], 1), (some (.if_icmp .ne 7), 22, 0, [], 0), (some (.iconst 1), 0, 0, [], 1), (some (.goto 4), 23, 0, [], 0)] := rfl
theorem lb_78_22 : lab_78 22 = [(some (.iconst 0), 0, 0, [], 0), (none, 23, 0, [], 0)] := rfl
theorem lb_78_23 : lab_78 23 = [(some (.ireturn), 0, 0, [], 0)] := rfl
set_option maxRecDepth 20000 in
theorem ok_78 : ∀ t, mm_okc (mm_m 78) t (lab_78 t) = true := by
  intro t
  unfold lab_78
  split <;> first | decide +kernel | rfl
/-! X8_fishOf -/
def lab_79 : Nat → List mm_E := fun t => match t with
  | 0 => [(some (.aload_n 0), 0, 0, [], 0), (some (.getfield 26), 8, 8, [], 0), (some (.iload_n 1), 0, 0, [], 0), (some (.iaload), 0, 0, [], 0), (some (.bipush 10), 0, 0, [], 10), (some (.idiv), 0, 0, [], 0), (some (.bipush 10), 0, 0, [], 10), (some (.irem), 0, 0, [], 0), (some (.ireturn), 0, 0, [], 0)]
  | _ => []
theorem lb_79_0 : lab_79 0 = [(some (.aload_n 0), 0, 0, [], 0), (some (.getfield 26), 8, 8, [], 0), (some (.iload_n 1), 0, 0, [], 0), (some (.iaload), 0, 0, [], 0), (some (.bipush 10), 0, 0, [], 10), (some (.idiv), 0, 0, [], 0), (some (.bipush 10), 0, 0, [], 10), (some (.irem), 0, 0, [], 0), (some (.ireturn), 0, 0, [], 0)] := rfl
set_option maxRecDepth 20000 in
theorem ok_79 : ∀ t, mm_okc (mm_m 79) t (lab_79 t) = true := by
  intro t
  unfold lab_79
  split <;> first | decide +kernel | rfl
/-! X8_sauceOf -/
def lab_80 : Nat → List mm_E := fun t => match t with
  | 0 => [(some (.aload_n 0), 0, 0, [], 0), (some (.getfield 26), 8, 8, [], 0), (some (.iload_n 1), 0, 0, [], 0), (some (.iaload), 0, 0, [], 0), (some (.bipush 100), 0, 0, [], 100), (some (.idiv), 0, 0, [], 0), (some (.bipush 10), 0, 0, [], 10), (some (.irem), 0, 0, [], 0), (some (.ireturn), 0, 0, [], 0)]
  | _ => []
theorem lb_80_0 : lab_80 0 = [(some (.aload_n 0), 0, 0, [], 0), (some (.getfield 26), 8, 8, [], 0), (some (.iload_n 1), 0, 0, [], 0), (some (.iaload), 0, 0, [], 0), (some (.bipush 100), 0, 0, [], 100), (some (.idiv), 0, 0, [], 0), (some (.bipush 10), 0, 0, [], 10), (some (.irem), 0, 0, [], 0), (some (.ireturn), 0, 0, [], 0)] := rfl
set_option maxRecDepth 20000 in
theorem ok_80 : ∀ t, mm_okc (mm_m 80) t (lab_80 t) = true := by
  intro t
  unfold lab_80
  split <;> first | decide +kernel | rfl
/-! X8_sauce -/
def lab_81 : Nat → List mm_E := fun t => match t with
  | 0 => [(some (.iload_n 1), 0, 0, [], 0), (some (.iconst 0), 0, 0, [], 0), (some (.iconst 1), 0, 0, [], 1), (some (.invokestatic 102), 68, 3, [], 0), (some (.ifCond .eq 27), 33, 0, [], 0), (some (.iload_n 2), 0, 0, [], 0), (some (.iconst 1), 0, 0, [], 1), (some (.sipush 10000), 0, 0, [], 10000), (some (.invokestatic 102), 68, 3, [], 0), (some (.ifCond .eq 16), 33, 0, [], 0), (some (.aload_n 0), 0, 0, [], 0), (some (.getfield 32), 8, 10, [], 0), (some (.iload_n 1), 0, 0, [], 0), (some (.iaload), 0, 0, [], 0), (some (.iload_n 2), 0, 0, [], 0), (some (.iadd), 0, 0, [], 0), (some (.ldc 113), 0, 0, [], 100000), (some (.if_icmp .le 5), 35, 0, [], 0), (none, 33, 0, [], 0)]
  | 33 => [(some (.iconst (-1)), 0, 0, [], (-1)), (some (.ireturn), 0, 0, [], 0)]
  | 35 => [(some (.aload_n 0), 0, 0, [], 0), (some (.getfield 32), 8, 10, [], 0), (some (.iload_n 1), 0, 0, [], 0), (some (.dup2), 0, 0, [], 0), (some (.iaload), 0, 0, [], 0), (some (.iload_n 2), 0, 0, [], 0), (some (.iadd), 0, 0, [], 0), (some (.iastore), 0, 0, [], 0), (some (.aload_n 0), 0, 0, [], 0), (some (.getfield 32), 8, 10, [], 0), (some (.iload_n 1), 0, 0, [], 0), (some (.iaload), 0, 0, [], 0), (some (.ireturn), 0, 0, [], 0)]
  | _ => []
theorem lb_81_0 : lab_81 0 = [(some (.iload_n 1), 0, 0, [], 0), (some (.iconst 0), 0, 0, [], 0), (some (.iconst 1), 0, 0, [], 1), (some (.invokestatic 102), 68, 3, [], 0), (some (.ifCond .eq 27), 33, 0, [], 0), (some (.iload_n 2), 0, 0, [], 0), (some (.iconst 1), 0, 0, [], 1), (some (.sipush 10000), 0, 0, [], 10000), (some (.invokestatic 102), 68, 3, [], 0), (some (.ifCond .eq 16), 33, 0, [], 0), (some (.aload_n 0), 0, 0, [], 0), (some (.getfield 32), 8, 10, [], 0), (some (.iload_n 1), 0, 0, [], 0), (some (.iaload), 0, 0, [], 0), (some (.iload_n 2), 0, 0, [], 0), (some (.iadd), 0, 0, [], 0), (some (.ldc 113), 0, 0, [], 100000), (some (.if_icmp .le 5), 35, 0, [], 0), (none, 33, 0, [], 0)] := rfl
theorem lb_81_33 : lab_81 33 = [(some (.iconst (-1)), 0, 0, [], (-1)), (some (.ireturn), 0, 0, [], 0)] := rfl
theorem lb_81_35 : lab_81 35 = [(some (.aload_n 0), 0, 0, [], 0), (some (.getfield 32), 8, 10, [], 0), (some (.iload_n 1), 0, 0, [], 0), (some (.dup2), 0, 0, [], 0), (some (.iaload), 0, 0, [], 0), (some (.iload_n 2), 0, 0, [], 0), (some (.iadd), 0, 0, [], 0), (some (.iastore), 0, 0, [], 0), (some (.aload_n 0), 0, 0, [], 0), (some (.getfield 32), 8, 10, [], 0), (some (.iload_n 1), 0, 0, [], 0), (some (.iaload), 0, 0, [], 0), (some (.ireturn), 0, 0, [], 0)] := rfl
set_option maxRecDepth 20000 in
theorem ok_81 : ∀ t, mm_okc (mm_m 81) t (lab_81 t) = true := by
  intro t
  unfold lab_81
  split <;> first | decide +kernel | rfl
/-! X8_call -/
def lab_82 : Nat → List mm_E := fun t => match t with
  | 0 => [(some (.iload_n 1), 0, 0, [], 0), (some (.iconst 0), 0, 0, [], 0), (some (.iconst 2), 0, 0, [], 2), (some (.invokestatic 102), 68, 3, [], 0), (some (.ifCond .eq 19), 25, 0, [], 0), (some (.aload_n 0), 0, 0, [], 0), (some (.getfield 106), 8, 0, [], 0), (some (.aload_n 0), 0, 0, [], 0), (some (.getfield 35), 8, 11, [], 0), (some (.iload_n 1), 0, 0, [], 0), (some (.iaload), 0, 0, [], 0), (some (.bipush 8), 0, 0, [], 8), (some (.iadd), 0, 0, [], 0), (some (.if_icmp .ge 5), 27, 0, [], 0), (none, 25, 0, [], 0)]
  | 25 => [(some (.iconst (-1)), 0, 0, [], (-1)), (some (.ireturn), 0, 0, [], 0)]
  | 27 => [(some (.aload_n 0), 0, 0, [], 0), (some (.getfield 35), 8, 11, [], 0), (some (.iload_n 1), 0, 0, [], 0), (some (.aload_n 0), 0, 0, [], 0), (some (.getfield 106), 8, 0, [], 0), (some (.iconst 3), 0, 0, [], 3), (some (.iadd), 0, 0, [], 0), (some (.iastore), 0, 0, [], 0), (some (.aload_n 0), 0, 0, [], 0), (some (.getfield 35), 8, 11, [], 0), (some (.iload_n 1), 0, 0, [], 0), (some (.iaload), 0, 0, [], 0), (some (.ireturn), 0, 0, [], 0)]
  | _ => []
theorem lb_82_0 : lab_82 0 = [(some (.iload_n 1), 0, 0, [], 0), (some (.iconst 0), 0, 0, [], 0), (some (.iconst 2), 0, 0, [], 2), (some (.invokestatic 102), 68, 3, [], 0), (some (.ifCond .eq 19), 25, 0, [], 0), (some (.aload_n 0), 0, 0, [], 0), (some (.getfield 106), 8, 0, [], 0), (some (.aload_n 0), 0, 0, [], 0), (some (.getfield 35), 8, 11, [], 0), (some (.iload_n 1), 0, 0, [], 0), (some (.iaload), 0, 0, [], 0), (some (.bipush 8), 0, 0, [], 8), (some (.iadd), 0, 0, [], 0), (some (.if_icmp .ge 5), 27, 0, [], 0), (none, 25, 0, [], 0)] := rfl
theorem lb_82_25 : lab_82 25 = [(some (.iconst (-1)), 0, 0, [], (-1)), (some (.ireturn), 0, 0, [], 0)] := rfl
theorem lb_82_27 : lab_82 27 = [(some (.aload_n 0), 0, 0, [], 0), (some (.getfield 35), 8, 11, [], 0), (some (.iload_n 1), 0, 0, [], 0), (some (.aload_n 0), 0, 0, [], 0), (some (.getfield 106), 8, 0, [], 0), (some (.iconst 3), 0, 0, [], 3), (some (.iadd), 0, 0, [], 0), (some (.iastore), 0, 0, [], 0), (some (.aload_n 0), 0, 0, [], 0), (some (.getfield 35), 8, 11, [], 0), (some (.iload_n 1), 0, 0, [], 0), (some (.iaload), 0, 0, [], 0), (some (.ireturn), 0, 0, [], 0)] := rfl
set_option maxRecDepth 20000 in
theorem ok_82 : ∀ t, mm_okc (mm_m 82) t (lab_82 t) = true := by
  intro t
  unfold lab_82
  split <;> first | decide +kernel | rfl
/-! X8_crewsThere -/
def lab_83 : Nat → List mm_E := fun t => match t with
  | 0 => [(some (.iconst 0), 0, 0, [], 0), (some (.istore_n 1), 0, 0, [], 0), (some (.iconst 0), 0, 0, [], 0), (some (.istore_n 2), 0, 0, [], 0), (none, 4, 0, [], 0)]
  | 4 => [(some (.iload_n 2), 0, 0, [], 0), (some (.iconst 3), 0, 0, [], 3), (some (.if_icmp .ge 42), 48, 0, [], 0), (some (.iload_n 1), 0, 0, [], 0), (some (.aload_n 0), 0, 0, [], 0), (some (.getfield 106), 8, 0, [], 0), (some (.aload_n 0), 0, 0, [], 0), (some (.getfield 35), 8, 11, [], 0), (some (.iload_n 2), 0, 0, [], 0), (some (.iaload), 0, 0, [], 0), (some (.aload_n 0), 0, 0, [], 0), (some (.getfield 35), 8, 11, [], 0), (some (.iload_n 2), 0, 0, [], 0), (some (.iaload), 0, 0, [], 0), (some (.bipush 7), 0, 0, [], 7), (some (.iadd), 0, 0, [], 0), (some (.invokestatic 102), 68, 3, [], 0), (some (.ifCond .eq 7), 39, 0, [], 0), (some (.iconst 1), 0, 0, [], 1), (some (.goto 4), 40, 0, [], 0)]
  | 39 => [(some (.iconst 0), 0, 0, [], 0), (none, 40, 0, [], 0)]
  | 40 => [(some (.iadd), 0, 0, [], 0), (some (.istore_n 1), 0, 0, [], 0), (some (.iinc 2 1), 0, 0, [], 1), (some (.goto (-41)), 4, 0, [], 0)]
  | 48 => [(some (.iload_n 1), 0, 0, [], 0), (some (.ireturn), 0, 0, [], 0)]
  | _ => []
theorem lb_83_0 : lab_83 0 = [(some (.iconst 0), 0, 0, [], 0), (some (.istore_n 1), 0, 0, [], 0), (some (.iconst 0), 0, 0, [], 0), (some (.istore_n 2), 0, 0, [], 0), (none, 4, 0, [], 0)] := rfl
theorem lb_83_4 : lab_83 4 = [(some (.iload_n 2), 0, 0, [], 0), (some (.iconst 3), 0, 0, [], 3), (some (.if_icmp .ge 42), 48, 0, [], 0), (some (.iload_n 1), 0, 0, [], 0), (some (.aload_n 0), 0, 0, [], 0), (some (.getfield 106), 8, 0, [], 0), (some (.aload_n 0), 0, 0, [], 0), (some (.getfield 35), 8, 11, [], 0), (some (.iload_n 2), 0, 0, [], 0), (some (.iaload), 0, 0, [], 0), (some (.aload_n 0), 0, 0, [], 0), (some (.getfield 35), 8, 11, [], 0), (some (.iload_n 2), 0, 0, [], 0), (some (.iaload), 0, 0, [], 0), (some (.bipush 7), 0, 0, [], 7), (some (.iadd), 0, 0, [], 0), (some (.invokestatic 102), 68, 3, [], 0), (some (.ifCond .eq 7), 39, 0, [], 0), (some (.iconst 1), 0, 0, [], 1), (some (.goto 4), 40, 0, [], 0)] := rfl
theorem lb_83_39 : lab_83 39 = [(some (.iconst 0), 0, 0, [], 0), (none, 40, 0, [], 0)] := rfl
theorem lb_83_40 : lab_83 40 = [(some (.iadd), 0, 0, [], 0), (some (.istore_n 1), 0, 0, [], 0), (some (.iinc 2 1), 0, 0, [], 1), (some (.goto (-41)), 4, 0, [], 0)] := rfl
theorem lb_83_48 : lab_83 48 = [(some (.iload_n 1), 0, 0, [], 0), (some (.ireturn), 0, 0, [], 0)] := rfl
set_option maxRecDepth 20000 in
theorem ok_83 : ∀ t, mm_okc (mm_m 83) t (lab_83 t) = true := by
  intro t
  unfold lab_83
  split <;> first | decide +kernel | rfl
/-! X8_charges -/
def lab_84 : Nat → List mm_E := fun t => match t with
  | 0 => [(some (.iconst 0), 0, 0, [], 0), (some (.istore_n 1), 0, 0, [], 0), (some (.iconst 0), 0, 0, [], 0), (some (.istore_n 2), 0, 0, [], 0), (none, 4, 0, [], 0)]
  | 4 => [(some (.iload_n 2), 0, 0, [], 0), (some (.iconst 3), 0, 0, [], 3), (some (.if_icmp .ge 27), 33, 0, [], 0), (some (.iload_n 1), 0, 0, [], 0), (some (.aload_n 0), 0, 0, [], 0), (some (.getfield 38), 8, 13, [], 0), (some (.iload_n 2), 0, 0, [], 0), (some (.iaload), 0, 0, [], 0), (some (.iconst (-1)), 0, 0, [], (-1)), (some (.if_icmp .eq 7), 24, 0, [], 0), (some (.iconst 1), 0, 0, [], 1), (some (.goto 4), 25, 0, [], 0)]
  | 24 => [(some (.iconst 0), 0, 0, [], 0), (none, 25, 0, [], 0)]
  | 25 => [(some (.iadd), 0, 0, [], 0), (some (.istore_n 1), 0, 0, [], 0), (some (.iinc 2 1), 0, 0, [], 1), (some (.goto (-26)), 4, 0, [], 0)]
  | 33 => [(some (.iload_n 1), 0, 0, [], 0), (some (.ireturn), 0, 0, [], 0)]
  | _ => []
theorem lb_84_0 : lab_84 0 = [(some (.iconst 0), 0, 0, [], 0), (some (.istore_n 1), 0, 0, [], 0), (some (.iconst 0), 0, 0, [], 0), (some (.istore_n 2), 0, 0, [], 0), (none, 4, 0, [], 0)] := rfl
theorem lb_84_4 : lab_84 4 = [(some (.iload_n 2), 0, 0, [], 0), (some (.iconst 3), 0, 0, [], 3), (some (.if_icmp .ge 27), 33, 0, [], 0), (some (.iload_n 1), 0, 0, [], 0), (some (.aload_n 0), 0, 0, [], 0), (some (.getfield 38), 8, 13, [], 0), (some (.iload_n 2), 0, 0, [], 0), (some (.iaload), 0, 0, [], 0), (some (.iconst (-1)), 0, 0, [], (-1)), (some (.if_icmp .eq 7), 24, 0, [], 0), (some (.iconst 1), 0, 0, [], 1), (some (.goto 4), 25, 0, [], 0)] := rfl
theorem lb_84_24 : lab_84 24 = [(some (.iconst 0), 0, 0, [], 0), (none, 25, 0, [], 0)] := rfl
theorem lb_84_25 : lab_84 25 = [(some (.iadd), 0, 0, [], 0), (some (.istore_n 1), 0, 0, [], 0), (some (.iinc 2 1), 0, 0, [], 1), (some (.goto (-26)), 4, 0, [], 0)] := rfl
theorem lb_84_33 : lab_84 33 = [(some (.iload_n 1), 0, 0, [], 0), (some (.ireturn), 0, 0, [], 0)] := rfl
set_option maxRecDepth 20000 in
theorem ok_84 : ∀ t, mm_okc (mm_m 84) t (lab_84 t) = true := by
  intro t
  unfold lab_84
  split <;> first | decide +kernel | rfl
/-! X8_first -/
def lab_85 : Nat → List mm_E := fun t => match t with
  | 0 => [(some (.iconst (-1)), 0, 0, [], (-1)), (some (.istore_n 2), 0, 0, [], 0), (some (.iconst 0), 0, 0, [], 0), (some (.istore_n 3), 0, 0, [], 0), (none, 4, 0, [], 0)]
  | 4 => [(some (.iload_n 3), 0, 0, [], 0), (some (.aload_n 0), 0, 0, [], 0), (some (.getfield 98), 8, 1, [], 0), (some (.if_icmp .ge 62), 71, 0, [], 0), (some (.aload_n 0), 0, 0, [], 0), (some (.iload_n 3), 0, 0, [], 0), (some (.invokevirtual 122), 71, 2, [], 0), (some (.ifCond .eq 48), 65, 0, [], 0), (some (.aload_n 0), 0, 0, [], 0), (some (.getfield 23), 8, 6, [], 0), (some (.iload_n 3), 0, 0, [], 0), (some (.baload), 0, 0, [], 0), (some (.ifCond .ne 39), 65, 0, [], 0), (some (.aload_n 0), 0, 0, [], 0), (some (.iload_n 1), 0, 0, [], 0), (some (.aload_n 0), 0, 0, [], 0), (some (.getfield 9), 8, 2, [], 0), (some (.iload_n 3), 0, 0, [], 0), (some (.iaload), 0, 0, [], 0), (some (.invokevirtual 128), 78, 3, [], 0), (some (.ifCond .eq 25), 65, 0, [], 0), (some (.iload_n 2), 0, 0, [], 0), (some (.iconst (-1)), 0, 0, [], (-1)), (some (.if_icmp .eq 18), 63, 0, [], 0), (some (.aload_n 0), 0, 0, [], 0), (some (.getfield 16), 8, 4, [], 0), (some (.iload_n 3), 0, 0, [], 0), (some (.iaload), 0, 0, [], 0), (some (.aload_n 0), 0, 0, [], 0), (some (.getfield 16), 8, 4, [], 0), (some (.iload_n 2), 0, 0, [], 0), (some (.iaload), 0, 0, [], 0), (some (.if_icmp .ge 5), 65, 0, [], 0), (none, 63, 0, [], 0)]
  | 63 => [(some (.iload_n 3), 0, 0, [], 0), (some (.istore_n 2), 0, 0, [], 0), (none, 65, 0, [], 0)]
  | 65 => [(some (.iinc 3 1), 0, 0, [], 1), (some (.goto (-64)), 4, 0, [], 0)]
  | 71 => [(some (.iload_n 2), 0, 0, [], 0), (some (.ireturn), 0, 0, [], 0)]
  | _ => []
theorem lb_85_0 : lab_85 0 = [(some (.iconst (-1)), 0, 0, [], (-1)), (some (.istore_n 2), 0, 0, [], 0), (some (.iconst 0), 0, 0, [], 0), (some (.istore_n 3), 0, 0, [], 0), (none, 4, 0, [], 0)] := rfl
theorem lb_85_4 : lab_85 4 = [(some (.iload_n 3), 0, 0, [], 0), (some (.aload_n 0), 0, 0, [], 0), (some (.getfield 98), 8, 1, [], 0), (some (.if_icmp .ge 62), 71, 0, [], 0), (some (.aload_n 0), 0, 0, [], 0), (some (.iload_n 3), 0, 0, [], 0), (some (.invokevirtual 122), 71, 2, [], 0), (some (.ifCond .eq 48), 65, 0, [], 0), (some (.aload_n 0), 0, 0, [], 0), (some (.getfield 23), 8, 6, [], 0), (some (.iload_n 3), 0, 0, [], 0), (some (.baload), 0, 0, [], 0), (some (.ifCond .ne 39), 65, 0, [], 0), (some (.aload_n 0), 0, 0, [], 0), (some (.iload_n 1), 0, 0, [], 0), (some (.aload_n 0), 0, 0, [], 0), (some (.getfield 9), 8, 2, [], 0), (some (.iload_n 3), 0, 0, [], 0), (some (.iaload), 0, 0, [], 0), (some (.invokevirtual 128), 78, 3, [], 0), (some (.ifCond .eq 25), 65, 0, [], 0), (some (.iload_n 2), 0, 0, [], 0), (some (.iconst (-1)), 0, 0, [], (-1)), (some (.if_icmp .eq 18), 63, 0, [], 0), (some (.aload_n 0), 0, 0, [], 0), (some (.getfield 16), 8, 4, [], 0), (some (.iload_n 3), 0, 0, [], 0), (some (.iaload), 0, 0, [], 0), (some (.aload_n 0), 0, 0, [], 0), (some (.getfield 16), 8, 4, [], 0), (some (.iload_n 2), 0, 0, [], 0), (some (.iaload), 0, 0, [], 0), (some (.if_icmp .ge 5), 65, 0, [], 0), (none, 63, 0, [], 0)] := rfl
theorem lb_85_63 : lab_85 63 = [(some (.iload_n 3), 0, 0, [], 0), (some (.istore_n 2), 0, 0, [], 0), (none, 65, 0, [], 0)] := rfl
theorem lb_85_65 : lab_85 65 = [(some (.iinc 3 1), 0, 0, [], 1), (some (.goto (-64)), 4, 0, [], 0)] := rfl
theorem lb_85_71 : lab_85 71 = [(some (.iload_n 2), 0, 0, [], 0), (some (.ireturn), 0, 0, [], 0)] := rfl
set_option maxRecDepth 20000 in
theorem ok_85 : ∀ t, mm_okc (mm_m 85) t (lab_85 t) = true := by
  intro t
  unfold lab_85
  split <;> first | decide +kernel | rfl
/-! X8_there -/
def lab_86 : Nat → List mm_E := fun t => match t with
  | 0 => [(some (.iconst 0), 0, 0, [], 0), (some (.istore_n 2), 0, 0, [], 0), (some (.iconst 0), 0, 0, [], 0), (some (.istore_n 3), 0, 0, [], 0), (none, 4, 0, [], 0)]
  | 4 => [(some (.iload_n 3), 0, 0, [], 0), (some (.aload_n 0), 0, 0, [], 0), (some (.getfield 98), 8, 1, [], 0), (some (.if_icmp .ge 53), 62, 0, [], 0), (some (.iload_n 2), 0, 0, [], 0), (some (.aload_n 0), 0, 0, [], 0), (some (.iload_n 3), 0, 0, [], 0), (some (.invokevirtual 122), 71, 2, [], 0), (some (.ifCond .eq 35), 53, 0, [], 0), (some (.aload_n 0), 0, 0, [], 0), (some (.getfield 23), 8, 6, [], 0), (some (.iload_n 3), 0, 0, [], 0), (some (.baload), 0, 0, [], 0), (some (.ifCond .ne 26), 53, 0, [], 0), (some (.aload_n 0), 0, 0, [], 0), (some (.iload_n 1), 0, 0, [], 0), (some (.aload_n 0), 0, 0, [], 0), (some (.getfield 9), 8, 2, [], 0), (some (.iload_n 3), 0, 0, [], 0), (some (.iaload), 0, 0, [], 0), (some (.invokevirtual 128), 78, 3, [], 0), (some (.ifCond .eq 12), 53, 0, [], 0), (some (.aload_n 0), 0, 0, [], 0), (some (.getfield 13), 8, 3, [], 0), (some (.iload_n 3), 0, 0, [], 0), (some (.iaload), 0, 0, [], 0), (some (.goto 4), 54, 0, [], 0)]
  | 53 => [(some (.iconst 0), 0, 0, [], 0), (none, 54, 0, [], 0)]
  | 54 => [(some (.iadd), 0, 0, [], 0), (some (.istore_n 2), 0, 0, [], 0), (some (.iinc 3 1), 0, 0, [], 1), (some (.goto (-55)), 4, 0, [], 0)]
  | 62 => [(some (.iload_n 2), 0, 0, [], 0), (some (.ireturn), 0, 0, [], 0)]
  | _ => []
theorem lb_86_0 : lab_86 0 = [(some (.iconst 0), 0, 0, [], 0), (some (.istore_n 2), 0, 0, [], 0), (some (.iconst 0), 0, 0, [], 0), (some (.istore_n 3), 0, 0, [], 0), (none, 4, 0, [], 0)] := rfl
theorem lb_86_4 : lab_86 4 = [(some (.iload_n 3), 0, 0, [], 0), (some (.aload_n 0), 0, 0, [], 0), (some (.getfield 98), 8, 1, [], 0), (some (.if_icmp .ge 53), 62, 0, [], 0), (some (.iload_n 2), 0, 0, [], 0), (some (.aload_n 0), 0, 0, [], 0), (some (.iload_n 3), 0, 0, [], 0), (some (.invokevirtual 122), 71, 2, [], 0), (some (.ifCond .eq 35), 53, 0, [], 0), (some (.aload_n 0), 0, 0, [], 0), (some (.getfield 23), 8, 6, [], 0), (some (.iload_n 3), 0, 0, [], 0), (some (.baload), 0, 0, [], 0), (some (.ifCond .ne 26), 53, 0, [], 0), (some (.aload_n 0), 0, 0, [], 0), (some (.iload_n 1), 0, 0, [], 0), (some (.aload_n 0), 0, 0, [], 0), (some (.getfield 9), 8, 2, [], 0), (some (.iload_n 3), 0, 0, [], 0), (some (.iaload), 0, 0, [], 0), (some (.invokevirtual 128), 78, 3, [], 0), (some (.ifCond .eq 12), 53, 0, [], 0), (some (.aload_n 0), 0, 0, [], 0), (some (.getfield 13), 8, 3, [], 0), (some (.iload_n 3), 0, 0, [], 0), (some (.iaload), 0, 0, [], 0), (some (.goto 4), 54, 0, [], 0)] := rfl
theorem lb_86_53 : lab_86 53 = [(some (.iconst 0), 0, 0, [], 0), (none, 54, 0, [], 0)] := rfl
theorem lb_86_54 : lab_86 54 = [(some (.iadd), 0, 0, [], 0), (some (.istore_n 2), 0, 0, [], 0), (some (.iinc 3 1), 0, 0, [], 1), (some (.goto (-55)), 4, 0, [], 0)] := rfl
theorem lb_86_62 : lab_86 62 = [(some (.iload_n 2), 0, 0, [], 0), (some (.ireturn), 0, 0, [], 0)] := rfl
set_option maxRecDepth 20000 in
theorem ok_86 : ∀ t, mm_okc (mm_m 86) t (lab_86 t) = true := by
  intro t
  unfold lab_86
  split <;> first | decide +kernel | rfl
/-! X8_pack -/
def lab_87 : Nat → List mm_E := fun t => match t with
  | 0 => [(some (.iload_n 1), 0, 0, [], 0), (some (.iconst 0), 0, 0, [], 0), (some (.iconst 2), 0, 0, [], 2), (some (.invokestatic 102), 68, 3, [], 0), (some (.ifCond .eq 45), 51, 0, [], 0), (some (.aload_n 0), 0, 0, [], 0), (some (.getfield 38), 8, 13, [], 0), (some (.iload_n 1), 0, 0, [], 0), (some (.iaload), 0, 0, [], 0), (some (.iconst (-1)), 0, 0, [], (-1)), (some (.if_icmp .ne 35), 51, 0, [], 0), (some (.aload_n 0), 0, 0, [], 0), (some (.iload_n 2), 0, 0, [], 0), (some (.invokevirtual 132), 77, 2, [], 0), (some (.ifCond .eq 27), 51, 0, [], 0), (some (.iload_n 3), 0, 0, [], 0), (some (.iconst 1), 0, 0, [], 1), (some (.bipush 50), 0, 0, [], 50), (some (.invokestatic 102), 68, 3, [], 0), (some (.ifCond .eq 17), 51, 0, [], 0), (some (.aload_n 0), 0, 0, [], 0), (some (.getfield 135), 8, 18, [], 0), (some (.aload_n 0), 0, 0, [], 0), (some (.invokevirtual 138), 84, 1, [], 0), (none, 45, 0, [], 0)]
  | 45 => [(some (.iadd), 0, 0, [], 0), (some (.bipush 100), 0, 0, [], 100), (some (.if_icmp .lt 5), 53, 0, [], 0), (none, 51, 0, [], 0)]
  | 51 => [(some (.iconst (-1)), 0, 0, [], (-1)), (some (.ireturn), 0, 0, [], 0)]
  | 53 => [(some (.iload_n 3), 0, 0, [], 0), (some (.aload_n 0), 0, 0, [], 0), (some (.iload_n 2), 0, 0, [], 0), (some (.invokevirtual 142), 79, 2, [], 0), (some (.imul), 0, 0, [], 0), (some (.istore 4), 0, 0, [], 0), (some (.aload_n 0), 0, 0, [], 0), (some (.iload_n 2), 0, 0, [], 0), (some (.invokevirtual 145), 86, 2, [], 0), (some (.iload 4), 0, 0, [], 0), (some (.if_icmp .lt 34), 103, 0, [], 0), (some (.aload_n 0), 0, 0, [], 0), (some (.getfield 32), 8, 10, [], 0), (some (.aload_n 0), 0, 0, [], 0), (some (.iload_n 2), 0, 0, [], 0), (some (.invokevirtual 148), 80, 2, [], 0), (some (.iaload), 0, 0, [], 0), (some (.iload_n 3), 0, 0, [], 0), (some (.if_icmp .lt 20), 103, 0, [], 0), (some (.aload_n 0), 0, 0, [], 0), (some (.getfield 151), 8, 12, [], 0), (some (.iload 4), 0, 0, [], 0), (some (.iadd), 0, 0, [], 0), (some (.bipush 100), 0, 0, [], 100), (some (.aload_n 0), 0, 0, [], 0), (some (.invokevirtual 154), 83, 1, [], 0), (some (.imul), 0, 0, [], 0), (some (.if_icmp .le 5), 105, 0, [], 0), (none, 103, 0, [], 0)]
  | 103 => [(some (.iconst (-1)), 0, 0, [], (-1)), (some (.ireturn), 0, 0, [], 0)]
  | 105 => [(some (.aload_n 0), 0, 0, [], 0), (some (.getfield 32), 8, 10, [], 0), (some (.aload_n 0), 0, 0, [], 0), (some (.iload_n 2), 0, 0, [], 0), (some (.invokevirtual 148), 80, 2, [], 0), (some (.dup2), 0, 0, [], 0), (some (.iaload), 0, 0, [], 0), (some (.iload_n 3), 0, 0, [], 0), (some (.isub), 0, 0, [], 0), (some (.iastore), 0, 0, [], 0), (some (.aload_n 0), 0, 0, [], 0), (some (.dup), 0, 0, [], 0), (some (.getfield 151), 8, 12, [], 0), (some (.iload 4), 0, 0, [], 0), (some (.iadd), 0, 0, [], 0), (some (.putfield 151), 8, 12, [], 0), (some (.iconst 0), 0, 0, [], 0), (some (.istore 5), 0, 0, [], 0), (none, 133, 0, [], 0)]
  | 133 => [(some (.iload 5), 0, 0, [], 0), (some (.bipush 60), 0, 0, [], 60), (some (.if_icmp .ge 22), 159, 0, [], 0), (some (.aload_n 0), 0, 0, [], 0), (some (.getfield 47), 8, 16, [], 0), (some (.bipush 60), 0, 0, [], 60), (some (.iload_n 1), 0, 0, [], 0), (some (.imul), 0, 0, [], 0), (some (.iload 5), 0, 0, [], 0), (some (.iadd), 0, 0, [], 0), (some (.iconst 0), 0, 0, [], 0), (some (.iastore), 0, 0, [], 0), (some (.iinc 5 1), 0, 0, [], 1), (some (.goto (-23)), 133, 0, [], 0)]
  | 159 => [(some (.iload 4), 0, 0, [], 0), (some (.istore 5), 0, 0, [], 0), (none, 163, 0, [], 0)]
  | 163 => [(some (.iload 5), 0, 0, [], 0), (some (.ifCond .le 75), 240, 0, [], 0), (some (.aload_n 0), 0, 0, [], 0), (some (.iload_n 2), 0, 0, [], 0), (some (.invokevirtual 157), 85, 2, [], 0), (some (.istore 6), 0, 0, [], 0), (some (.aload_n 0), 0, 0, [], 0), (some (.getfield 13), 8, 3, [], 0), (some (.iload 6), 0, 0, [], 0), (some (.iaload), 0, 0, [], 0), (some (.iload 5), 0, 0, [], 0), (some (.if_icmp .ge 13), 197, 0, [], 0), (some (.aload_n 0), 0, 0, [], 0), (some (.getfield 13), 8, 3, [], 0), (some (.iload 6), 0, 0, [], 0), (some (.iaload), 0, 0, [], 0), (some (.goto 5), 199, 0, [], 0)]
  | 197 => [(some (.iload 5), 0, 0, [], 0), (none, 199, 0, [], 0)]
  | 199 => [(some (.istore 7), 0, 0, [], 0), (some (.aload_n 0), 0, 0, [], 0), (some (.getfield 13), 8, 3, [], 0), (some (.iload 6), 0, 0, [], 0), (some (.dup2), 0, 0, [], 0), (some (.iaload), 0, 0, [], 0), (some (.iload 7), 0, 0, [], 0), (some (.isub), 0, 0, [], 0), (some (.iastore), 0, 0, [], 0), (some (.aload_n 0), 0, 0, [], 0), (some (.getfield 47), 8, 16, [], 0), (some (.bipush 60), 0, 0, [], 60), (some (.iload_n 1), 0, 0, [], 0), (some (.imul), 0, 0, [], 0), (some (.iload 6), 0, 0, [], 0), (some (.iadd), 0, 0, [], 0), (some (.dup2), 0, 0, [], 0), (some (.iaload), 0, 0, [], 0), (some (.iload 7), 0, 0, [], 0), (some (.iadd), 0, 0, [], 0), (some (.iastore), 0, 0, [], 0), (some (.iload 5), 0, 0, [], 0), (some (.iload 7), 0, 0, [], 0), (some (.isub), 0, 0, [], 0), (some (.istore 5), 0, 0, [], 0), (some (.goto (-74)), 163, 0, [], 0)]
  | 240 => [(some (.aload_n 0), 0, 0, [], 0), (some (.getfield 38), 8, 13, [], 0), (some (.iload_n 1), 0, 0, [], 0), (some (.iload_n 2), 0, 0, [], 0), (some (.iastore), 0, 0, [], 0), (some (.aload_n 0), 0, 0, [], 0), (some (.getfield 41), 8, 14, [], 0), (some (.iload_n 1), 0, 0, [], 0), (some (.iload_n 3), 0, 0, [], 0), (some (.iastore), 0, 0, [], 0), (some (.aload_n 0), 0, 0, [], 0), (some (.getfield 44), 8, 15, [], 0), (some (.iload_n 1), 0, 0, [], 0), (some (.aload_n 0), 0, 0, [], 0), (some (.getfield 106), 8, 0, [], 0), (some (.aload_n 0), 0, 0, [], 0), (some (.getfield 26), 8, 8, [], 0), (some (.iload_n 2), 0, 0, [], 0), (some (.iaload), 0, 0, [], 0), (some (.bipush 10), 0, 0, [], 10), (some (.irem), 0, 0, [], 0), (some (.iadd), 0, 0, [], 0), (some (.iastore), 0, 0, [], 0), (some (.iload 4), 0, 0, [], 0), (some (.ireturn), 0, 0, [], 0)]
  | _ => []
theorem lb_87_0 : lab_87 0 = [(some (.iload_n 1), 0, 0, [], 0), (some (.iconst 0), 0, 0, [], 0), (some (.iconst 2), 0, 0, [], 2), (some (.invokestatic 102), 68, 3, [], 0), (some (.ifCond .eq 45), 51, 0, [], 0), (some (.aload_n 0), 0, 0, [], 0), (some (.getfield 38), 8, 13, [], 0), (some (.iload_n 1), 0, 0, [], 0), (some (.iaload), 0, 0, [], 0), (some (.iconst (-1)), 0, 0, [], (-1)), (some (.if_icmp .ne 35), 51, 0, [], 0), (some (.aload_n 0), 0, 0, [], 0), (some (.iload_n 2), 0, 0, [], 0), (some (.invokevirtual 132), 77, 2, [], 0), (some (.ifCond .eq 27), 51, 0, [], 0), (some (.iload_n 3), 0, 0, [], 0), (some (.iconst 1), 0, 0, [], 1), (some (.bipush 50), 0, 0, [], 50), (some (.invokestatic 102), 68, 3, [], 0), (some (.ifCond .eq 17), 51, 0, [], 0), (some (.aload_n 0), 0, 0, [], 0), (some (.getfield 135), 8, 18, [], 0), (some (.aload_n 0), 0, 0, [], 0), (some (.invokevirtual 138), 84, 1, [], 0), (none, 45, 0, [], 0)] := rfl
theorem lb_87_45 : lab_87 45 = [(some (.iadd), 0, 0, [], 0), (some (.bipush 100), 0, 0, [], 100), (some (.if_icmp .lt 5), 53, 0, [], 0), (none, 51, 0, [], 0)] := rfl
theorem lb_87_51 : lab_87 51 = [(some (.iconst (-1)), 0, 0, [], (-1)), (some (.ireturn), 0, 0, [], 0)] := rfl
theorem lb_87_53 : lab_87 53 = [(some (.iload_n 3), 0, 0, [], 0), (some (.aload_n 0), 0, 0, [], 0), (some (.iload_n 2), 0, 0, [], 0), (some (.invokevirtual 142), 79, 2, [], 0), (some (.imul), 0, 0, [], 0), (some (.istore 4), 0, 0, [], 0), (some (.aload_n 0), 0, 0, [], 0), (some (.iload_n 2), 0, 0, [], 0), (some (.invokevirtual 145), 86, 2, [], 0), (some (.iload 4), 0, 0, [], 0), (some (.if_icmp .lt 34), 103, 0, [], 0), (some (.aload_n 0), 0, 0, [], 0), (some (.getfield 32), 8, 10, [], 0), (some (.aload_n 0), 0, 0, [], 0), (some (.iload_n 2), 0, 0, [], 0), (some (.invokevirtual 148), 80, 2, [], 0), (some (.iaload), 0, 0, [], 0), (some (.iload_n 3), 0, 0, [], 0), (some (.if_icmp .lt 20), 103, 0, [], 0), (some (.aload_n 0), 0, 0, [], 0), (some (.getfield 151), 8, 12, [], 0), (some (.iload 4), 0, 0, [], 0), (some (.iadd), 0, 0, [], 0), (some (.bipush 100), 0, 0, [], 100), (some (.aload_n 0), 0, 0, [], 0), (some (.invokevirtual 154), 83, 1, [], 0), (some (.imul), 0, 0, [], 0), (some (.if_icmp .le 5), 105, 0, [], 0), (none, 103, 0, [], 0)] := rfl
theorem lb_87_103 : lab_87 103 = [(some (.iconst (-1)), 0, 0, [], (-1)), (some (.ireturn), 0, 0, [], 0)] := rfl
theorem lb_87_105 : lab_87 105 = [(some (.aload_n 0), 0, 0, [], 0), (some (.getfield 32), 8, 10, [], 0), (some (.aload_n 0), 0, 0, [], 0), (some (.iload_n 2), 0, 0, [], 0), (some (.invokevirtual 148), 80, 2, [], 0), (some (.dup2), 0, 0, [], 0), (some (.iaload), 0, 0, [], 0), (some (.iload_n 3), 0, 0, [], 0), (some (.isub), 0, 0, [], 0), (some (.iastore), 0, 0, [], 0), (some (.aload_n 0), 0, 0, [], 0), (some (.dup), 0, 0, [], 0), (some (.getfield 151), 8, 12, [], 0), (some (.iload 4), 0, 0, [], 0), (some (.iadd), 0, 0, [], 0), (some (.putfield 151), 8, 12, [], 0), (some (.iconst 0), 0, 0, [], 0), (some (.istore 5), 0, 0, [], 0), (none, 133, 0, [], 0)] := rfl
theorem lb_87_133 : lab_87 133 = [(some (.iload 5), 0, 0, [], 0), (some (.bipush 60), 0, 0, [], 60), (some (.if_icmp .ge 22), 159, 0, [], 0), (some (.aload_n 0), 0, 0, [], 0), (some (.getfield 47), 8, 16, [], 0), (some (.bipush 60), 0, 0, [], 60), (some (.iload_n 1), 0, 0, [], 0), (some (.imul), 0, 0, [], 0), (some (.iload 5), 0, 0, [], 0), (some (.iadd), 0, 0, [], 0), (some (.iconst 0), 0, 0, [], 0), (some (.iastore), 0, 0, [], 0), (some (.iinc 5 1), 0, 0, [], 1), (some (.goto (-23)), 133, 0, [], 0)] := rfl
theorem lb_87_159 : lab_87 159 = [(some (.iload 4), 0, 0, [], 0), (some (.istore 5), 0, 0, [], 0), (none, 163, 0, [], 0)] := rfl
theorem lb_87_163 : lab_87 163 = [(some (.iload 5), 0, 0, [], 0), (some (.ifCond .le 75), 240, 0, [], 0), (some (.aload_n 0), 0, 0, [], 0), (some (.iload_n 2), 0, 0, [], 0), (some (.invokevirtual 157), 85, 2, [], 0), (some (.istore 6), 0, 0, [], 0), (some (.aload_n 0), 0, 0, [], 0), (some (.getfield 13), 8, 3, [], 0), (some (.iload 6), 0, 0, [], 0), (some (.iaload), 0, 0, [], 0), (some (.iload 5), 0, 0, [], 0), (some (.if_icmp .ge 13), 197, 0, [], 0), (some (.aload_n 0), 0, 0, [], 0), (some (.getfield 13), 8, 3, [], 0), (some (.iload 6), 0, 0, [], 0), (some (.iaload), 0, 0, [], 0), (some (.goto 5), 199, 0, [], 0)] := rfl
theorem lb_87_197 : lab_87 197 = [(some (.iload 5), 0, 0, [], 0), (none, 199, 0, [], 0)] := rfl
theorem lb_87_199 : lab_87 199 = [(some (.istore 7), 0, 0, [], 0), (some (.aload_n 0), 0, 0, [], 0), (some (.getfield 13), 8, 3, [], 0), (some (.iload 6), 0, 0, [], 0), (some (.dup2), 0, 0, [], 0), (some (.iaload), 0, 0, [], 0), (some (.iload 7), 0, 0, [], 0), (some (.isub), 0, 0, [], 0), (some (.iastore), 0, 0, [], 0), (some (.aload_n 0), 0, 0, [], 0), (some (.getfield 47), 8, 16, [], 0), (some (.bipush 60), 0, 0, [], 60), (some (.iload_n 1), 0, 0, [], 0), (some (.imul), 0, 0, [], 0), (some (.iload 6), 0, 0, [], 0), (some (.iadd), 0, 0, [], 0), (some (.dup2), 0, 0, [], 0), (some (.iaload), 0, 0, [], 0), (some (.iload 7), 0, 0, [], 0), (some (.iadd), 0, 0, [], 0), (some (.iastore), 0, 0, [], 0), (some (.iload 5), 0, 0, [], 0), (some (.iload 7), 0, 0, [], 0), (some (.isub), 0, 0, [], 0), (some (.istore 5), 0, 0, [], 0), (some (.goto (-74)), 163, 0, [], 0)] := rfl
theorem lb_87_240 : lab_87 240 = [(some (.aload_n 0), 0, 0, [], 0), (some (.getfield 38), 8, 13, [], 0), (some (.iload_n 1), 0, 0, [], 0), (some (.iload_n 2), 0, 0, [], 0), (some (.iastore), 0, 0, [], 0), (some (.aload_n 0), 0, 0, [], 0), (some (.getfield 41), 8, 14, [], 0), (some (.iload_n 1), 0, 0, [], 0), (some (.iload_n 3), 0, 0, [], 0), (some (.iastore), 0, 0, [], 0), (some (.aload_n 0), 0, 0, [], 0), (some (.getfield 44), 8, 15, [], 0), (some (.iload_n 1), 0, 0, [], 0), (some (.aload_n 0), 0, 0, [], 0), (some (.getfield 106), 8, 0, [], 0), (some (.aload_n 0), 0, 0, [], 0), (some (.getfield 26), 8, 8, [], 0), (some (.iload_n 2), 0, 0, [], 0), (some (.iaload), 0, 0, [], 0), (some (.bipush 10), 0, 0, [], 10), (some (.irem), 0, 0, [], 0), (some (.iadd), 0, 0, [], 0), (some (.iastore), 0, 0, [], 0), (some (.iload 4), 0, 0, [], 0), (some (.ireturn), 0, 0, [], 0)] := rfl
set_option maxRecDepth 20000 in
theorem ok_87 : ∀ t, mm_okc (mm_m 87) t (lab_87 t) = true := by
  intro t
  unfold lab_87
  split <;> first | decide +kernel | rfl
/-! X8_kilogramsIn -/
def lab_88 : Nat → List mm_E := fun t => match t with
  | 0 => [(some (.iconst 0), 0, 0, [], 0), (some (.istore_n 2), 0, 0, [], 0), (some (.iconst 0), 0, 0, [], 0), (some (.istore_n 3), 0, 0, [], 0), (none, 4, 0, [], 0)]
  | 4 => [(some (.iload_n 3), 0, 0, [], 0), (some (.bipush 60), 0, 0, [], 60), (some (.if_icmp .ge 33), 40, 0, [], 0), (some (.aload_n 0), 0, 0, [], 0), (some (.getfield 38), 8, 13, [], 0), (some (.iload_n 1), 0, 0, [], 0), (some (.iaload), 0, 0, [], 0), (some (.iconst (-1)), 0, 0, [], (-1)), (some (.if_icmp .eq 23), 40, 0, [], 0), (some (.iload_n 2), 0, 0, [], 0), (some (.aload_n 0), 0, 0, [], 0), (some (.getfield 47), 8, 16, [], 0), (some (.bipush 60), 0, 0, [], 60), (some (.iload_n 1), 0, 0, [], 0), (some (.imul), 0, 0, [], 0), (some (.iload_n 3), 0, 0, [], 0), (some (.iadd), 0, 0, [], 0), (some (.iaload), 0, 0, [], 0), (some (.iadd), 0, 0, [], 0), (some (.istore_n 2), 0, 0, [], 0), (some (.iinc 3 1), 0, 0, [], 1), (some (.goto (-33)), 4, 0, [], 0)]
  | 40 => [(some (.iload_n 2), 0, 0, [], 0), (some (.ireturn), 0, 0, [], 0)]
  | _ => []
theorem lb_88_0 : lab_88 0 = [(some (.iconst 0), 0, 0, [], 0), (some (.istore_n 2), 0, 0, [], 0), (some (.iconst 0), 0, 0, [], 0), (some (.istore_n 3), 0, 0, [], 0), (none, 4, 0, [], 0)] := rfl
theorem lb_88_4 : lab_88 4 = [(some (.iload_n 3), 0, 0, [], 0), (some (.bipush 60), 0, 0, [], 60), (some (.if_icmp .ge 33), 40, 0, [], 0), (some (.aload_n 0), 0, 0, [], 0), (some (.getfield 38), 8, 13, [], 0), (some (.iload_n 1), 0, 0, [], 0), (some (.iaload), 0, 0, [], 0), (some (.iconst (-1)), 0, 0, [], (-1)), (some (.if_icmp .eq 23), 40, 0, [], 0), (some (.iload_n 2), 0, 0, [], 0), (some (.aload_n 0), 0, 0, [], 0), (some (.getfield 47), 8, 16, [], 0), (some (.bipush 60), 0, 0, [], 60), (some (.iload_n 1), 0, 0, [], 0), (some (.imul), 0, 0, [], 0), (some (.iload_n 3), 0, 0, [], 0), (some (.iadd), 0, 0, [], 0), (some (.iaload), 0, 0, [], 0), (some (.iadd), 0, 0, [], 0), (some (.istore_n 2), 0, 0, [], 0), (some (.iinc 3 1), 0, 0, [], 1), (some (.goto (-33)), 4, 0, [], 0)] := rfl
theorem lb_88_40 : lab_88 40 = [(some (.iload_n 2), 0, 0, [], 0), (some (.ireturn), 0, 0, [], 0)] := rfl
set_option maxRecDepth 20000 in
theorem ok_88 : ∀ t, mm_okc (mm_m 88) t (lab_88 t) = true := by
  intro t
  unfold lab_88
  split <;> first | decide +kernel | rfl
/-! X8_fail -/
def lab_89 : Nat → List mm_E := fun t => match t with
  | 0 => [(some (.iload_n 1), 0, 0, [], 0), (some (.iconst 0), 0, 0, [], 0), (some (.iconst 2), 0, 0, [], 2), (some (.invokestatic 102), 68, 3, [], 0), (some (.ifCond .eq 13), 19, 0, [], 0), (some (.aload_n 0), 0, 0, [], 0), (some (.getfield 38), 8, 13, [], 0), (some (.iload_n 1), 0, 0, [], 0), (some (.iaload), 0, 0, [], 0), (some (.iconst (-1)), 0, 0, [], (-1)), (some (.if_icmp .ne 5), 21, 0, [], 0), (none, 19, 0, [], 0)]
  | 19 => [(some (.iconst (-1)), 0, 0, [], (-1)), (some (.ireturn), 0, 0, [], 0)]
  | 21 => [(some (.aload_n 0), 0, 0, [], 0), (some (.iload_n 1), 0, 0, [], 0), (some (.invokevirtual 160), 88, 2, [], 0), (some (.istore_n 2), 0, 0, [], 0), (some (.aload_n 0), 0, 0, [], 0), (some (.dup), 0, 0, [], 0), (some (.getfield 163), 8, 17, [], 0), (some (.iload_n 2), 0, 0, [], 0), (some (.iadd), 0, 0, [], 0), (some (.putfield 163), 8, 17, [], 0), (some (.aload_n 0), 0, 0, [], 0), (some (.getfield 38), 8, 13, [], 0), (some (.iload_n 1), 0, 0, [], 0), (some (.iconst (-1)), 0, 0, [], (-1)), (some (.iastore), 0, 0, [], 0), (some (.iload_n 2), 0, 0, [], 0), (some (.ireturn), 0, 0, [], 0)]
  | _ => []
theorem lb_89_0 : lab_89 0 = [(some (.iload_n 1), 0, 0, [], 0), (some (.iconst 0), 0, 0, [], 0), (some (.iconst 2), 0, 0, [], 2), (some (.invokestatic 102), 68, 3, [], 0), (some (.ifCond .eq 13), 19, 0, [], 0), (some (.aload_n 0), 0, 0, [], 0), (some (.getfield 38), 8, 13, [], 0), (some (.iload_n 1), 0, 0, [], 0), (some (.iaload), 0, 0, [], 0), (some (.iconst (-1)), 0, 0, [], (-1)), (some (.if_icmp .ne 5), 21, 0, [], 0), (none, 19, 0, [], 0)] := rfl
theorem lb_89_19 : lab_89 19 = [(some (.iconst (-1)), 0, 0, [], (-1)), (some (.ireturn), 0, 0, [], 0)] := rfl
theorem lb_89_21 : lab_89 21 = [(some (.aload_n 0), 0, 0, [], 0), (some (.iload_n 1), 0, 0, [], 0), (some (.invokevirtual 160), 88, 2, [], 0), (some (.istore_n 2), 0, 0, [], 0), (some (.aload_n 0), 0, 0, [], 0), (some (.dup), 0, 0, [], 0), (some (.getfield 163), 8, 17, [], 0), (some (.iload_n 2), 0, 0, [], 0), (some (.iadd), 0, 0, [], 0), (some (.putfield 163), 8, 17, [], 0), (some (.aload_n 0), 0, 0, [], 0), (some (.getfield 38), 8, 13, [], 0), (some (.iload_n 1), 0, 0, [], 0), (some (.iconst (-1)), 0, 0, [], (-1)), (some (.iastore), 0, 0, [], 0), (some (.iload_n 2), 0, 0, [], 0), (some (.ireturn), 0, 0, [], 0)] := rfl
set_option maxRecDepth 20000 in
theorem ok_89 : ∀ t, mm_okc (mm_m 89) t (lab_89 t) = true := by
  intro t
  unfold lab_89
  split <;> first | decide +kernel | rfl
/-! X8_done -/
def lab_90 : Nat → List mm_E := fun t => match t with
  | 0 => [(some (.aload_n 0), 0, 0, [], 0), (some (.getfield 50), 8, 19, [], 0), (some (.aload_n 0), 0, 0, [], 0), (some (.getfield 135), 8, 18, [], 0), (some (.aload_n 0), 0, 0, [], 0), (some (.getfield 38), 8, 13, [], 0), (some (.iload_n 1), 0, 0, [], 0), (some (.iaload), 0, 0, [], 0), (some (.iastore), 0, 0, [], 0), (some (.aload_n 0), 0, 0, [], 0), (some (.getfield 53), 8, 20, [], 0), (some (.aload_n 0), 0, 0, [], 0), (some (.getfield 135), 8, 18, [], 0), (some (.aload_n 0), 0, 0, [], 0), (some (.getfield 41), 8, 14, [], 0), (some (.iload_n 1), 0, 0, [], 0), (some (.iaload), 0, 0, [], 0), (some (.iastore), 0, 0, [], 0), (some (.aload_n 0), 0, 0, [], 0), (some (.getfield 56), 8, 21, [], 0), (some (.aload_n 0), 0, 0, [], 0), (some (.getfield 135), 8, 18, [], 0), (some (.aload_n 0), 0, 0, [], 0), (some (.getfield 41), 8, 14, [], 0), (some (.iload_n 1), 0, 0, [], 0), (some (.iaload), 0, 0, [], 0), (some (.iastore), 0, 0, [], 0), (some (.aload_n 0), 0, 0, [], 0), (some (.getfield 59), 8, 22, [], 0), (some (.aload_n 0), 0, 0, [], 0), (some (.getfield 135), 8, 18, [], 0), (some (.aload_n 0), 0, 0, [], 0), (some (.getfield 106), 8, 0, [], 0), (some (.iastore), 0, 0, [], 0), (some (.iconst 0), 0, 0, [], 0), (some (.istore_n 2), 0, 0, [], 0), (none, 60, 0, [], 0)]
  | 60 => [(some (.iload_n 2), 0, 0, [], 0), (some (.bipush 60), 0, 0, [], 60), (some (.if_icmp .ge 59), 122, 0, [], 0), (some (.aload_n 0), 0, 0, [], 0), (some (.getfield 47), 8, 16, [], 0), (some (.bipush 60), 0, 0, [], 60), (some (.iload_n 1), 0, 0, [], 0), (some (.imul), 0, 0, [], 0), (some (.iload_n 2), 0, 0, [], 0), (some (.iadd), 0, 0, [], 0), (some (.iaload), 0, 0, [], 0), (some (.istore_n 3), 0, 0, [], 0), (some (.aload_n 0), 0, 0, [], 0), (some (.getfield 68), 8, 25, [], 0), (some (.bipush 60), 0, 0, [], 60), (some (.aload_n 0), 0, 0, [], 0), (some (.getfield 135), 8, 18, [], 0), (some (.imul), 0, 0, [], 0), (some (.iload_n 2), 0, 0, [], 0), (some (.iadd), 0, 0, [], 0), (some (.iload_n 3), 0, 0, [], 0), (some (.iastore), 0, 0, [], 0), (some (.iload_n 3), 0, 0, [], 0), (some (.ifCond .le 22), 116, 0, [], 0), (some (.aload_n 0), 0, 0, [], 0), (some (.getfield 23), 8, 6, [], 0), (some (.iload_n 2), 0, 0, [], 0), (some (.baload), 0, 0, [], 0), (some (.ifCond .eq 13), 116, 0, [], 0), (some (.aload_n 0), 0, 0, [], 0), (some (.getfield 62), 8, 23, [], 0), (some (.aload_n 0), 0, 0, [], 0), (some (.getfield 135), 8, 18, [], 0), (some (.iconst 1), 0, 0, [], 1), (some (.bastore), 0, 0, [], 0), (none, 116, 0, [], 0)]
  | 116 => [(some (.iinc 2 1), 0, 0, [], 1), (some (.goto (-59)), 60, 0, [], 0)]
  | 122 => [(some (.aload_n 0), 0, 0, [], 0), (some (.getfield 38), 8, 13, [], 0), (some (.iload_n 1), 0, 0, [], 0), (some (.iconst (-1)), 0, 0, [], (-1)), (some (.iastore), 0, 0, [], 0), (some (.aload_n 0), 0, 0, [], 0), (some (.dup), 0, 0, [], 0), (some (.getfield 135), 8, 18, [], 0), (some (.iconst 1), 0, 0, [], 1), (some (.iadd), 0, 0, [], 0), (some (.putfield 135), 8, 18, [], 0), (some (.return_), 0, 0, [], 0)]
  | _ => []
theorem lb_90_0 : lab_90 0 = [(some (.aload_n 0), 0, 0, [], 0), (some (.getfield 50), 8, 19, [], 0), (some (.aload_n 0), 0, 0, [], 0), (some (.getfield 135), 8, 18, [], 0), (some (.aload_n 0), 0, 0, [], 0), (some (.getfield 38), 8, 13, [], 0), (some (.iload_n 1), 0, 0, [], 0), (some (.iaload), 0, 0, [], 0), (some (.iastore), 0, 0, [], 0), (some (.aload_n 0), 0, 0, [], 0), (some (.getfield 53), 8, 20, [], 0), (some (.aload_n 0), 0, 0, [], 0), (some (.getfield 135), 8, 18, [], 0), (some (.aload_n 0), 0, 0, [], 0), (some (.getfield 41), 8, 14, [], 0), (some (.iload_n 1), 0, 0, [], 0), (some (.iaload), 0, 0, [], 0), (some (.iastore), 0, 0, [], 0), (some (.aload_n 0), 0, 0, [], 0), (some (.getfield 56), 8, 21, [], 0), (some (.aload_n 0), 0, 0, [], 0), (some (.getfield 135), 8, 18, [], 0), (some (.aload_n 0), 0, 0, [], 0), (some (.getfield 41), 8, 14, [], 0), (some (.iload_n 1), 0, 0, [], 0), (some (.iaload), 0, 0, [], 0), (some (.iastore), 0, 0, [], 0), (some (.aload_n 0), 0, 0, [], 0), (some (.getfield 59), 8, 22, [], 0), (some (.aload_n 0), 0, 0, [], 0), (some (.getfield 135), 8, 18, [], 0), (some (.aload_n 0), 0, 0, [], 0), (some (.getfield 106), 8, 0, [], 0), (some (.iastore), 0, 0, [], 0), (some (.iconst 0), 0, 0, [], 0), (some (.istore_n 2), 0, 0, [], 0), (none, 60, 0, [], 0)] := rfl
theorem lb_90_60 : lab_90 60 = [(some (.iload_n 2), 0, 0, [], 0), (some (.bipush 60), 0, 0, [], 60), (some (.if_icmp .ge 59), 122, 0, [], 0), (some (.aload_n 0), 0, 0, [], 0), (some (.getfield 47), 8, 16, [], 0), (some (.bipush 60), 0, 0, [], 60), (some (.iload_n 1), 0, 0, [], 0), (some (.imul), 0, 0, [], 0), (some (.iload_n 2), 0, 0, [], 0), (some (.iadd), 0, 0, [], 0), (some (.iaload), 0, 0, [], 0), (some (.istore_n 3), 0, 0, [], 0), (some (.aload_n 0), 0, 0, [], 0), (some (.getfield 68), 8, 25, [], 0), (some (.bipush 60), 0, 0, [], 60), (some (.aload_n 0), 0, 0, [], 0), (some (.getfield 135), 8, 18, [], 0), (some (.imul), 0, 0, [], 0), (some (.iload_n 2), 0, 0, [], 0), (some (.iadd), 0, 0, [], 0), (some (.iload_n 3), 0, 0, [], 0), (some (.iastore), 0, 0, [], 0), (some (.iload_n 3), 0, 0, [], 0), (some (.ifCond .le 22), 116, 0, [], 0), (some (.aload_n 0), 0, 0, [], 0), (some (.getfield 23), 8, 6, [], 0), (some (.iload_n 2), 0, 0, [], 0), (some (.baload), 0, 0, [], 0), (some (.ifCond .eq 13), 116, 0, [], 0), (some (.aload_n 0), 0, 0, [], 0), (some (.getfield 62), 8, 23, [], 0), (some (.aload_n 0), 0, 0, [], 0), (some (.getfield 135), 8, 18, [], 0), (some (.iconst 1), 0, 0, [], 1), (some (.bastore), 0, 0, [], 0), (none, 116, 0, [], 0)] := rfl
theorem lb_90_116 : lab_90 116 = [(some (.iinc 2 1), 0, 0, [], 1), (some (.goto (-59)), 60, 0, [], 0)] := rfl
theorem lb_90_122 : lab_90 122 = [(some (.aload_n 0), 0, 0, [], 0), (some (.getfield 38), 8, 13, [], 0), (some (.iload_n 1), 0, 0, [], 0), (some (.iconst (-1)), 0, 0, [], (-1)), (some (.iastore), 0, 0, [], 0), (some (.aload_n 0), 0, 0, [], 0), (some (.dup), 0, 0, [], 0), (some (.getfield 135), 8, 18, [], 0), (some (.iconst 1), 0, 0, [], 1), (some (.iadd), 0, 0, [], 0), (some (.putfield 135), 8, 18, [], 0), (some (.return_), 0, 0, [], 0)] := rfl
set_option maxRecDepth 20000 in
theorem ok_90 : ∀ t, mm_okc (mm_m 90) t (lab_90 t) = true := by
  intro t
  unfold lab_90
  split <;> first | decide +kernel | rfl
/-! X8_go -/
def lab_91 : Nat → List mm_E := fun t => match t with
  | 0 => [(some (.iload_n 1), 0, 0, [], 0), (some (.iconst 0), 0, 0, [], 0), (some (.sipush 400), 0, 0, [], 400), (some (.invokestatic 102), 68, 3, [], 0), (some (.ifCond .ne 5), 13, 0, [], 0), (some (.iconst (-1)), 0, 0, [], (-1)), (some (.ireturn), 0, 0, [], 0)]
  | 13 => [(some (.iconst 0), 0, 0, [], 0), (some (.istore_n 2), 0, 0, [], 0), (none, 15, 0, [], 0)]
  | 15 => [(some (.iload_n 2), 0, 0, [], 0), (some (.iload_n 1), 0, 0, [], 0), (some (.if_icmp .ge 23), 40, 0, [], 0), (some (.aload_n 0), 0, 0, [], 0), (some (.getfield 106), 8, 0, [], 0), (some (.sipush 5000), 0, 0, [], 5000), (some (.if_icmp .ge 13), 40, 0, [], 0), (some (.aload_n 0), 0, 0, [], 0), (some (.invokevirtual 166), 92, 1, [], 0), (some (.iinc 2 1), 0, 0, [], 1), (some (.goto (-22)), 15, 0, [], 0)]
  | 40 => [(some (.aload_n 0), 0, 0, [], 0), (some (.getfield 106), 8, 0, [], 0), (some (.ireturn), 0, 0, [], 0)]
  | _ => []
theorem lb_91_0 : lab_91 0 = [(some (.iload_n 1), 0, 0, [], 0), (some (.iconst 0), 0, 0, [], 0), (some (.sipush 400), 0, 0, [], 400), (some (.invokestatic 102), 68, 3, [], 0), (some (.ifCond .ne 5), 13, 0, [], 0), (some (.iconst (-1)), 0, 0, [], (-1)), (some (.ireturn), 0, 0, [], 0)] := rfl
theorem lb_91_13 : lab_91 13 = [(some (.iconst 0), 0, 0, [], 0), (some (.istore_n 2), 0, 0, [], 0), (none, 15, 0, [], 0)] := rfl
theorem lb_91_15 : lab_91 15 = [(some (.iload_n 2), 0, 0, [], 0), (some (.iload_n 1), 0, 0, [], 0), (some (.if_icmp .ge 23), 40, 0, [], 0), (some (.aload_n 0), 0, 0, [], 0), (some (.getfield 106), 8, 0, [], 0), (some (.sipush 5000), 0, 0, [], 5000), (some (.if_icmp .ge 13), 40, 0, [], 0), (some (.aload_n 0), 0, 0, [], 0), (some (.invokevirtual 166), 92, 1, [], 0), (some (.iinc 2 1), 0, 0, [], 1), (some (.goto (-22)), 15, 0, [], 0)] := rfl
theorem lb_91_40 : lab_91 40 = [(some (.aload_n 0), 0, 0, [], 0), (some (.getfield 106), 8, 0, [], 0), (some (.ireturn), 0, 0, [], 0)] := rfl
set_option maxRecDepth 20000 in
theorem ok_91 : ∀ t, mm_okc (mm_m 91) t (lab_91 t) = true := by
  intro t
  unfold lab_91
  split <;> first | decide +kernel | rfl
/-! X8_hour -/
def lab_92 : Nat → List mm_E := fun t => match t with
  | 0 => [(some (.aload_n 0), 0, 0, [], 0), (some (.dup), 0, 0, [], 0), (some (.getfield 106), 8, 0, [], 0), (some (.iconst 1), 0, 0, [], 1), (some (.iadd), 0, 0, [], 0), (some (.putfield 106), 8, 0, [], 0), (some (.aload_n 0), 0, 0, [], 0), (some (.iconst 0), 0, 0, [], 0), (some (.putfield 151), 8, 12, [], 0), (some (.iconst 0), 0, 0, [], 0), (some (.istore_n 1), 0, 0, [], 0), (none, 17, 0, [], 0)]
  | 17 => [(some (.iload_n 1), 0, 0, [], 0), (some (.iconst 3), 0, 0, [], 3), (some (.if_icmp .ge 37), 56, 0, [], 0), (some (.aload_n 0), 0, 0, [], 0), (some (.getfield 38), 8, 13, [], 0), (some (.iload_n 1), 0, 0, [], 0), (some (.iaload), 0, 0, [], 0), (some (.iconst (-1)), 0, 0, [], (-1)), (some (.if_icmp .eq 21), 50, 0, [], 0), (some (.aload_n 0), 0, 0, [], 0), (some (.getfield 44), 8, 15, [], 0), (some (.iload_n 1), 0, 0, [], 0), (some (.iaload), 0, 0, [], 0), (some (.aload_n 0), 0, 0, [], 0), (some (.getfield 106), 8, 0, [], 0), (some (.if_icmp .ne 8), 50, 0, [], 0), (some (.aload_n 0), 0, 0, [], 0), (some (.iload_n 1), 0, 0, [], 0), (some (.invokevirtual 169), 90, 2, [], 0), (none, 50, 0, [], 0)]
  | 50 => [(some (.iinc 1 1), 0, 0, [], 1), (some (.goto (-36)), 17, 0, [], 0)]
  | 56 => [(some (.iconst 0), 0, 0, [], 0), (some (.istore_n 1), 0, 0, [], 0), (none, 58, 0, [], 0)]
  | 58 => [(some (.iload_n 1), 0, 0, [], 0), (some (.aload_n 0), 0, 0, [], 0), (some (.getfield 98), 8, 1, [], 0), (some (.if_icmp .ge 46), 109, 0, [], 0), (some (.aload_n 0), 0, 0, [], 0), (some (.getfield 106), 8, 0, [], 0), (some (.aload_n 0), 0, 0, [], 0), (some (.iload_n 1), 0, 0, [], 0), (some (.invokevirtual 109), 70, 2, [], 0), (some (.if_icmp .ge 6), 81, 0, [], 0), (some (.goto 25), 103, 0, [], 0)]
  | 81 => [(some (.aload_n 0), 0, 0, [], 0), (some (.dup), 0, 0, [], 0), (some (.getfield 163), 8, 17, [], 0), (some (.aload_n 0), 0, 0, [], 0), (some (.getfield 13), 8, 3, [], 0), (some (.iload_n 1), 0, 0, [], 0), (some (.iaload), 0, 0, [], 0), (some (.iadd), 0, 0, [], 0), (some (.putfield 163), 8, 17, [], 0), (some (.aload_n 0), 0, 0, [], 0), (some (.getfield 13), 8, 3, [], 0), (some (.iload_n 1), 0, 0, [], 0), (some (.iconst 0), 0, 0, [], 0), (some (.iastore), 0, 0, [], 0), (none, 103, 0, [], 0)]
  | 103 => [(some (.iinc 1 1), 0, 0, [], 1), (some (.goto (-48)), 58, 0, [], 0)]
  | 109 => [(some (.iconst 0), 0, 0, [], 0), (some (.istore_n 1), 0, 0, [], 0), (none, 111, 0, [], 0)]
  | 111 => [(some (.iload_n 1), 0, 0, [], 0), (some (.aload_n 0), 0, 0, [], 0), (some (.getfield 173), 8, 27, [], 0), (some (.if_icmp .ge 92), 208, 0, [], 0), (some (.aload_n 0), 0, 0, [], 0), (some (.getfield 106), 8, 0, [], 0), (some (.sipush 168), 0, 0, [], 168), (some (.irem), 0, 0, [], 0), (some (.ifCond .ne 81), 208, 0, [], 0), (some (.aload_n 0), 0, 0, [], 0), (some (.getfield 86), 8, 33, [], 0), (some (.iload_n 1), 0, 0, [], 0), (some (.baload), 0, 0, [], 0), (some (.ifCond .ne 66), 202, 0, [], 0), (some (.aload_n 0), 0, 0, [], 0), (some (.getfield 80), 8, 31, [], 0), (some (.iload_n 1), 0, 0, [], 0), (some (.iaload), 0, 0, [], 0), (some (.aload_n 0), 0, 0, [], 0), (some (.getfield 106), 8, 0, [], 0), (some (.sipush 168), 0, 0, [], 168), (some (.idiv), 0, 0, [], 0), (some (.if_icmp .lt 6), 159, 0, [], 0), (some (.goto 46), 202, 0, [], 0)]
  | 159 => [(some (.aload_n 0), 0, 0, [], 0), (some (.dup), 0, 0, [], 0), (some (.getfield 176), 8, 34, [], 0), (some (.iconst 2), 0, 0, [], 2), (some (.aload_n 0), 0, 0, [], 0), (some (.getfield 29), 8, 9, [], 0), (some (.aload_n 0), 0, 0, [], 0), (some (.getfield 74), 8, 29, [], 0), (some (.iload_n 1), 0, 0, [], 0), (some (.iaload), 0, 0, [], 0), (some (.iaload), 0, 0, [], 0), (some (.imul), 0, 0, [], 0), (some (.aload_n 0), 0, 0, [], 0), (some (.getfield 77), 8, 30, [], 0), (some (.iload_n 1), 0, 0, [], 0), (some (.iaload), 0, 0, [], 0), (some (.aload_n 0), 0, 0, [], 0), (some (.getfield 83), 8, 32, [], 0), (some (.iload_n 1), 0, 0, [], 0), (some (.iaload), 0, 0, [], 0), (some (.isub), 0, 0, [], 0), (some (.imul), 0, 0, [], 0), (some (.iadd), 0, 0, [], 0), (some (.putfield 176), 8, 34, [], 0), (some (.aload_n 0), 0, 0, [], 0), (some (.getfield 86), 8, 33, [], 0), (some (.iload_n 1), 0, 0, [], 0), (some (.iconst 1), 0, 0, [], 1), (some (.bastore), 0, 0, [], 0), (none, 202, 0, [], 0)]
  | 202 => [(some (.iinc 1 1), 0, 0, [], 1), (some (.goto (-94)), 111, 0, [], 0)]
  | 208 => [(some (.return_), 0, 0, [], 0)]
  | _ => []
theorem lb_92_0 : lab_92 0 = [(some (.aload_n 0), 0, 0, [], 0), (some (.dup), 0, 0, [], 0), (some (.getfield 106), 8, 0, [], 0), (some (.iconst 1), 0, 0, [], 1), (some (.iadd), 0, 0, [], 0), (some (.putfield 106), 8, 0, [], 0), (some (.aload_n 0), 0, 0, [], 0), (some (.iconst 0), 0, 0, [], 0), (some (.putfield 151), 8, 12, [], 0), (some (.iconst 0), 0, 0, [], 0), (some (.istore_n 1), 0, 0, [], 0), (none, 17, 0, [], 0)] := rfl
theorem lb_92_17 : lab_92 17 = [(some (.iload_n 1), 0, 0, [], 0), (some (.iconst 3), 0, 0, [], 3), (some (.if_icmp .ge 37), 56, 0, [], 0), (some (.aload_n 0), 0, 0, [], 0), (some (.getfield 38), 8, 13, [], 0), (some (.iload_n 1), 0, 0, [], 0), (some (.iaload), 0, 0, [], 0), (some (.iconst (-1)), 0, 0, [], (-1)), (some (.if_icmp .eq 21), 50, 0, [], 0), (some (.aload_n 0), 0, 0, [], 0), (some (.getfield 44), 8, 15, [], 0), (some (.iload_n 1), 0, 0, [], 0), (some (.iaload), 0, 0, [], 0), (some (.aload_n 0), 0, 0, [], 0), (some (.getfield 106), 8, 0, [], 0), (some (.if_icmp .ne 8), 50, 0, [], 0), (some (.aload_n 0), 0, 0, [], 0), (some (.iload_n 1), 0, 0, [], 0), (some (.invokevirtual 169), 90, 2, [], 0), (none, 50, 0, [], 0)] := rfl
theorem lb_92_50 : lab_92 50 = [(some (.iinc 1 1), 0, 0, [], 1), (some (.goto (-36)), 17, 0, [], 0)] := rfl
theorem lb_92_56 : lab_92 56 = [(some (.iconst 0), 0, 0, [], 0), (some (.istore_n 1), 0, 0, [], 0), (none, 58, 0, [], 0)] := rfl
theorem lb_92_58 : lab_92 58 = [(some (.iload_n 1), 0, 0, [], 0), (some (.aload_n 0), 0, 0, [], 0), (some (.getfield 98), 8, 1, [], 0), (some (.if_icmp .ge 46), 109, 0, [], 0), (some (.aload_n 0), 0, 0, [], 0), (some (.getfield 106), 8, 0, [], 0), (some (.aload_n 0), 0, 0, [], 0), (some (.iload_n 1), 0, 0, [], 0), (some (.invokevirtual 109), 70, 2, [], 0), (some (.if_icmp .ge 6), 81, 0, [], 0), (some (.goto 25), 103, 0, [], 0)] := rfl
theorem lb_92_81 : lab_92 81 = [(some (.aload_n 0), 0, 0, [], 0), (some (.dup), 0, 0, [], 0), (some (.getfield 163), 8, 17, [], 0), (some (.aload_n 0), 0, 0, [], 0), (some (.getfield 13), 8, 3, [], 0), (some (.iload_n 1), 0, 0, [], 0), (some (.iaload), 0, 0, [], 0), (some (.iadd), 0, 0, [], 0), (some (.putfield 163), 8, 17, [], 0), (some (.aload_n 0), 0, 0, [], 0), (some (.getfield 13), 8, 3, [], 0), (some (.iload_n 1), 0, 0, [], 0), (some (.iconst 0), 0, 0, [], 0), (some (.iastore), 0, 0, [], 0), (none, 103, 0, [], 0)] := rfl
theorem lb_92_103 : lab_92 103 = [(some (.iinc 1 1), 0, 0, [], 1), (some (.goto (-48)), 58, 0, [], 0)] := rfl
theorem lb_92_109 : lab_92 109 = [(some (.iconst 0), 0, 0, [], 0), (some (.istore_n 1), 0, 0, [], 0), (none, 111, 0, [], 0)] := rfl
theorem lb_92_111 : lab_92 111 = [(some (.iload_n 1), 0, 0, [], 0), (some (.aload_n 0), 0, 0, [], 0), (some (.getfield 173), 8, 27, [], 0), (some (.if_icmp .ge 92), 208, 0, [], 0), (some (.aload_n 0), 0, 0, [], 0), (some (.getfield 106), 8, 0, [], 0), (some (.sipush 168), 0, 0, [], 168), (some (.irem), 0, 0, [], 0), (some (.ifCond .ne 81), 208, 0, [], 0), (some (.aload_n 0), 0, 0, [], 0), (some (.getfield 86), 8, 33, [], 0), (some (.iload_n 1), 0, 0, [], 0), (some (.baload), 0, 0, [], 0), (some (.ifCond .ne 66), 202, 0, [], 0), (some (.aload_n 0), 0, 0, [], 0), (some (.getfield 80), 8, 31, [], 0), (some (.iload_n 1), 0, 0, [], 0), (some (.iaload), 0, 0, [], 0), (some (.aload_n 0), 0, 0, [], 0), (some (.getfield 106), 8, 0, [], 0), (some (.sipush 168), 0, 0, [], 168), (some (.idiv), 0, 0, [], 0), (some (.if_icmp .lt 6), 159, 0, [], 0), (some (.goto 46), 202, 0, [], 0)] := rfl
theorem lb_92_159 : lab_92 159 = [(some (.aload_n 0), 0, 0, [], 0), (some (.dup), 0, 0, [], 0), (some (.getfield 176), 8, 34, [], 0), (some (.iconst 2), 0, 0, [], 2), (some (.aload_n 0), 0, 0, [], 0), (some (.getfield 29), 8, 9, [], 0), (some (.aload_n 0), 0, 0, [], 0), (some (.getfield 74), 8, 29, [], 0), (some (.iload_n 1), 0, 0, [], 0), (some (.iaload), 0, 0, [], 0), (some (.iaload), 0, 0, [], 0), (some (.imul), 0, 0, [], 0), (some (.aload_n 0), 0, 0, [], 0), (some (.getfield 77), 8, 30, [], 0), (some (.iload_n 1), 0, 0, [], 0), (some (.iaload), 0, 0, [], 0), (some (.aload_n 0), 0, 0, [], 0), (some (.getfield 83), 8, 32, [], 0), (some (.iload_n 1), 0, 0, [], 0), (some (.iaload), 0, 0, [], 0), (some (.isub), 0, 0, [], 0), (some (.imul), 0, 0, [], 0), (some (.iadd), 0, 0, [], 0), (some (.putfield 176), 8, 34, [], 0), (some (.aload_n 0), 0, 0, [], 0), (some (.getfield 86), 8, 33, [], 0), (some (.iload_n 1), 0, 0, [], 0), (some (.iconst 1), 0, 0, [], 1), (some (.bastore), 0, 0, [], 0), (none, 202, 0, [], 0)] := rfl
theorem lb_92_202 : lab_92 202 = [(some (.iinc 1 1), 0, 0, [], 1), (some (.goto (-94)), 111, 0, [], 0)] := rfl
theorem lb_92_208 : lab_92 208 = [(some (.return_), 0, 0, [], 0)] := rfl
set_option maxRecDepth 20000 in
theorem ok_92 : ∀ t, mm_okc (mm_m 92) t (lab_92 t) = true := by
  intro t
  unfold lab_92
  split <;> first | decide +kernel | rfl
/-! X8_canBe -/
def lab_93 : Nat → List mm_E := fun t => match t with
  | 0 => [(some (.iconst 0), 0, 0, [], 0), (some (.istore_n 1), 0, 0, [], 0), (none, 2, 0, [], 0)]
  | 2 => [(some (.iload_n 1), 0, 0, [], 0), (some (.iconst 2), 0, 0, [], 2), (some (.if_icmp .ge 67), 71, 0, [], 0), (some (.iconst 0), 0, 0, [], 0), (some (.istore_n 2), 0, 0, [], 0), (some (.iconst 0), 0, 0, [], 0), (some (.istore_n 3), 0, 0, [], 0), (none, 11, 0, [], 0)]
  | 11 => [(some (.iload_n 3), 0, 0, [], 0), (some (.iconst 4), 0, 0, [], 4), (some (.if_icmp .ge 40), 53, 0, [], 0), (some (.iload_n 2), 0, 0, [], 0), (some (.aload_n 0), 0, 0, [], 0), (some (.getfield 29), 8, 9, [], 0), (some (.iload_n 3), 0, 0, [], 0), (some (.iaload), 0, 0, [], 0), (some (.ifCond .le 21), 44, 0, [], 0), (some (.aload_n 0), 0, 0, [], 0), (some (.iload_n 3), 0, 0, [], 0), (some (.invokevirtual 148), 80, 2, [], 0), (some (.iload_n 1), 0, 0, [], 0), (some (.if_icmp .ne 12), 44, 0, [], 0), (some (.aload_n 0), 0, 0, [], 0), (some (.getfield 92), 8, 36, [], 0), (some (.iload_n 3), 0, 0, [], 0), (some (.iaload), 0, 0, [], 0), (some (.goto 4), 45, 0, [], 0)]
  | 44 => [(some (.iconst 0), 0, 0, [], 0), (none, 45, 0, [], 0)]
  | 45 => [(some (.iadd), 0, 0, [], 0), (some (.istore_n 2), 0, 0, [], 0), (some (.iinc 3 1), 0, 0, [], 1), (some (.goto (-39)), 11, 0, [], 0)]
  | 53 => [(some (.iload_n 2), 0, 0, [], 0), (some (.aload_n 0), 0, 0, [], 0), (some (.getfield 32), 8, 10, [], 0), (some (.iload_n 1), 0, 0, [], 0), (some (.iaload), 0, 0, [], 0), (some (.if_icmp .le 5), 65, 0, [], 0), (some (.iconst 0), 0, 0, [], 0), (some (.ireturn), 0, 0, [], 0)]
  | 65 => [(some (.iinc 1 1), 0, 0, [], 1), (some (.goto (-66)), 2, 0, [], 0)]
  | 71 => [(some (.iconst 1), 0, 0, [], 1), (some (.istore_n 1), 0, 0, [], 0), (none, 73, 0, [], 0)]
  | 73 => [(some (.iload_n 1), 0, 0, [], 0), (some (.bipush 8), 0, 0, [], 8), (some (.if_icmp .ge 101), 177, 0, [], 0), (some (.iconst 0), 0, 0, [], 0), (some (.istore_n 2), 0, 0, [], 0), (some (.iconst 0), 0, 0, [], 0), (some (.istore_n 3), 0, 0, [], 0), (none, 83, 0, [], 0)]
  | 83 => [(some (.iload_n 3), 0, 0, [], 0), (some (.iconst 4), 0, 0, [], 4), (some (.if_icmp .ge 45), 130, 0, [], 0), (some (.iload_n 2), 0, 0, [], 0), (some (.aload_n 0), 0, 0, [], 0), (some (.getfield 26), 8, 8, [], 0), (some (.iload_n 3), 0, 0, [], 0), (some (.iaload), 0, 0, [], 0), (some (.sipush 1000), 0, 0, [], 1000), (some (.idiv), 0, 0, [], 0), (some (.iload_n 1), 0, 0, [], 0), (some (.iconst (-1)), 0, 0, [], (-1)), (some (.ixor), 0, 0, [], 0), (some (.iand), 0, 0, [], 0), (some (.ifCond .ne 18), 121, 0, [], 0), (some (.aload_n 0), 0, 0, [], 0), (some (.getfield 92), 8, 36, [], 0), (some (.iload_n 3), 0, 0, [], 0), (some (.iaload), 0, 0, [], 0), (some (.aload_n 0), 0, 0, [], 0), (some (.iload_n 3), 0, 0, [], 0), (some (.invokevirtual 142), 79, 2, [], 0), (some (.imul), 0, 0, [], 0), (some (.goto 4), 122, 0, [], 0)]
  | 121 => [(some (.iconst 0), 0, 0, [], 0), (none, 122, 0, [], 0)]
  | 122 => [(some (.iadd), 0, 0, [], 0), (some (.istore_n 2), 0, 0, [], 0), (some (.iinc 3 1), 0, 0, [], 1), (some (.goto (-44)), 83, 0, [], 0)]
  | 130 => [(some (.iconst 0), 0, 0, [], 0), (some (.istore_n 3), 0, 0, [], 0), (none, 132, 0, [], 0)]
  | 132 => [(some (.iload_n 3), 0, 0, [], 0), (some (.iconst 3), 0, 0, [], 3), (some (.if_icmp .ge 31), 165, 0, [], 0), (some (.iload_n 2), 0, 0, [], 0), (some (.iload_n 1), 0, 0, [], 0), (some (.iload_n 3), 0, 0, [], 0), (some (.ishr), 0, 0, [], 0), (some (.iconst 1), 0, 0, [], 1), (some (.iand), 0, 0, [], 0), (some (.iconst 1), 0, 0, [], 1), (some (.if_icmp .ne 12), 156, 0, [], 0), (some (.aload_n 0), 0, 0, [], 0), (some (.getfield 89), 8, 35, [], 0), (some (.iload_n 3), 0, 0, [], 0), (some (.iaload), 0, 0, [], 0), (some (.goto 4), 157, 0, [], 0)]
  | 156 => [(some (.iconst 0), 0, 0, [], 0), (none, 157, 0, [], 0)]
  | 157 => [(some (.isub), 0, 0, [], 0), (some (.istore_n 2), 0, 0, [], 0), (some (.iinc 3 1), 0, 0, [], 1), (some (.goto (-30)), 132, 0, [], 0)]
  | 165 => [(some (.iload_n 2), 0, 0, [], 0), (some (.ifCond .le 5), 171, 0, [], 0), (some (.iconst 0), 0, 0, [], 0), (some (.ireturn), 0, 0, [], 0)]
  | 171 => [(some (.iinc 1 1), 0, 0, [], 1), (some (.goto (-101)), 73, 0, [], 0)]
  | 177 => [(some (.iconst 1), 0, 0, [], 1), (some (.ireturn), 0, 0, [], 0)]
  | _ => []
theorem lb_93_0 : lab_93 0 = [(some (.iconst 0), 0, 0, [], 0), (some (.istore_n 1), 0, 0, [], 0), (none, 2, 0, [], 0)] := rfl
theorem lb_93_2 : lab_93 2 = [(some (.iload_n 1), 0, 0, [], 0), (some (.iconst 2), 0, 0, [], 2), (some (.if_icmp .ge 67), 71, 0, [], 0), (some (.iconst 0), 0, 0, [], 0), (some (.istore_n 2), 0, 0, [], 0), (some (.iconst 0), 0, 0, [], 0), (some (.istore_n 3), 0, 0, [], 0), (none, 11, 0, [], 0)] := rfl
theorem lb_93_11 : lab_93 11 = [(some (.iload_n 3), 0, 0, [], 0), (some (.iconst 4), 0, 0, [], 4), (some (.if_icmp .ge 40), 53, 0, [], 0), (some (.iload_n 2), 0, 0, [], 0), (some (.aload_n 0), 0, 0, [], 0), (some (.getfield 29), 8, 9, [], 0), (some (.iload_n 3), 0, 0, [], 0), (some (.iaload), 0, 0, [], 0), (some (.ifCond .le 21), 44, 0, [], 0), (some (.aload_n 0), 0, 0, [], 0), (some (.iload_n 3), 0, 0, [], 0), (some (.invokevirtual 148), 80, 2, [], 0), (some (.iload_n 1), 0, 0, [], 0), (some (.if_icmp .ne 12), 44, 0, [], 0), (some (.aload_n 0), 0, 0, [], 0), (some (.getfield 92), 8, 36, [], 0), (some (.iload_n 3), 0, 0, [], 0), (some (.iaload), 0, 0, [], 0), (some (.goto 4), 45, 0, [], 0)] := rfl
theorem lb_93_44 : lab_93 44 = [(some (.iconst 0), 0, 0, [], 0), (none, 45, 0, [], 0)] := rfl
theorem lb_93_45 : lab_93 45 = [(some (.iadd), 0, 0, [], 0), (some (.istore_n 2), 0, 0, [], 0), (some (.iinc 3 1), 0, 0, [], 1), (some (.goto (-39)), 11, 0, [], 0)] := rfl
theorem lb_93_53 : lab_93 53 = [(some (.iload_n 2), 0, 0, [], 0), (some (.aload_n 0), 0, 0, [], 0), (some (.getfield 32), 8, 10, [], 0), (some (.iload_n 1), 0, 0, [], 0), (some (.iaload), 0, 0, [], 0), (some (.if_icmp .le 5), 65, 0, [], 0), (some (.iconst 0), 0, 0, [], 0), (some (.ireturn), 0, 0, [], 0)] := rfl
theorem lb_93_65 : lab_93 65 = [(some (.iinc 1 1), 0, 0, [], 1), (some (.goto (-66)), 2, 0, [], 0)] := rfl
theorem lb_93_71 : lab_93 71 = [(some (.iconst 1), 0, 0, [], 1), (some (.istore_n 1), 0, 0, [], 0), (none, 73, 0, [], 0)] := rfl
theorem lb_93_73 : lab_93 73 = [(some (.iload_n 1), 0, 0, [], 0), (some (.bipush 8), 0, 0, [], 8), (some (.if_icmp .ge 101), 177, 0, [], 0), (some (.iconst 0), 0, 0, [], 0), (some (.istore_n 2), 0, 0, [], 0), (some (.iconst 0), 0, 0, [], 0), (some (.istore_n 3), 0, 0, [], 0), (none, 83, 0, [], 0)] := rfl
theorem lb_93_83 : lab_93 83 = [(some (.iload_n 3), 0, 0, [], 0), (some (.iconst 4), 0, 0, [], 4), (some (.if_icmp .ge 45), 130, 0, [], 0), (some (.iload_n 2), 0, 0, [], 0), (some (.aload_n 0), 0, 0, [], 0), (some (.getfield 26), 8, 8, [], 0), (some (.iload_n 3), 0, 0, [], 0), (some (.iaload), 0, 0, [], 0), (some (.sipush 1000), 0, 0, [], 1000), (some (.idiv), 0, 0, [], 0), (some (.iload_n 1), 0, 0, [], 0), (some (.iconst (-1)), 0, 0, [], (-1)), (some (.ixor), 0, 0, [], 0), (some (.iand), 0, 0, [], 0), (some (.ifCond .ne 18), 121, 0, [], 0), (some (.aload_n 0), 0, 0, [], 0), (some (.getfield 92), 8, 36, [], 0), (some (.iload_n 3), 0, 0, [], 0), (some (.iaload), 0, 0, [], 0), (some (.aload_n 0), 0, 0, [], 0), (some (.iload_n 3), 0, 0, [], 0), (some (.invokevirtual 142), 79, 2, [], 0), (some (.imul), 0, 0, [], 0), (some (.goto 4), 122, 0, [], 0)] := rfl
theorem lb_93_121 : lab_93 121 = [(some (.iconst 0), 0, 0, [], 0), (none, 122, 0, [], 0)] := rfl
theorem lb_93_122 : lab_93 122 = [(some (.iadd), 0, 0, [], 0), (some (.istore_n 2), 0, 0, [], 0), (some (.iinc 3 1), 0, 0, [], 1), (some (.goto (-44)), 83, 0, [], 0)] := rfl
theorem lb_93_130 : lab_93 130 = [(some (.iconst 0), 0, 0, [], 0), (some (.istore_n 3), 0, 0, [], 0), (none, 132, 0, [], 0)] := rfl
theorem lb_93_132 : lab_93 132 = [(some (.iload_n 3), 0, 0, [], 0), (some (.iconst 3), 0, 0, [], 3), (some (.if_icmp .ge 31), 165, 0, [], 0), (some (.iload_n 2), 0, 0, [], 0), (some (.iload_n 1), 0, 0, [], 0), (some (.iload_n 3), 0, 0, [], 0), (some (.ishr), 0, 0, [], 0), (some (.iconst 1), 0, 0, [], 1), (some (.iand), 0, 0, [], 0), (some (.iconst 1), 0, 0, [], 1), (some (.if_icmp .ne 12), 156, 0, [], 0), (some (.aload_n 0), 0, 0, [], 0), (some (.getfield 89), 8, 35, [], 0), (some (.iload_n 3), 0, 0, [], 0), (some (.iaload), 0, 0, [], 0), (some (.goto 4), 157, 0, [], 0)] := rfl
theorem lb_93_156 : lab_93 156 = [(some (.iconst 0), 0, 0, [], 0), (none, 157, 0, [], 0)] := rfl
theorem lb_93_157 : lab_93 157 = [(some (.isub), 0, 0, [], 0), (some (.istore_n 2), 0, 0, [], 0), (some (.iinc 3 1), 0, 0, [], 1), (some (.goto (-30)), 132, 0, [], 0)] := rfl
theorem lb_93_165 : lab_93 165 = [(some (.iload_n 2), 0, 0, [], 0), (some (.ifCond .le 5), 171, 0, [], 0), (some (.iconst 0), 0, 0, [], 0), (some (.ireturn), 0, 0, [], 0)] := rfl
theorem lb_93_171 : lab_93 171 = [(some (.iinc 1 1), 0, 0, [], 1), (some (.goto (-101)), 73, 0, [], 0)] := rfl
theorem lb_93_177 : lab_93 177 = [(some (.iconst 1), 0, 0, [], 1), (some (.ireturn), 0, 0, [], 0)] := rfl
set_option maxRecDepth 20000 in
theorem ok_93 : ∀ t, mm_okc (mm_m 93) t (lab_93 t) = true := by
  intro t
  unfold lab_93
  split <;> first | decide +kernel | rfl
/-! X8_plans -/
def lab_94 : Nat → List mm_E := fun t => match t with
  | 0 => [(some (.iconst 0), 0, 0, [], 0), (some (.istore_n 1), 0, 0, [], 0), (none, 2, 0, [], 0)]
  | 2 => [(some (.iload_n 1), 0, 0, [], 0), (some (.iconst 3), 0, 0, [], 3), (some (.if_icmp .ge 16), 20, 0, [], 0), (some (.aload_n 0), 0, 0, [], 0), (some (.getfield 89), 8, 35, [], 0), (some (.iload_n 1), 0, 0, [], 0), (some (.iconst 0), 0, 0, [], 0), (some (.iastore), 0, 0, [], 0), (some (.iinc 1 1), 0, 0, [], 1), (some (.goto (-15)), 2, 0, [], 0)]
  | 20 => [(some (.iconst 0), 0, 0, [], 0), (some (.istore_n 1), 0, 0, [], 0), (none, 22, 0, [], 0)]
  | 22 => [(some (.iload_n 1), 0, 0, [], 0), (some (.aload_n 0), 0, 0, [], 0), (some (.getfield 98), 8, 1, [], 0), (some (.if_icmp .ge 46), 73, 0, [], 0), (some (.aload_n 0), 0, 0, [], 0), (some (.iload_n 1), 0, 0, [], 0), (some (.invokevirtual 122), 71, 2, [], 0), (some (.ifCond .eq 32), 67, 0, [], 0), (some (.aload_n 0), 0, 0, [], 0), (some (.getfield 23), 8, 6, [], 0), (some (.iload_n 1), 0, 0, [], 0), (some (.baload), 0, 0, [], 0), (some (.ifCond .ne 23), 67, 0, [], 0), (some (.aload_n 0), 0, 0, [], 0), (some (.getfield 89), 8, 35, [], 0), (some (.aload_n 0), 0, 0, [], 0), (some (.getfield 9), 8, 2, [], 0), (some (.iload_n 1), 0, 0, [], 0), (some (.iaload), 0, 0, [], 0), (some (.dup2), 0, 0, [], 0), (some (.iaload), 0, 0, [], 0), (some (.aload_n 0), 0, 0, [], 0), (some (.getfield 13), 8, 3, [], 0), (some (.iload_n 1), 0, 0, [], 0), (some (.iaload), 0, 0, [], 0), (some (.iadd), 0, 0, [], 0), (some (.iastore), 0, 0, [], 0), (none, 67, 0, [], 0)]
  | 67 => [(some (.iinc 1 1), 0, 0, [], 1), (some (.goto (-48)), 22, 0, [], 0)]
  | 73 => [(some (.aload_n 0), 0, 0, [], 0), (some (.iconst (-1)), 0, 0, [], (-1)), (some (.putfield 179), 8, 38, [], 0), (some (.iconst 1), 0, 0, [], 1), (some (.istore_n 1), 0, 0, [], 0), (some (.iconst 0), 0, 0, [], 0), (some (.istore_n 2), 0, 0, [], 0), (none, 82, 0, [], 0)]
  | 82 => [(some (.iload_n 2), 0, 0, [], 0), (some (.iconst 4), 0, 0, [], 4), (some (.if_icmp .ge 27), 111, 0, [], 0), (some (.iload_n 1), 0, 0, [], 0), (some (.aload_n 0), 0, 0, [], 0), (some (.getfield 29), 8, 9, [], 0), (some (.iload_n 2), 0, 0, [], 0), (some (.iaload), 0, 0, [], 0), (some (.ifCond .le 8), 102, 0, [], 0), (some (.bipush 21), 0, 0, [], 21), (some (.goto 4), 103, 0, [], 0)]
  | 102 => [(some (.iconst 1), 0, 0, [], 1), (none, 103, 0, [], 0)]
  | 103 => [(some (.imul), 0, 0, [], 0), (some (.istore_n 1), 0, 0, [], 0), (some (.iinc 2 1), 0, 0, [], 1), (some (.goto (-26)), 82, 0, [], 0)]
  | 111 => [(some (.iconst 0), 0, 0, [], 0), (some (.istore_n 2), 0, 0, [], 0), (none, 113, 0, [], 0)]
  | 113 => [(some (.iload_n 2), 0, 0, [], 0), (some (.iload_n 1), 0, 0, [], 0), (some (.if_icmp .ge 142), 257, 0, [], 0), (some (.iload_n 2), 0, 0, [], 0), (some (.istore_n 3), 0, 0, [], 0), (some (.iconst 0), 0, 0, [], 0), (some (.istore 4), 0, 0, [], 0), (some (.iconst 3), 0, 0, [], 3), (some (.istore 5), 0, 0, [], 0), (none, 126, 0, [], 0)]
  | 126 => [(some (.iload 5), 0, 0, [], 0), (some (.ifCond .lt 69), 197, 0, [], 0), (some (.aload_n 0), 0, 0, [], 0), (some (.getfield 92), 8, 36, [], 0), (some (.iload 5), 0, 0, [], 0), (some (.aload_n 0), 0, 0, [], 0), (some (.getfield 29), 8, 9, [], 0), (some (.iload 5), 0, 0, [], 0), (some (.iaload), 0, 0, [], 0), (some (.ifCond .le 10), 154, 0, [], 0), (some (.iload_n 3), 0, 0, [], 0), (some (.bipush 21), 0, 0, [], 21), (some (.irem), 0, 0, [], 0), (some (.goto 4), 155, 0, [], 0)]
  | 154 => [(some (.iconst 0), 0, 0, [], 0), (none, 155, 0, [], 0)]
  | 155 => [(some (.iastore), 0, 0, [], 0), (some (.aload_n 0), 0, 0, [], 0), (some (.getfield 29), 8, 9, [], 0), (some (.iload 5), 0, 0, [], 0), (some (.iaload), 0, 0, [], 0), (some (.ifCond .le 8), 171, 0, [], 0), (some (.iload_n 3), 0, 0, [], 0), (some (.bipush 21), 0, 0, [], 21), (some (.idiv), 0, 0, [], 0), (some (.istore_n 3), 0, 0, [], 0), (none, 171, 0, [], 0)]
  | 171 => [(some (.iload 4), 0, 0, [], 0), (some (.aload_n 0), 0, 0, [], 0), (some (.getfield 92), 8, 36, [], 0), (some (.iload 5), 0, 0, [], 0), (some (.iaload), 0, 0, [], 0), (some (.aload_n 0), 0, 0, [], 0), (some (.getfield 29), 8, 9, [], 0), (some (.iload 5), 0, 0, [], 0), (some (.iaload), 0, 0, [], 0), (some (.imul), 0, 0, [], 0), (some (.iadd), 0, 0, [], 0), (some (.istore 4), 0, 0, [], 0), (some (.iinc 5 (-1)), 0, 0, [], (-1)), (some (.goto (-68)), 126, 0, [], 0)]
  | 197 => [(some (.iload 4), 0, 0, [], 0), (some (.aload_n 0), 0, 0, [], 0), (some (.getfield 179), 8, 38, [], 0), (some (.if_icmp .le 48), 251, 0, [], 0), (some (.aload_n 0), 0, 0, [], 0), (some (.invokevirtual 182), 93, 1, [], 0), (some (.ifCond .ne 6), 216, 0, [], 0), (some (.goto 38), 251, 0, [], 0)]
  | 216 => [(some (.aload_n 0), 0, 0, [], 0), (some (.iload 4), 0, 0, [], 0), (some (.putfield 179), 8, 38, [], 0), (some (.iconst 0), 0, 0, [], 0), (some (.istore 5), 0, 0, [], 0), (none, 225, 0, [], 0)]
  | 225 => [(some (.iload 5), 0, 0, [], 0), (some (.iconst 4), 0, 0, [], 4), (some (.if_icmp .ge 23), 251, 0, [], 0), (some (.aload_n 0), 0, 0, [], 0), (some (.getfield 95), 8, 37, [], 0), (some (.iload 5), 0, 0, [], 0), (some (.aload_n 0), 0, 0, [], 0), (some (.getfield 92), 8, 36, [], 0), (some (.iload 5), 0, 0, [], 0), (some (.iaload), 0, 0, [], 0), (some (.iastore), 0, 0, [], 0), (some (.iinc 5 1), 0, 0, [], 1), (some (.goto (-23)), 225, 0, [], 0)]
  | 251 => [(some (.iinc 2 1), 0, 0, [], 1), (some (.goto (-141)), 113, 0, [], 0)]
  | 257 => [(some (.return_), 0, 0, [], 0)]
  | _ => []
theorem lb_94_0 : lab_94 0 = [(some (.iconst 0), 0, 0, [], 0), (some (.istore_n 1), 0, 0, [], 0), (none, 2, 0, [], 0)] := rfl
theorem lb_94_2 : lab_94 2 = [(some (.iload_n 1), 0, 0, [], 0), (some (.iconst 3), 0, 0, [], 3), (some (.if_icmp .ge 16), 20, 0, [], 0), (some (.aload_n 0), 0, 0, [], 0), (some (.getfield 89), 8, 35, [], 0), (some (.iload_n 1), 0, 0, [], 0), (some (.iconst 0), 0, 0, [], 0), (some (.iastore), 0, 0, [], 0), (some (.iinc 1 1), 0, 0, [], 1), (some (.goto (-15)), 2, 0, [], 0)] := rfl
theorem lb_94_20 : lab_94 20 = [(some (.iconst 0), 0, 0, [], 0), (some (.istore_n 1), 0, 0, [], 0), (none, 22, 0, [], 0)] := rfl
theorem lb_94_22 : lab_94 22 = [(some (.iload_n 1), 0, 0, [], 0), (some (.aload_n 0), 0, 0, [], 0), (some (.getfield 98), 8, 1, [], 0), (some (.if_icmp .ge 46), 73, 0, [], 0), (some (.aload_n 0), 0, 0, [], 0), (some (.iload_n 1), 0, 0, [], 0), (some (.invokevirtual 122), 71, 2, [], 0), (some (.ifCond .eq 32), 67, 0, [], 0), (some (.aload_n 0), 0, 0, [], 0), (some (.getfield 23), 8, 6, [], 0), (some (.iload_n 1), 0, 0, [], 0), (some (.baload), 0, 0, [], 0), (some (.ifCond .ne 23), 67, 0, [], 0), (some (.aload_n 0), 0, 0, [], 0), (some (.getfield 89), 8, 35, [], 0), (some (.aload_n 0), 0, 0, [], 0), (some (.getfield 9), 8, 2, [], 0), (some (.iload_n 1), 0, 0, [], 0), (some (.iaload), 0, 0, [], 0), (some (.dup2), 0, 0, [], 0), (some (.iaload), 0, 0, [], 0), (some (.aload_n 0), 0, 0, [], 0), (some (.getfield 13), 8, 3, [], 0), (some (.iload_n 1), 0, 0, [], 0), (some (.iaload), 0, 0, [], 0), (some (.iadd), 0, 0, [], 0), (some (.iastore), 0, 0, [], 0), (none, 67, 0, [], 0)] := rfl
theorem lb_94_67 : lab_94 67 = [(some (.iinc 1 1), 0, 0, [], 1), (some (.goto (-48)), 22, 0, [], 0)] := rfl
theorem lb_94_73 : lab_94 73 = [(some (.aload_n 0), 0, 0, [], 0), (some (.iconst (-1)), 0, 0, [], (-1)), (some (.putfield 179), 8, 38, [], 0), (some (.iconst 1), 0, 0, [], 1), (some (.istore_n 1), 0, 0, [], 0), (some (.iconst 0), 0, 0, [], 0), (some (.istore_n 2), 0, 0, [], 0), (none, 82, 0, [], 0)] := rfl
theorem lb_94_82 : lab_94 82 = [(some (.iload_n 2), 0, 0, [], 0), (some (.iconst 4), 0, 0, [], 4), (some (.if_icmp .ge 27), 111, 0, [], 0), (some (.iload_n 1), 0, 0, [], 0), (some (.aload_n 0), 0, 0, [], 0), (some (.getfield 29), 8, 9, [], 0), (some (.iload_n 2), 0, 0, [], 0), (some (.iaload), 0, 0, [], 0), (some (.ifCond .le 8), 102, 0, [], 0), (some (.bipush 21), 0, 0, [], 21), (some (.goto 4), 103, 0, [], 0)] := rfl
theorem lb_94_102 : lab_94 102 = [(some (.iconst 1), 0, 0, [], 1), (none, 103, 0, [], 0)] := rfl
theorem lb_94_103 : lab_94 103 = [(some (.imul), 0, 0, [], 0), (some (.istore_n 1), 0, 0, [], 0), (some (.iinc 2 1), 0, 0, [], 1), (some (.goto (-26)), 82, 0, [], 0)] := rfl
theorem lb_94_111 : lab_94 111 = [(some (.iconst 0), 0, 0, [], 0), (some (.istore_n 2), 0, 0, [], 0), (none, 113, 0, [], 0)] := rfl
theorem lb_94_113 : lab_94 113 = [(some (.iload_n 2), 0, 0, [], 0), (some (.iload_n 1), 0, 0, [], 0), (some (.if_icmp .ge 142), 257, 0, [], 0), (some (.iload_n 2), 0, 0, [], 0), (some (.istore_n 3), 0, 0, [], 0), (some (.iconst 0), 0, 0, [], 0), (some (.istore 4), 0, 0, [], 0), (some (.iconst 3), 0, 0, [], 3), (some (.istore 5), 0, 0, [], 0), (none, 126, 0, [], 0)] := rfl
theorem lb_94_126 : lab_94 126 = [(some (.iload 5), 0, 0, [], 0), (some (.ifCond .lt 69), 197, 0, [], 0), (some (.aload_n 0), 0, 0, [], 0), (some (.getfield 92), 8, 36, [], 0), (some (.iload 5), 0, 0, [], 0), (some (.aload_n 0), 0, 0, [], 0), (some (.getfield 29), 8, 9, [], 0), (some (.iload 5), 0, 0, [], 0), (some (.iaload), 0, 0, [], 0), (some (.ifCond .le 10), 154, 0, [], 0), (some (.iload_n 3), 0, 0, [], 0), (some (.bipush 21), 0, 0, [], 21), (some (.irem), 0, 0, [], 0), (some (.goto 4), 155, 0, [], 0)] := rfl
theorem lb_94_154 : lab_94 154 = [(some (.iconst 0), 0, 0, [], 0), (none, 155, 0, [], 0)] := rfl
theorem lb_94_155 : lab_94 155 = [(some (.iastore), 0, 0, [], 0), (some (.aload_n 0), 0, 0, [], 0), (some (.getfield 29), 8, 9, [], 0), (some (.iload 5), 0, 0, [], 0), (some (.iaload), 0, 0, [], 0), (some (.ifCond .le 8), 171, 0, [], 0), (some (.iload_n 3), 0, 0, [], 0), (some (.bipush 21), 0, 0, [], 21), (some (.idiv), 0, 0, [], 0), (some (.istore_n 3), 0, 0, [], 0), (none, 171, 0, [], 0)] := rfl
theorem lb_94_171 : lab_94 171 = [(some (.iload 4), 0, 0, [], 0), (some (.aload_n 0), 0, 0, [], 0), (some (.getfield 92), 8, 36, [], 0), (some (.iload 5), 0, 0, [], 0), (some (.iaload), 0, 0, [], 0), (some (.aload_n 0), 0, 0, [], 0), (some (.getfield 29), 8, 9, [], 0), (some (.iload 5), 0, 0, [], 0), (some (.iaload), 0, 0, [], 0), (some (.imul), 0, 0, [], 0), (some (.iadd), 0, 0, [], 0), (some (.istore 4), 0, 0, [], 0), (some (.iinc 5 (-1)), 0, 0, [], (-1)), (some (.goto (-68)), 126, 0, [], 0)] := rfl
theorem lb_94_197 : lab_94 197 = [(some (.iload 4), 0, 0, [], 0), (some (.aload_n 0), 0, 0, [], 0), (some (.getfield 179), 8, 38, [], 0), (some (.if_icmp .le 48), 251, 0, [], 0), (some (.aload_n 0), 0, 0, [], 0), (some (.invokevirtual 182), 93, 1, [], 0), (some (.ifCond .ne 6), 216, 0, [], 0), (some (.goto 38), 251, 0, [], 0)] := rfl
theorem lb_94_216 : lab_94 216 = [(some (.aload_n 0), 0, 0, [], 0), (some (.iload 4), 0, 0, [], 0), (some (.putfield 179), 8, 38, [], 0), (some (.iconst 0), 0, 0, [], 0), (some (.istore 5), 0, 0, [], 0), (none, 225, 0, [], 0)] := rfl
theorem lb_94_225 : lab_94 225 = [(some (.iload 5), 0, 0, [], 0), (some (.iconst 4), 0, 0, [], 4), (some (.if_icmp .ge 23), 251, 0, [], 0), (some (.aload_n 0), 0, 0, [], 0), (some (.getfield 95), 8, 37, [], 0), (some (.iload 5), 0, 0, [], 0), (some (.aload_n 0), 0, 0, [], 0), (some (.getfield 92), 8, 36, [], 0), (some (.iload 5), 0, 0, [], 0), (some (.iaload), 0, 0, [], 0), (some (.iastore), 0, 0, [], 0), (some (.iinc 5 1), 0, 0, [], 1), (some (.goto (-23)), 225, 0, [], 0)] := rfl
theorem lb_94_251 : lab_94 251 = [(some (.iinc 2 1), 0, 0, [], 1), (some (.goto (-141)), 113, 0, [], 0)] := rfl
theorem lb_94_257 : lab_94 257 = [(some (.return_), 0, 0, [], 0)] := rfl
set_option maxRecDepth 20000 in
theorem ok_94 : ∀ t, mm_okc (mm_m 94) t (lab_94 t) = true := by
  intro t
  unfold lab_94
  split <;> first | decide +kernel | rfl
/-! X8_plan -/
def lab_95 : Nat → List mm_E := fun t => match t with
  | 0 => [(some (.aload_n 0), 0, 0, [], 0), (some (.iload_n 1), 0, 0, [], 0), (some (.invokevirtual 132), 77, 2, [], 0), (some (.ifCond .ne 5), 10, 0, [], 0), (some (.iconst (-1)), 0, 0, [], (-1)), (some (.ireturn), 0, 0, [], 0)]
  | 10 => [(some (.aload_n 0), 0, 0, [], 0), (some (.invokevirtual 186), 94, 1, [], 0), (some (.aload_n 0), 0, 0, [], 0), (some (.getfield 95), 8, 37, [], 0), (some (.iload_n 1), 0, 0, [], 0), (some (.iaload), 0, 0, [], 0), (some (.ireturn), 0, 0, [], 0)]
  | _ => []
theorem lb_95_0 : lab_95 0 = [(some (.aload_n 0), 0, 0, [], 0), (some (.iload_n 1), 0, 0, [], 0), (some (.invokevirtual 132), 77, 2, [], 0), (some (.ifCond .ne 5), 10, 0, [], 0), (some (.iconst (-1)), 0, 0, [], (-1)), (some (.ireturn), 0, 0, [], 0)] := rfl
theorem lb_95_10 : lab_95 10 = [(some (.aload_n 0), 0, 0, [], 0), (some (.invokevirtual 186), 94, 1, [], 0), (some (.aload_n 0), 0, 0, [], 0), (some (.getfield 95), 8, 37, [], 0), (some (.iload_n 1), 0, 0, [], 0), (some (.iaload), 0, 0, [], 0), (some (.ireturn), 0, 0, [], 0)] := rfl
set_option maxRecDepth 20000 in
theorem ok_95 : ∀ t, mm_okc (mm_m 95) t (lab_95 t) = true := by
  intro t
  unfold lab_95
  split <;> first | decide +kernel | rfl
/-! X8_worth -/
def lab_96 : Nat → List mm_E := fun t => match t with
  | 0 => [(some (.aload_n 0), 0, 0, [], 0), (some (.invokevirtual 186), 94, 1, [], 0), (some (.aload_n 0), 0, 0, [], 0), (some (.getfield 179), 8, 38, [], 0), (some (.ireturn), 0, 0, [], 0)]
  | _ => []
theorem lb_96_0 : lab_96 0 = [(some (.aload_n 0), 0, 0, [], 0), (some (.invokevirtual 186), 94, 1, [], 0), (some (.aload_n 0), 0, 0, [], 0), (some (.getfield 179), 8, 38, [], 0), (some (.ireturn), 0, 0, [], 0)] := rfl
set_option maxRecDepth 20000 in
theorem ok_96 : ∀ t, mm_okc (mm_m 96) t (lab_96 t) = true := by
  intro t
  unfold lab_96
  split <;> first | decide +kernel | rfl
/-! X8_worthOf -/
def lab_97 : Nat → List mm_E := fun t => match t with
  | 0 => [(some (.aload_n 0), 0, 0, [], 0), (some (.getfield 29), 8, 9, [], 0), (some (.aload_n 0), 0, 0, [], 0), (some (.getfield 50), 8, 19, [], 0), (some (.iload_n 1), 0, 0, [], 0), (some (.iaload), 0, 0, [], 0), (some (.iaload), 0, 0, [], 0), (some (.istore_n 2), 0, 0, [], 0), (some (.aload_n 0), 0, 0, [], 0), (some (.getfield 106), 8, 0, [], 0), (some (.aload_n 0), 0, 0, [], 0), (some (.getfield 59), 8, 22, [], 0), (some (.iload_n 1), 0, 0, [], 0), (some (.iaload), 0, 0, [], 0), (some (.isub), 0, 0, [], 0), (some (.sipush 168), 0, 0, [], 168), (some (.idiv), 0, 0, [], 0), (some (.iconst 4), 0, 0, [], 4), (some (.idiv), 0, 0, [], 0), (some (.istore_n 3), 0, 0, [], 0), (some (.iload_n 2), 0, 0, [], 0), (some (.iload_n 2), 0, 0, [], 0), (some (.bipush 10), 0, 0, [], 10), (some (.idiv), 0, 0, [], 0), (some (.iload_n 3), 0, 0, [], 0), (some (.iconst 3), 0, 0, [], 3), (some (.if_icmp .le 7), 44, 0, [], 0), (some (.iconst 3), 0, 0, [], 3), (some (.goto 4), 45, 0, [], 0)]
  | 44 => [(some (.iload_n 3), 0, 0, [], 0), (none, 45, 0, [], 0)]
  | 45 => [(some (.imul), 0, 0, [], 0), (some (.iadd), 0, 0, [], 0), (some (.ireturn), 0, 0, [], 0)]
  | _ => []
theorem lb_97_0 : lab_97 0 = [(some (.aload_n 0), 0, 0, [], 0), (some (.getfield 29), 8, 9, [], 0), (some (.aload_n 0), 0, 0, [], 0), (some (.getfield 50), 8, 19, [], 0), (some (.iload_n 1), 0, 0, [], 0), (some (.iaload), 0, 0, [], 0), (some (.iaload), 0, 0, [], 0), (some (.istore_n 2), 0, 0, [], 0), (some (.aload_n 0), 0, 0, [], 0), (some (.getfield 106), 8, 0, [], 0), (some (.aload_n 0), 0, 0, [], 0), (some (.getfield 59), 8, 22, [], 0), (some (.iload_n 1), 0, 0, [], 0), (some (.iaload), 0, 0, [], 0), (some (.isub), 0, 0, [], 0), (some (.sipush 168), 0, 0, [], 168), (some (.idiv), 0, 0, [], 0), (some (.iconst 4), 0, 0, [], 4), (some (.idiv), 0, 0, [], 0), (some (.istore_n 3), 0, 0, [], 0), (some (.iload_n 2), 0, 0, [], 0), (some (.iload_n 2), 0, 0, [], 0), (some (.bipush 10), 0, 0, [], 10), (some (.idiv), 0, 0, [], 0), (some (.iload_n 3), 0, 0, [], 0), (some (.iconst 3), 0, 0, [], 3), (some (.if_icmp .le 7), 44, 0, [], 0), (some (.iconst 3), 0, 0, [], 3), (some (.goto 4), 45, 0, [], 0)] := rfl
theorem lb_97_44 : lab_97 44 = [(some (.iload_n 3), 0, 0, [], 0), (none, 45, 0, [], 0)] := rfl
theorem lb_97_45 : lab_97 45 = [(some (.imul), 0, 0, [], 0), (some (.iadd), 0, 0, [], 0), (some (.ireturn), 0, 0, [], 0)] := rfl
set_option maxRecDepth 20000 in
theorem ok_97 : ∀ t, mm_okc (mm_m 97) t (lab_97 t) = true := by
  intro t
  unfold lab_97
  split <;> first | decide +kernel | rfl
/-! X8_casesThere -/
def lab_98 : Nat → List mm_E := fun t => match t with
  | 0 => [(some (.iconst 0), 0, 0, [], 0), (some (.istore_n 2), 0, 0, [], 0), (some (.iconst 0), 0, 0, [], 0), (some (.istore_n 3), 0, 0, [], 0), (none, 4, 0, [], 0)]
  | 4 => [(some (.iload_n 3), 0, 0, [], 0), (some (.aload_n 0), 0, 0, [], 0), (some (.getfield 135), 8, 18, [], 0), (some (.if_icmp .ge 41), 50, 0, [], 0), (some (.iload_n 2), 0, 0, [], 0), (some (.aload_n 0), 0, 0, [], 0), (some (.getfield 50), 8, 19, [], 0), (some (.iload_n 3), 0, 0, [], 0), (some (.iaload), 0, 0, [], 0), (some (.iload_n 1), 0, 0, [], 0), (some (.if_icmp .ne 21), 41, 0, [], 0), (some (.aload_n 0), 0, 0, [], 0), (some (.getfield 62), 8, 23, [], 0), (some (.iload_n 3), 0, 0, [], 0), (some (.baload), 0, 0, [], 0), (some (.ifCond .ne 12), 41, 0, [], 0), (some (.aload_n 0), 0, 0, [], 0), (some (.getfield 53), 8, 20, [], 0), (some (.iload_n 3), 0, 0, [], 0), (some (.iaload), 0, 0, [], 0), (some (.goto 4), 42, 0, [], 0)]
  | 41 => [(some (.iconst 0), 0, 0, [], 0), (none, 42, 0, [], 0)]
  | 42 => [(some (.iadd), 0, 0, [], 0), (some (.istore_n 2), 0, 0, [], 0), (some (.iinc 3 1), 0, 0, [], 1), (some (.goto (-43)), 4, 0, [], 0)]
  | 50 => [(some (.iload_n 2), 0, 0, [], 0), (some (.ireturn), 0, 0, [], 0)]
  | _ => []
theorem lb_98_0 : lab_98 0 = [(some (.iconst 0), 0, 0, [], 0), (some (.istore_n 2), 0, 0, [], 0), (some (.iconst 0), 0, 0, [], 0), (some (.istore_n 3), 0, 0, [], 0), (none, 4, 0, [], 0)] := rfl
theorem lb_98_4 : lab_98 4 = [(some (.iload_n 3), 0, 0, [], 0), (some (.aload_n 0), 0, 0, [], 0), (some (.getfield 135), 8, 18, [], 0), (some (.if_icmp .ge 41), 50, 0, [], 0), (some (.iload_n 2), 0, 0, [], 0), (some (.aload_n 0), 0, 0, [], 0), (some (.getfield 50), 8, 19, [], 0), (some (.iload_n 3), 0, 0, [], 0), (some (.iaload), 0, 0, [], 0), (some (.iload_n 1), 0, 0, [], 0), (some (.if_icmp .ne 21), 41, 0, [], 0), (some (.aload_n 0), 0, 0, [], 0), (some (.getfield 62), 8, 23, [], 0), (some (.iload_n 3), 0, 0, [], 0), (some (.baload), 0, 0, [], 0), (some (.ifCond .ne 12), 41, 0, [], 0), (some (.aload_n 0), 0, 0, [], 0), (some (.getfield 53), 8, 20, [], 0), (some (.iload_n 3), 0, 0, [], 0), (some (.iaload), 0, 0, [], 0), (some (.goto 4), 42, 0, [], 0)] := rfl
theorem lb_98_41 : lab_98 41 = [(some (.iconst 0), 0, 0, [], 0), (none, 42, 0, [], 0)] := rfl
theorem lb_98_42 : lab_98 42 = [(some (.iadd), 0, 0, [], 0), (some (.istore_n 2), 0, 0, [], 0), (some (.iinc 3 1), 0, 0, [], 1), (some (.goto (-43)), 4, 0, [], 0)] := rfl
theorem lb_98_50 : lab_98 50 = [(some (.iload_n 2), 0, 0, [], 0), (some (.ireturn), 0, 0, [], 0)] := rfl
set_option maxRecDepth 20000 in
theorem ok_98 : ∀ t, mm_okc (mm_m 98) t (lab_98 t) = true := by
  intro t
  unfold lab_98
  split <;> first | decide +kernel | rfl
/-! X8_sell -/
def lab_99 : Nat → List mm_E := fun t => match t with
  | 0 => [(some (.iload_n 1), 0, 0, [], 0), (some (.iconst 0), 0, 0, [], 0), (some (.iconst 5), 0, 0, [], 5), (some (.invokestatic 102), 68, 3, [], 0), (some (.ifCond .eq 24), 30, 0, [], 0), (some (.aload_n 0), 0, 0, [], 0), (some (.iload_n 2), 0, 0, [], 0), (some (.invokevirtual 132), 77, 2, [], 0), (some (.ifCond .eq 16), 30, 0, [], 0), (some (.iload_n 3), 0, 0, [], 0), (some (.iconst 1), 0, 0, [], 1), (some (.aload_n 0), 0, 0, [], 0), (some (.iload_n 2), 0, 0, [], 0), (some (.invokevirtual 189), 98, 2, [], 0), (some (.invokestatic 102), 68, 3, [], 0), (some (.ifCond .ne 5), 32, 0, [], 0), (none, 30, 0, [], 0)]
  | 30 => [(some (.iconst (-1)), 0, 0, [], (-1)), (some (.ireturn), 0, 0, [], 0)]
  | 32 => [(some (.iload_n 3), 0, 0, [], 0), (some (.istore 4), 0, 0, [], 0), (some (.iconst 0), 0, 0, [], 0), (some (.istore 5), 0, 0, [], 0), (some (.iconst 0), 0, 0, [], 0), (some (.istore 6), 0, 0, [], 0), (none, 41, 0, [], 0)]
  | 41 => [(some (.iload 6), 0, 0, [], 0), (some (.aload_n 0), 0, 0, [], 0), (some (.getfield 135), 8, 18, [], 0), (some (.if_icmp .ge 120), 167, 0, [], 0), (some (.iload 4), 0, 0, [], 0), (some (.ifCond .le 115), 167, 0, [], 0), (some (.aload_n 0), 0, 0, [], 0), (some (.getfield 50), 8, 19, [], 0), (some (.iload 6), 0, 0, [], 0), (some (.iaload), 0, 0, [], 0), (some (.iload_n 2), 0, 0, [], 0), (some (.if_icmp .ne 98), 161, 0, [], 0), (some (.aload_n 0), 0, 0, [], 0), (some (.getfield 62), 8, 23, [], 0), (some (.iload 6), 0, 0, [], 0), (some (.baload), 0, 0, [], 0), (some (.ifCond .ne 88), 161, 0, [], 0), (some (.aload_n 0), 0, 0, [], 0), (some (.getfield 53), 8, 20, [], 0), (some (.iload 6), 0, 0, [], 0), (some (.iaload), 0, 0, [], 0), (some (.ifCond .ne 6), 89, 0, [], 0), (some (.goto 75), 161, 0, [], 0)]
  | 89 => [(some (.aload_n 0), 0, 0, [], 0), (some (.getfield 53), 8, 20, [], 0), (some (.iload 6), 0, 0, [], 0), (some (.iaload), 0, 0, [], 0), (some (.iload 4), 0, 0, [], 0), (some (.if_icmp .ge 13), 111, 0, [], 0), (some (.aload_n 0), 0, 0, [], 0), (some (.getfield 53), 8, 20, [], 0), (some (.iload 6), 0, 0, [], 0), (some (.iaload), 0, 0, [], 0), (some (.goto 5), 113, 0, [], 0)]
  | 111 => [(some (.iload 4), 0, 0, [], 0), (none, 113, 0, [], 0)]
  | 113 => [(some (.istore 7), 0, 0, [], 0), (some (.aload_n 0), 0, 0, [], 0), (some (.getfield 53), 8, 20, [], 0), (some (.iload 6), 0, 0, [], 0), (some (.dup2), 0, 0, [], 0), (some (.iaload), 0, 0, [], 0), (some (.iload 7), 0, 0, [], 0), (some (.isub), 0, 0, [], 0), (some (.iastore), 0, 0, [], 0), (some (.iload 4), 0, 0, [], 0), (some (.iload 7), 0, 0, [], 0), (some (.isub), 0, 0, [], 0), (some (.istore 4), 0, 0, [], 0), (some (.iload 5), 0, 0, [], 0), (some (.iload 7), 0, 0, [], 0), (some (.aload_n 0), 0, 0, [], 0), (some (.iload 6), 0, 0, [], 0), (some (.invokevirtual 192), 97, 2, [], 0), (some (.imul), 0, 0, [], 0), (some (.iadd), 0, 0, [], 0), (some (.istore 5), 0, 0, [], 0), (some (.aload_n 0), 0, 0, [], 0), (some (.getfield 65), 8, 24, [], 0), (some (.iload 6), 0, 0, [], 0), (some (.dup2), 0, 0, [], 0), (some (.iaload), 0, 0, [], 0), (some (.iconst 1), 0, 0, [], 1), (some (.iload_n 1), 0, 0, [], 0), (some (.ishl), 0, 0, [], 0), (some (.ior), 0, 0, [], 0), (some (.iastore), 0, 0, [], 0), (none, 161, 0, [], 0)]
  | 161 => [(some (.iinc 6 1), 0, 0, [], 1), (some (.goto (-123)), 41, 0, [], 0)]
  | 167 => [(some (.aload_n 0), 0, 0, [], 0), (some (.dup), 0, 0, [], 0), (some (.getfield 195), 8, 26, [], 0), (some (.iload 5), 0, 0, [], 0), (some (.iadd), 0, 0, [], 0), (some (.putfield 195), 8, 26, [], 0), (some (.iload_n 3), 0, 0, [], 0), (some (.istore 4), 0, 0, [], 0), (some (.iconst 0), 0, 0, [], 0), (some (.istore 6), 0, 0, [], 0), (none, 184, 0, [], 0)]
  | 184 => [(some (.iload 6), 0, 0, [], 0), (some (.bipush 30), 0, 0, [], 30), (some (.if_icmp .ge 135), 323, 0, [], 0), (some (.iconst 0), 0, 0, [], 0), (some (.istore 7), 0, 0, [], 0), (none, 194, 0, [], 0)]
  | 194 => [(some (.iload 7), 0, 0, [], 0), (some (.aload_n 0), 0, 0, [], 0), (some (.getfield 173), 8, 27, [], 0), (some (.if_icmp .ge 117), 317, 0, [], 0), (some (.aload_n 0), 0, 0, [], 0), (some (.getfield 86), 8, 33, [], 0), (some (.iload 7), 0, 0, [], 0), (some (.baload), 0, 0, [], 0), (some (.ifCond .ne 101), 311, 0, [], 0), (some (.aload_n 0), 0, 0, [], 0), (some (.getfield 80), 8, 31, [], 0), (some (.iload 7), 0, 0, [], 0), (some (.iaload), 0, 0, [], 0), (some (.iload 6), 0, 0, [], 0), (some (.if_icmp .ne 89), 311, 0, [], 0), (some (.aload_n 0), 0, 0, [], 0), (some (.getfield 71), 8, 28, [], 0), (some (.iload 7), 0, 0, [], 0), (some (.iaload), 0, 0, [], 0), (some (.iload_n 1), 0, 0, [], 0), (some (.if_icmp .ne 78), 311, 0, [], 0), (some (.aload_n 0), 0, 0, [], 0), (some (.getfield 74), 8, 29, [], 0), (some (.iload 7), 0, 0, [], 0), (some (.iaload), 0, 0, [], 0), (some (.iload_n 2), 0, 0, [], 0), (some (.if_icmp .eq 6), 250, 0, [], 0), (some (.goto 64), 311, 0, [], 0)]
  | 250 => [(some (.aload_n 0), 0, 0, [], 0), (some (.getfield 77), 8, 30, [], 0), (some (.iload 7), 0, 0, [], 0), (some (.iaload), 0, 0, [], 0), (some (.aload_n 0), 0, 0, [], 0), (some (.getfield 83), 8, 32, [], 0), (some (.iload 7), 0, 0, [], 0), (some (.iaload), 0, 0, [], 0), (some (.isub), 0, 0, [], 0), (some (.iload 4), 0, 0, [], 0), (some (.if_icmp .ge 21), 288, 0, [], 0), (some (.aload_n 0), 0, 0, [], 0), (some (.getfield 77), 8, 30, [], 0), (some (.iload 7), 0, 0, [], 0), (some (.iaload), 0, 0, [], 0), (some (.aload_n 0), 0, 0, [], 0), (some (.getfield 83), 8, 32, [], 0), (some (.iload 7), 0, 0, [], 0), (some (.iaload), 0, 0, [], 0), (some (.isub), 0, 0, [], 0), (some (.goto 5), 290, 0, [], 0)]
  | 288 => [(some (.iload 4), 0, 0, [], 0), (none, 290, 0, [], 0)]
  | 290 => [(some (.istore 8), 0, 0, [], 0), (some (.aload_n 0), 0, 0, [], 0), (some (.getfield 83), 8, 32, [], 0), (some (.iload 7), 0, 0, [], 0), (some (.dup2), 0, 0, [], 0), (some (.iaload), 0, 0, [], 0), (some (.iload 8), 0, 0, [], 0), (some (.iadd), 0, 0, [], 0), (some (.iastore), 0, 0, [], 0), (some (.iload 4), 0, 0, [], 0), (some (.iload 8), 0, 0, [], 0), (some (.isub), 0, 0, [], 0), (some (.istore 4), 0, 0, [], 0), (none, 311, 0, [], 0)]
  | 311 => [(some (.iinc 7 1), 0, 0, [], 1), (some (.goto (-120)), 194, 0, [], 0)]
  | 317 => [(some (.iinc 6 1), 0, 0, [], 1), (some (.goto (-136)), 184, 0, [], 0)]
  | 323 => [(some (.iload 5), 0, 0, [], 0), (some (.ireturn), 0, 0, [], 0)]
  | _ => []
theorem lb_99_0 : lab_99 0 = [(some (.iload_n 1), 0, 0, [], 0), (some (.iconst 0), 0, 0, [], 0), (some (.iconst 5), 0, 0, [], 5), (some (.invokestatic 102), 68, 3, [], 0), (some (.ifCond .eq 24), 30, 0, [], 0), (some (.aload_n 0), 0, 0, [], 0), (some (.iload_n 2), 0, 0, [], 0), (some (.invokevirtual 132), 77, 2, [], 0), (some (.ifCond .eq 16), 30, 0, [], 0), (some (.iload_n 3), 0, 0, [], 0), (some (.iconst 1), 0, 0, [], 1), (some (.aload_n 0), 0, 0, [], 0), (some (.iload_n 2), 0, 0, [], 0), (some (.invokevirtual 189), 98, 2, [], 0), (some (.invokestatic 102), 68, 3, [], 0), (some (.ifCond .ne 5), 32, 0, [], 0), (none, 30, 0, [], 0)] := rfl
theorem lb_99_30 : lab_99 30 = [(some (.iconst (-1)), 0, 0, [], (-1)), (some (.ireturn), 0, 0, [], 0)] := rfl
theorem lb_99_32 : lab_99 32 = [(some (.iload_n 3), 0, 0, [], 0), (some (.istore 4), 0, 0, [], 0), (some (.iconst 0), 0, 0, [], 0), (some (.istore 5), 0, 0, [], 0), (some (.iconst 0), 0, 0, [], 0), (some (.istore 6), 0, 0, [], 0), (none, 41, 0, [], 0)] := rfl
theorem lb_99_41 : lab_99 41 = [(some (.iload 6), 0, 0, [], 0), (some (.aload_n 0), 0, 0, [], 0), (some (.getfield 135), 8, 18, [], 0), (some (.if_icmp .ge 120), 167, 0, [], 0), (some (.iload 4), 0, 0, [], 0), (some (.ifCond .le 115), 167, 0, [], 0), (some (.aload_n 0), 0, 0, [], 0), (some (.getfield 50), 8, 19, [], 0), (some (.iload 6), 0, 0, [], 0), (some (.iaload), 0, 0, [], 0), (some (.iload_n 2), 0, 0, [], 0), (some (.if_icmp .ne 98), 161, 0, [], 0), (some (.aload_n 0), 0, 0, [], 0), (some (.getfield 62), 8, 23, [], 0), (some (.iload 6), 0, 0, [], 0), (some (.baload), 0, 0, [], 0), (some (.ifCond .ne 88), 161, 0, [], 0), (some (.aload_n 0), 0, 0, [], 0), (some (.getfield 53), 8, 20, [], 0), (some (.iload 6), 0, 0, [], 0), (some (.iaload), 0, 0, [], 0), (some (.ifCond .ne 6), 89, 0, [], 0), (some (.goto 75), 161, 0, [], 0)] := rfl
theorem lb_99_89 : lab_99 89 = [(some (.aload_n 0), 0, 0, [], 0), (some (.getfield 53), 8, 20, [], 0), (some (.iload 6), 0, 0, [], 0), (some (.iaload), 0, 0, [], 0), (some (.iload 4), 0, 0, [], 0), (some (.if_icmp .ge 13), 111, 0, [], 0), (some (.aload_n 0), 0, 0, [], 0), (some (.getfield 53), 8, 20, [], 0), (some (.iload 6), 0, 0, [], 0), (some (.iaload), 0, 0, [], 0), (some (.goto 5), 113, 0, [], 0)] := rfl
theorem lb_99_111 : lab_99 111 = [(some (.iload 4), 0, 0, [], 0), (none, 113, 0, [], 0)] := rfl
theorem lb_99_113 : lab_99 113 = [(some (.istore 7), 0, 0, [], 0), (some (.aload_n 0), 0, 0, [], 0), (some (.getfield 53), 8, 20, [], 0), (some (.iload 6), 0, 0, [], 0), (some (.dup2), 0, 0, [], 0), (some (.iaload), 0, 0, [], 0), (some (.iload 7), 0, 0, [], 0), (some (.isub), 0, 0, [], 0), (some (.iastore), 0, 0, [], 0), (some (.iload 4), 0, 0, [], 0), (some (.iload 7), 0, 0, [], 0), (some (.isub), 0, 0, [], 0), (some (.istore 4), 0, 0, [], 0), (some (.iload 5), 0, 0, [], 0), (some (.iload 7), 0, 0, [], 0), (some (.aload_n 0), 0, 0, [], 0), (some (.iload 6), 0, 0, [], 0), (some (.invokevirtual 192), 97, 2, [], 0), (some (.imul), 0, 0, [], 0), (some (.iadd), 0, 0, [], 0), (some (.istore 5), 0, 0, [], 0), (some (.aload_n 0), 0, 0, [], 0), (some (.getfield 65), 8, 24, [], 0), (some (.iload 6), 0, 0, [], 0), (some (.dup2), 0, 0, [], 0), (some (.iaload), 0, 0, [], 0), (some (.iconst 1), 0, 0, [], 1), (some (.iload_n 1), 0, 0, [], 0), (some (.ishl), 0, 0, [], 0), (some (.ior), 0, 0, [], 0), (some (.iastore), 0, 0, [], 0), (none, 161, 0, [], 0)] := rfl
theorem lb_99_161 : lab_99 161 = [(some (.iinc 6 1), 0, 0, [], 1), (some (.goto (-123)), 41, 0, [], 0)] := rfl
theorem lb_99_167 : lab_99 167 = [(some (.aload_n 0), 0, 0, [], 0), (some (.dup), 0, 0, [], 0), (some (.getfield 195), 8, 26, [], 0), (some (.iload 5), 0, 0, [], 0), (some (.iadd), 0, 0, [], 0), (some (.putfield 195), 8, 26, [], 0), (some (.iload_n 3), 0, 0, [], 0), (some (.istore 4), 0, 0, [], 0), (some (.iconst 0), 0, 0, [], 0), (some (.istore 6), 0, 0, [], 0), (none, 184, 0, [], 0)] := rfl
theorem lb_99_184 : lab_99 184 = [(some (.iload 6), 0, 0, [], 0), (some (.bipush 30), 0, 0, [], 30), (some (.if_icmp .ge 135), 323, 0, [], 0), (some (.iconst 0), 0, 0, [], 0), (some (.istore 7), 0, 0, [], 0), (none, 194, 0, [], 0)] := rfl
theorem lb_99_194 : lab_99 194 = [(some (.iload 7), 0, 0, [], 0), (some (.aload_n 0), 0, 0, [], 0), (some (.getfield 173), 8, 27, [], 0), (some (.if_icmp .ge 117), 317, 0, [], 0), (some (.aload_n 0), 0, 0, [], 0), (some (.getfield 86), 8, 33, [], 0), (some (.iload 7), 0, 0, [], 0), (some (.baload), 0, 0, [], 0), (some (.ifCond .ne 101), 311, 0, [], 0), (some (.aload_n 0), 0, 0, [], 0), (some (.getfield 80), 8, 31, [], 0), (some (.iload 7), 0, 0, [], 0), (some (.iaload), 0, 0, [], 0), (some (.iload 6), 0, 0, [], 0), (some (.if_icmp .ne 89), 311, 0, [], 0), (some (.aload_n 0), 0, 0, [], 0), (some (.getfield 71), 8, 28, [], 0), (some (.iload 7), 0, 0, [], 0), (some (.iaload), 0, 0, [], 0), (some (.iload_n 1), 0, 0, [], 0), (some (.if_icmp .ne 78), 311, 0, [], 0), (some (.aload_n 0), 0, 0, [], 0), (some (.getfield 74), 8, 29, [], 0), (some (.iload 7), 0, 0, [], 0), (some (.iaload), 0, 0, [], 0), (some (.iload_n 2), 0, 0, [], 0), (some (.if_icmp .eq 6), 250, 0, [], 0), (some (.goto 64), 311, 0, [], 0)] := rfl
theorem lb_99_250 : lab_99 250 = [(some (.aload_n 0), 0, 0, [], 0), (some (.getfield 77), 8, 30, [], 0), (some (.iload 7), 0, 0, [], 0), (some (.iaload), 0, 0, [], 0), (some (.aload_n 0), 0, 0, [], 0), (some (.getfield 83), 8, 32, [], 0), (some (.iload 7), 0, 0, [], 0), (some (.iaload), 0, 0, [], 0), (some (.isub), 0, 0, [], 0), (some (.iload 4), 0, 0, [], 0), (some (.if_icmp .ge 21), 288, 0, [], 0), (some (.aload_n 0), 0, 0, [], 0), (some (.getfield 77), 8, 30, [], 0), (some (.iload 7), 0, 0, [], 0), (some (.iaload), 0, 0, [], 0), (some (.aload_n 0), 0, 0, [], 0), (some (.getfield 83), 8, 32, [], 0), (some (.iload 7), 0, 0, [], 0), (some (.iaload), 0, 0, [], 0), (some (.isub), 0, 0, [], 0), (some (.goto 5), 290, 0, [], 0)] := rfl
theorem lb_99_288 : lab_99 288 = [(some (.iload 4), 0, 0, [], 0), (none, 290, 0, [], 0)] := rfl
theorem lb_99_290 : lab_99 290 = [(some (.istore 8), 0, 0, [], 0), (some (.aload_n 0), 0, 0, [], 0), (some (.getfield 83), 8, 32, [], 0), (some (.iload 7), 0, 0, [], 0), (some (.dup2), 0, 0, [], 0), (some (.iaload), 0, 0, [], 0), (some (.iload 8), 0, 0, [], 0), (some (.iadd), 0, 0, [], 0), (some (.iastore), 0, 0, [], 0), (some (.iload 4), 0, 0, [], 0), (some (.iload 8), 0, 0, [], 0), (some (.isub), 0, 0, [], 0), (some (.istore 4), 0, 0, [], 0), (none, 311, 0, [], 0)] := rfl
theorem lb_99_311 : lab_99 311 = [(some (.iinc 7 1), 0, 0, [], 1), (some (.goto (-120)), 194, 0, [], 0)] := rfl
theorem lb_99_317 : lab_99 317 = [(some (.iinc 6 1), 0, 0, [], 1), (some (.goto (-136)), 184, 0, [], 0)] := rfl
theorem lb_99_323 : lab_99 323 = [(some (.iload 5), 0, 0, [], 0), (some (.ireturn), 0, 0, [], 0)] := rfl
set_option maxRecDepth 20000 in
theorem ok_99 : ∀ t, mm_okc (mm_m 99) t (lab_99 t) = true := by
  intro t
  unfold lab_99
  split <;> first | decide +kernel | rfl
/-! X8_contract -/
def lab_100 : Nat → List mm_E := fun t => match t with
  | 0 => [(some (.iload_n 1), 0, 0, [], 0), (some (.iconst 0), 0, 0, [], 0), (some (.iconst 5), 0, 0, [], 5), (some (.invokestatic 102), 68, 3, [], 0), (some (.ifCond .eq 49), 55, 0, [], 0), (some (.aload_n 0), 0, 0, [], 0), (some (.iload_n 2), 0, 0, [], 0), (some (.invokevirtual 132), 77, 2, [], 0), (some (.ifCond .eq 41), 55, 0, [], 0), (some (.iload_n 3), 0, 0, [], 0), (some (.iconst 1), 0, 0, [], 1), (some (.sipush 500), 0, 0, [], 500), (some (.invokestatic 102), 68, 3, [], 0), (some (.ifCond .eq 30), 55, 0, [], 0), (some (.iload 4), 0, 0, [], 0), (some (.aload_n 0), 0, 0, [], 0), (some (.getfield 106), 8, 0, [], 0), (some (.sipush 168), 0, 0, [], 168), (some (.idiv), 0, 0, [], 0), (some (.bipush 29), 0, 0, [], 29), (some (.invokestatic 102), 68, 3, [], 0), (some (.ifCond .eq 12), 55, 0, [], 0), (some (.aload_n 0), 0, 0, [], 0), (some (.getfield 173), 8, 27, [], 0), (some (.bipush 20), 0, 0, [], 20), (some (.if_icmp .ne 5), 57, 0, [], 0), (none, 55, 0, [], 0)]
  | 55 => [(some (.iconst (-1)), 0, 0, [], (-1)), (some (.ireturn), 0, 0, [], 0)]
  | 57 => [(some (.aload_n 0), 0, 0, [], 0), (some (.getfield 71), 8, 28, [], 0), (some (.aload_n 0), 0, 0, [], 0), (some (.getfield 173), 8, 27, [], 0), (some (.iload_n 1), 0, 0, [], 0), (some (.iastore), 0, 0, [], 0), (some (.aload_n 0), 0, 0, [], 0), (some (.getfield 74), 8, 29, [], 0), (some (.aload_n 0), 0, 0, [], 0), (some (.getfield 173), 8, 27, [], 0), (some (.iload_n 2), 0, 0, [], 0), (some (.iastore), 0, 0, [], 0), (some (.aload_n 0), 0, 0, [], 0), (some (.getfield 77), 8, 30, [], 0), (some (.aload_n 0), 0, 0, [], 0), (some (.getfield 173), 8, 27, [], 0), (some (.iload_n 3), 0, 0, [], 0), (some (.iastore), 0, 0, [], 0), (some (.aload_n 0), 0, 0, [], 0), (some (.getfield 80), 8, 31, [], 0), (some (.aload_n 0), 0, 0, [], 0), (some (.getfield 173), 8, 27, [], 0), (some (.iload 4), 0, 0, [], 0), (some (.iastore), 0, 0, [], 0), (some (.aload_n 0), 0, 0, [], 0), (some (.dup), 0, 0, [], 0), (some (.getfield 173), 8, 27, [], 0), (some (.iconst 1), 0, 0, [], 1), (some (.iadd), 0, 0, [], 0), (some (.putfield 173), 8, 27, [], 0), (some (.aload_n 0), 0, 0, [], 0), (some (.getfield 173), 8, 27, [], 0), (some (.iconst 1), 0, 0, [], 1), (some (.isub), 0, 0, [], 0), (some (.ireturn), 0, 0, [], 0)]
  | _ => []
theorem lb_100_0 : lab_100 0 = [(some (.iload_n 1), 0, 0, [], 0), (some (.iconst 0), 0, 0, [], 0), (some (.iconst 5), 0, 0, [], 5), (some (.invokestatic 102), 68, 3, [], 0), (some (.ifCond .eq 49), 55, 0, [], 0), (some (.aload_n 0), 0, 0, [], 0), (some (.iload_n 2), 0, 0, [], 0), (some (.invokevirtual 132), 77, 2, [], 0), (some (.ifCond .eq 41), 55, 0, [], 0), (some (.iload_n 3), 0, 0, [], 0), (some (.iconst 1), 0, 0, [], 1), (some (.sipush 500), 0, 0, [], 500), (some (.invokestatic 102), 68, 3, [], 0), (some (.ifCond .eq 30), 55, 0, [], 0), (some (.iload 4), 0, 0, [], 0), (some (.aload_n 0), 0, 0, [], 0), (some (.getfield 106), 8, 0, [], 0), (some (.sipush 168), 0, 0, [], 168), (some (.idiv), 0, 0, [], 0), (some (.bipush 29), 0, 0, [], 29), (some (.invokestatic 102), 68, 3, [], 0), (some (.ifCond .eq 12), 55, 0, [], 0), (some (.aload_n 0), 0, 0, [], 0), (some (.getfield 173), 8, 27, [], 0), (some (.bipush 20), 0, 0, [], 20), (some (.if_icmp .ne 5), 57, 0, [], 0), (none, 55, 0, [], 0)] := rfl
theorem lb_100_55 : lab_100 55 = [(some (.iconst (-1)), 0, 0, [], (-1)), (some (.ireturn), 0, 0, [], 0)] := rfl
theorem lb_100_57 : lab_100 57 = [(some (.aload_n 0), 0, 0, [], 0), (some (.getfield 71), 8, 28, [], 0), (some (.aload_n 0), 0, 0, [], 0), (some (.getfield 173), 8, 27, [], 0), (some (.iload_n 1), 0, 0, [], 0), (some (.iastore), 0, 0, [], 0), (some (.aload_n 0), 0, 0, [], 0), (some (.getfield 74), 8, 29, [], 0), (some (.aload_n 0), 0, 0, [], 0), (some (.getfield 173), 8, 27, [], 0), (some (.iload_n 2), 0, 0, [], 0), (some (.iastore), 0, 0, [], 0), (some (.aload_n 0), 0, 0, [], 0), (some (.getfield 77), 8, 30, [], 0), (some (.aload_n 0), 0, 0, [], 0), (some (.getfield 173), 8, 27, [], 0), (some (.iload_n 3), 0, 0, [], 0), (some (.iastore), 0, 0, [], 0), (some (.aload_n 0), 0, 0, [], 0), (some (.getfield 80), 8, 31, [], 0), (some (.aload_n 0), 0, 0, [], 0), (some (.getfield 173), 8, 27, [], 0), (some (.iload 4), 0, 0, [], 0), (some (.iastore), 0, 0, [], 0), (some (.aload_n 0), 0, 0, [], 0), (some (.dup), 0, 0, [], 0), (some (.getfield 173), 8, 27, [], 0), (some (.iconst 1), 0, 0, [], 1), (some (.iadd), 0, 0, [], 0), (some (.putfield 173), 8, 27, [], 0), (some (.aload_n 0), 0, 0, [], 0), (some (.getfield 173), 8, 27, [], 0), (some (.iconst 1), 0, 0, [], 1), (some (.isub), 0, 0, [], 0), (some (.ireturn), 0, 0, [], 0)] := rfl
set_option maxRecDepth 20000 in
theorem ok_100 : ∀ t, mm_okc (mm_m 100) t (lab_100 t) = true := by
  intro t
  unfold lab_100
  split <;> first | decide +kernel | rfl
/-! X8_lacks -/
def lab_101 : Nat → List mm_E := fun t => match t with
  | 0 => [(some (.iload_n 1), 0, 0, [], 0), (some (.iconst 0), 0, 0, [], 0), (some (.aload_n 0), 0, 0, [], 0), (some (.getfield 173), 8, 27, [], 0), (some (.iconst 1), 0, 0, [], 1), (some (.isub), 0, 0, [], 0), (some (.invokestatic 102), 68, 3, [], 0), (some (.ifCond .eq 12), 23, 0, [], 0), (some (.aload_n 0), 0, 0, [], 0), (some (.getfield 86), 8, 33, [], 0), (some (.iload_n 1), 0, 0, [], 0), (some (.baload), 0, 0, [], 0), (some (.ifCond .eq 5), 25, 0, [], 0), (none, 23, 0, [], 0)]
  | 23 => [(some (.iconst (-1)), 0, 0, [], (-1)), (some (.ireturn), 0, 0, [], 0)]
  | 25 => [(some (.aload_n 0), 0, 0, [], 0), (some (.aload_n 0), 0, 0, [], 0), (some (.getfield 74), 8, 29, [], 0), (some (.iload_n 1), 0, 0, [], 0), (some (.iaload), 0, 0, [], 0), (some (.invokevirtual 189), 98, 2, [], 0), (some (.istore_n 2), 0, 0, [], 0), (some (.iconst 0), 0, 0, [], 0), (some (.istore_n 3), 0, 0, [], 0), (some (.iconst 0), 0, 0, [], 0), (some (.istore 4), 0, 0, [], 0), (none, 41, 0, [], 0)]
  | 41 => [(some (.iload 4), 0, 0, [], 0), (some (.aload_n 0), 0, 0, [], 0), (some (.getfield 173), 8, 27, [], 0), (some (.if_icmp .ge 110), 157, 0, [], 0), (some (.aload_n 0), 0, 0, [], 0), (some (.getfield 86), 8, 33, [], 0), (some (.iload 4), 0, 0, [], 0), (some (.baload), 0, 0, [], 0), (some (.ifCond .ne 94), 151, 0, [], 0), (some (.aload_n 0), 0, 0, [], 0), (some (.getfield 74), 8, 29, [], 0), (some (.iload 4), 0, 0, [], 0), (some (.iaload), 0, 0, [], 0), (some (.aload_n 0), 0, 0, [], 0), (some (.getfield 74), 8, 29, [], 0), (some (.iload_n 1), 0, 0, [], 0), (some (.iaload), 0, 0, [], 0), (some (.if_icmp .eq 6), 79, 0, [], 0), (some (.goto 75), 151, 0, [], 0)]
  | 79 => [(some (.aload_n 0), 0, 0, [], 0), (some (.getfield 80), 8, 31, [], 0), (some (.iload 4), 0, 0, [], 0), (some (.iaload), 0, 0, [], 0), (some (.aload_n 0), 0, 0, [], 0), (some (.getfield 80), 8, 31, [], 0), (some (.iload_n 1), 0, 0, [], 0), (some (.iaload), 0, 0, [], 0), (some (.if_icmp .lt 25), 117, 0, [], 0), (some (.aload_n 0), 0, 0, [], 0), (some (.getfield 80), 8, 31, [], 0), (some (.iload 4), 0, 0, [], 0), (some (.iaload), 0, 0, [], 0), (some (.aload_n 0), 0, 0, [], 0), (some (.getfield 80), 8, 31, [], 0), (some (.iload_n 1), 0, 0, [], 0), (some (.iaload), 0, 0, [], 0), (some (.if_icmp .ne 13), 121, 0, [], 0), (some (.iload 4), 0, 0, [], 0), (some (.iload_n 1), 0, 0, [], 0), (some (.if_icmp .ge 7), 121, 0, [], 0), (none, 117, 0, [], 0)]
  | 117 => [(some (.iconst 1), 0, 0, [], 1), (some (.goto 4), 122, 0, [], 0)]
  | 121 => [(some (.iconst 0), 0, 0, [], 0), (none, 122, 0, [], 0)]
  | 122 => [(some (.istore 5), 0, 0, [], 0), (some (.iload_n 3), 0, 0, [], 0), (some (.iload 5), 0, 0, [], 0), (some (.ifCond .eq 21), 148, 0, [], 0), (some (.aload_n 0), 0, 0, [], 0), (some (.getfield 77), 8, 30, [], 0), (some (.iload 4), 0, 0, [], 0), (some (.iaload), 0, 0, [], 0), (some (.aload_n 0), 0, 0, [], 0), (some (.getfield 83), 8, 32, [], 0), (some (.iload 4), 0, 0, [], 0), (some (.iaload), 0, 0, [], 0), (some (.isub), 0, 0, [], 0), (some (.goto 4), 149, 0, [], 0)]
  | 148 => [(some (.iconst 0), 0, 0, [], 0), (none, 149, 0, [], 0)]
  | 149 => [(some (.iadd), 0, 0, [], 0), (some (.istore_n 3), 0, 0, [], 0), (none, 151, 0, [], 0)]
  | 151 => [(some (.iinc 4 1), 0, 0, [], 1), (some (.goto (-113)), 41, 0, [], 0)]
  | 157 => [(some (.iload_n 2), 0, 0, [], 0), (some (.iload_n 3), 0, 0, [], 0), (some (.if_icmp .le 9), 168, 0, [], 0), (some (.iload_n 2), 0, 0, [], 0), (some (.iload_n 3), 0, 0, [], 0), (some (.isub), 0, 0, [], 0), (some (.goto 4), 169, 0, [], 0)]
  | 168 => [(some (.iconst 0), 0, 0, [], 0), (none, 169, 0, [], 0)]
  | 169 => [(some (.istore 4), 0, 0, [], 0), (some (.aload_n 0), 0, 0, [], 0), (some (.getfield 77), 8, 30, [], 0), (some (.iload_n 1), 0, 0, [], 0), (some (.iaload), 0, 0, [], 0), (some (.aload_n 0), 0, 0, [], 0), (some (.getfield 83), 8, 32, [], 0), (some (.iload_n 1), 0, 0, [], 0), (some (.iaload), 0, 0, [], 0), (some (.isub), 0, 0, [], 0), (some (.istore 5), 0, 0, [], 0), (some (.iload 5), 0, 0, [], 0), (some (.iload 4), 0, 0, [], 0), (some (.if_icmp .le 11), 201, 0, [], 0), (some (.iload 5), 0, 0, [], 0), (some (.iload 4), 0, 0, [], 0), (some (.isub), 0, 0, [], 0), (some (.goto 4), 202, 0, [], 0)]
  | 201 => [(some (.iconst 0), 0, 0, [], 0), (none, 202, 0, [], 0)]
  | 202 => [(some (.ireturn), 0, 0, [], 0)]
  | _ => []
theorem lb_101_0 : lab_101 0 = [(some (.iload_n 1), 0, 0, [], 0), (some (.iconst 0), 0, 0, [], 0), (some (.aload_n 0), 0, 0, [], 0), (some (.getfield 173), 8, 27, [], 0), (some (.iconst 1), 0, 0, [], 1), (some (.isub), 0, 0, [], 0), (some (.invokestatic 102), 68, 3, [], 0), (some (.ifCond .eq 12), 23, 0, [], 0), (some (.aload_n 0), 0, 0, [], 0), (some (.getfield 86), 8, 33, [], 0), (some (.iload_n 1), 0, 0, [], 0), (some (.baload), 0, 0, [], 0), (some (.ifCond .eq 5), 25, 0, [], 0), (none, 23, 0, [], 0)] := rfl
theorem lb_101_23 : lab_101 23 = [(some (.iconst (-1)), 0, 0, [], (-1)), (some (.ireturn), 0, 0, [], 0)] := rfl
theorem lb_101_25 : lab_101 25 = [(some (.aload_n 0), 0, 0, [], 0), (some (.aload_n 0), 0, 0, [], 0), (some (.getfield 74), 8, 29, [], 0), (some (.iload_n 1), 0, 0, [], 0), (some (.iaload), 0, 0, [], 0), (some (.invokevirtual 189), 98, 2, [], 0), (some (.istore_n 2), 0, 0, [], 0), (some (.iconst 0), 0, 0, [], 0), (some (.istore_n 3), 0, 0, [], 0), (some (.iconst 0), 0, 0, [], 0), (some (.istore 4), 0, 0, [], 0), (none, 41, 0, [], 0)] := rfl
theorem lb_101_41 : lab_101 41 = [(some (.iload 4), 0, 0, [], 0), (some (.aload_n 0), 0, 0, [], 0), (some (.getfield 173), 8, 27, [], 0), (some (.if_icmp .ge 110), 157, 0, [], 0), (some (.aload_n 0), 0, 0, [], 0), (some (.getfield 86), 8, 33, [], 0), (some (.iload 4), 0, 0, [], 0), (some (.baload), 0, 0, [], 0), (some (.ifCond .ne 94), 151, 0, [], 0), (some (.aload_n 0), 0, 0, [], 0), (some (.getfield 74), 8, 29, [], 0), (some (.iload 4), 0, 0, [], 0), (some (.iaload), 0, 0, [], 0), (some (.aload_n 0), 0, 0, [], 0), (some (.getfield 74), 8, 29, [], 0), (some (.iload_n 1), 0, 0, [], 0), (some (.iaload), 0, 0, [], 0), (some (.if_icmp .eq 6), 79, 0, [], 0), (some (.goto 75), 151, 0, [], 0)] := rfl
theorem lb_101_79 : lab_101 79 = [(some (.aload_n 0), 0, 0, [], 0), (some (.getfield 80), 8, 31, [], 0), (some (.iload 4), 0, 0, [], 0), (some (.iaload), 0, 0, [], 0), (some (.aload_n 0), 0, 0, [], 0), (some (.getfield 80), 8, 31, [], 0), (some (.iload_n 1), 0, 0, [], 0), (some (.iaload), 0, 0, [], 0), (some (.if_icmp .lt 25), 117, 0, [], 0), (some (.aload_n 0), 0, 0, [], 0), (some (.getfield 80), 8, 31, [], 0), (some (.iload 4), 0, 0, [], 0), (some (.iaload), 0, 0, [], 0), (some (.aload_n 0), 0, 0, [], 0), (some (.getfield 80), 8, 31, [], 0), (some (.iload_n 1), 0, 0, [], 0), (some (.iaload), 0, 0, [], 0), (some (.if_icmp .ne 13), 121, 0, [], 0), (some (.iload 4), 0, 0, [], 0), (some (.iload_n 1), 0, 0, [], 0), (some (.if_icmp .ge 7), 121, 0, [], 0), (none, 117, 0, [], 0)] := rfl
theorem lb_101_117 : lab_101 117 = [(some (.iconst 1), 0, 0, [], 1), (some (.goto 4), 122, 0, [], 0)] := rfl
theorem lb_101_121 : lab_101 121 = [(some (.iconst 0), 0, 0, [], 0), (none, 122, 0, [], 0)] := rfl
theorem lb_101_122 : lab_101 122 = [(some (.istore 5), 0, 0, [], 0), (some (.iload_n 3), 0, 0, [], 0), (some (.iload 5), 0, 0, [], 0), (some (.ifCond .eq 21), 148, 0, [], 0), (some (.aload_n 0), 0, 0, [], 0), (some (.getfield 77), 8, 30, [], 0), (some (.iload 4), 0, 0, [], 0), (some (.iaload), 0, 0, [], 0), (some (.aload_n 0), 0, 0, [], 0), (some (.getfield 83), 8, 32, [], 0), (some (.iload 4), 0, 0, [], 0), (some (.iaload), 0, 0, [], 0), (some (.isub), 0, 0, [], 0), (some (.goto 4), 149, 0, [], 0)] := rfl
theorem lb_101_148 : lab_101 148 = [(some (.iconst 0), 0, 0, [], 0), (none, 149, 0, [], 0)] := rfl
theorem lb_101_149 : lab_101 149 = [(some (.iadd), 0, 0, [], 0), (some (.istore_n 3), 0, 0, [], 0), (none, 151, 0, [], 0)] := rfl
theorem lb_101_151 : lab_101 151 = [(some (.iinc 4 1), 0, 0, [], 1), (some (.goto (-113)), 41, 0, [], 0)] := rfl
theorem lb_101_157 : lab_101 157 = [(some (.iload_n 2), 0, 0, [], 0), (some (.iload_n 3), 0, 0, [], 0), (some (.if_icmp .le 9), 168, 0, [], 0), (some (.iload_n 2), 0, 0, [], 0), (some (.iload_n 3), 0, 0, [], 0), (some (.isub), 0, 0, [], 0), (some (.goto 4), 169, 0, [], 0)] := rfl
theorem lb_101_168 : lab_101 168 = [(some (.iconst 0), 0, 0, [], 0), (none, 169, 0, [], 0)] := rfl
theorem lb_101_169 : lab_101 169 = [(some (.istore 4), 0, 0, [], 0), (some (.aload_n 0), 0, 0, [], 0), (some (.getfield 77), 8, 30, [], 0), (some (.iload_n 1), 0, 0, [], 0), (some (.iaload), 0, 0, [], 0), (some (.aload_n 0), 0, 0, [], 0), (some (.getfield 83), 8, 32, [], 0), (some (.iload_n 1), 0, 0, [], 0), (some (.iaload), 0, 0, [], 0), (some (.isub), 0, 0, [], 0), (some (.istore 5), 0, 0, [], 0), (some (.iload 5), 0, 0, [], 0), (some (.iload 4), 0, 0, [], 0), (some (.if_icmp .le 11), 201, 0, [], 0), (some (.iload 5), 0, 0, [], 0), (some (.iload 4), 0, 0, [], 0), (some (.isub), 0, 0, [], 0), (some (.goto 4), 202, 0, [], 0)] := rfl
theorem lb_101_201 : lab_101 201 = [(some (.iconst 0), 0, 0, [], 0), (none, 202, 0, [], 0)] := rfl
theorem lb_101_202 : lab_101 202 = [(some (.ireturn), 0, 0, [], 0)] := rfl
set_option maxRecDepth 20000 in
theorem ok_101 : ∀ t, mm_okc (mm_m 101) t (lab_101 t) = true := by
  intro t
  unfold lab_101
  split <;> first | decide +kernel | rfl
/-! X8_recall -/
def lab_102 : Nat → List mm_E := fun t => match t with
  | 0 => [(some (.aload_n 0), 0, 0, [], 0), (some (.iload_n 1), 0, 0, [], 0), (some (.invokevirtual 118), 69, 2, [], 0), (some (.ifCond .eq 12), 17, 0, [], 0), (some (.aload_n 0), 0, 0, [], 0), (some (.getfield 23), 8, 6, [], 0), (some (.iload_n 1), 0, 0, [], 0), (some (.baload), 0, 0, [], 0), (some (.ifCond .eq 5), 19, 0, [], 0), (none, 17, 0, [], 0)]
  | 17 => [(some (.iconst (-1)), 0, 0, [], (-1)), (some (.ireturn), 0, 0, [], 0)]
  | 19 => [(some (.aload_n 0), 0, 0, [], 0), (some (.getfield 23), 8, 6, [], 0), (some (.iload_n 1), 0, 0, [], 0), (some (.iconst 1), 0, 0, [], 1), (some (.bastore), 0, 0, [], 0), (some (.iconst 0), 0, 0, [], 0), (some (.istore_n 2), 0, 0, [], 0), (some (.iconst 0), 0, 0, [], 0), (some (.istore_n 3), 0, 0, [], 0), (none, 30, 0, [], 0)]
  | 30 => [(some (.iload_n 3), 0, 0, [], 0), (some (.aload_n 0), 0, 0, [], 0), (some (.getfield 135), 8, 18, [], 0), (some (.if_icmp .ge 42), 77, 0, [], 0), (some (.aload_n 0), 0, 0, [], 0), (some (.getfield 68), 8, 25, [], 0), (some (.bipush 60), 0, 0, [], 60), (some (.iload_n 3), 0, 0, [], 0), (some (.imul), 0, 0, [], 0), (some (.iload_n 1), 0, 0, [], 0), (some (.iadd), 0, 0, [], 0), (some (.iaload), 0, 0, [], 0), (some (.ifCond .ne 6), 55, 0, [], 0), (some (.goto 19), 71, 0, [], 0)]
  | 55 => [(some (.aload_n 0), 0, 0, [], 0), (some (.getfield 62), 8, 23, [], 0), (some (.iload_n 3), 0, 0, [], 0), (some (.iconst 1), 0, 0, [], 1), (some (.bastore), 0, 0, [], 0), (some (.iload_n 2), 0, 0, [], 0), (some (.aload_n 0), 0, 0, [], 0), (some (.getfield 65), 8, 24, [], 0), (some (.iload_n 3), 0, 0, [], 0), (some (.iaload), 0, 0, [], 0), (some (.ior), 0, 0, [], 0), (some (.istore_n 2), 0, 0, [], 0), (none, 71, 0, [], 0)]
  | 71 => [(some (.iinc 3 1), 0, 0, [], 1), (some (.goto (-44)), 30, 0, [], 0)]
  | 77 => [(some (.iload_n 2), 0, 0, [], 0), (some (.ireturn), 0, 0, [], 0)]
  | _ => []
theorem lb_102_0 : lab_102 0 = [(some (.aload_n 0), 0, 0, [], 0), (some (.iload_n 1), 0, 0, [], 0), (some (.invokevirtual 118), 69, 2, [], 0), (some (.ifCond .eq 12), 17, 0, [], 0), (some (.aload_n 0), 0, 0, [], 0), (some (.getfield 23), 8, 6, [], 0), (some (.iload_n 1), 0, 0, [], 0), (some (.baload), 0, 0, [], 0), (some (.ifCond .eq 5), 19, 0, [], 0), (none, 17, 0, [], 0)] := rfl
theorem lb_102_17 : lab_102 17 = [(some (.iconst (-1)), 0, 0, [], (-1)), (some (.ireturn), 0, 0, [], 0)] := rfl
theorem lb_102_19 : lab_102 19 = [(some (.aload_n 0), 0, 0, [], 0), (some (.getfield 23), 8, 6, [], 0), (some (.iload_n 1), 0, 0, [], 0), (some (.iconst 1), 0, 0, [], 1), (some (.bastore), 0, 0, [], 0), (some (.iconst 0), 0, 0, [], 0), (some (.istore_n 2), 0, 0, [], 0), (some (.iconst 0), 0, 0, [], 0), (some (.istore_n 3), 0, 0, [], 0), (none, 30, 0, [], 0)] := rfl
theorem lb_102_30 : lab_102 30 = [(some (.iload_n 3), 0, 0, [], 0), (some (.aload_n 0), 0, 0, [], 0), (some (.getfield 135), 8, 18, [], 0), (some (.if_icmp .ge 42), 77, 0, [], 0), (some (.aload_n 0), 0, 0, [], 0), (some (.getfield 68), 8, 25, [], 0), (some (.bipush 60), 0, 0, [], 60), (some (.iload_n 3), 0, 0, [], 0), (some (.imul), 0, 0, [], 0), (some (.iload_n 1), 0, 0, [], 0), (some (.iadd), 0, 0, [], 0), (some (.iaload), 0, 0, [], 0), (some (.ifCond .ne 6), 55, 0, [], 0), (some (.goto 19), 71, 0, [], 0)] := rfl
theorem lb_102_55 : lab_102 55 = [(some (.aload_n 0), 0, 0, [], 0), (some (.getfield 62), 8, 23, [], 0), (some (.iload_n 3), 0, 0, [], 0), (some (.iconst 1), 0, 0, [], 1), (some (.bastore), 0, 0, [], 0), (some (.iload_n 2), 0, 0, [], 0), (some (.aload_n 0), 0, 0, [], 0), (some (.getfield 65), 8, 24, [], 0), (some (.iload_n 3), 0, 0, [], 0), (some (.iaload), 0, 0, [], 0), (some (.ior), 0, 0, [], 0), (some (.istore_n 2), 0, 0, [], 0), (none, 71, 0, [], 0)] := rfl
theorem lb_102_71 : lab_102 71 = [(some (.iinc 3 1), 0, 0, [], 1), (some (.goto (-44)), 30, 0, [], 0)] := rfl
theorem lb_102_77 : lab_102 77 = [(some (.iload_n 2), 0, 0, [], 0), (some (.ireturn), 0, 0, [], 0)] := rfl
set_option maxRecDepth 20000 in
theorem ok_102 : ∀ t, mm_okc (mm_m 102) t (lab_102 t) = true := by
  intro t
  unfold lab_102
  split <;> first | decide +kernel | rfl
/-! X8_lot -/
def lab_103 : Nat → List mm_E := fun t => match t with
  | 0 => [(some (.aload_n 0), 0, 0, [], 0), (some (.iload_n 1), 0, 0, [], 0), (some (.invokevirtual 118), 69, 2, [], 0), (some (.ifCond .ne 5), 10, 0, [], 0), (some (.iconst (-1)), 0, 0, [], (-1)), (some (.ireturn), 0, 0, [], 0)]
  | 10 => [(some (.iload_n 2), 0, 0, [], 0), (some (.tableswitch 83 0 4 #[33, 40, 47, 53, 68]), 94, 33, [44, 51, 58, 64, 79], 0)]
  | 44 => [(some (.aload_n 0), 0, 0, [], 0), (some (.getfield 9), 8, 2, [], 0), (some (.iload_n 1), 0, 0, [], 0), (some (.iaload), 0, 0, [], 0), (some (.ireturn), 0, 0, [], 0)]
  | 51 => [(some (.aload_n 0), 0, 0, [], 0), (some (.getfield 13), 8, 3, [], 0), (some (.iload_n 1), 0, 0, [], 0), (some (.iaload), 0, 0, [], 0), (some (.ireturn), 0, 0, [], 0)]
  | 58 => [(some (.aload_n 0), 0, 0, [], 0), (some (.iload_n 1), 0, 0, [], 0), (some (.invokevirtual 109), 70, 2, [], 0), (some (.ireturn), 0, 0, [], 0)]
  | 64 => [(some (.aload_n 0), 0, 0, [], 0), (some (.getfield 19), 8, 5, [], 0), (some (.iload_n 1), 0, 0, [], 0), (some (.baload), 0, 0, [], 0), (some (.ifCond .eq 7), 77, 0, [], 0), (some (.iconst 1), 0, 0, [], 1), (some (.goto 4), 78, 0, [], 0)]
  | 77 => [(some (.iconst 0), 0, 0, [], 0), (none, 78, 0, [], 0)]
  | 78 => [(some (.ireturn), 0, 0, [], 0)]
  | 79 => [(some (.aload_n 0), 0, 0, [], 0), (some (.getfield 23), 8, 6, [], 0), (some (.iload_n 1), 0, 0, [], 0), (some (.baload), 0, 0, [], 0), (some (.ifCond .eq 7), 92, 0, [], 0), (some (.iconst 1), 0, 0, [], 1), (some (.goto 4), 93, 0, [], 0)]
  | 92 => [(some (.iconst 0), 0, 0, [], 0), (none, 93, 0, [], 0)]
  | 93 => [(some (.ireturn), 0, 0, [], 0)]
  | 94 => [(some (.iconst (-1)), 0, 0, [], (-1)), (some (.ireturn), 0, 0, [], 0)]
  | _ => []
theorem lb_103_0 : lab_103 0 = [(some (.aload_n 0), 0, 0, [], 0), (some (.iload_n 1), 0, 0, [], 0), (some (.invokevirtual 118), 69, 2, [], 0), (some (.ifCond .ne 5), 10, 0, [], 0), (some (.iconst (-1)), 0, 0, [], (-1)), (some (.ireturn), 0, 0, [], 0)] := rfl
theorem lb_103_10 : lab_103 10 = [(some (.iload_n 2), 0, 0, [], 0), (some (.tableswitch 83 0 4 #[33, 40, 47, 53, 68]), 94, 33, [44, 51, 58, 64, 79], 0)] := rfl
theorem lb_103_44 : lab_103 44 = [(some (.aload_n 0), 0, 0, [], 0), (some (.getfield 9), 8, 2, [], 0), (some (.iload_n 1), 0, 0, [], 0), (some (.iaload), 0, 0, [], 0), (some (.ireturn), 0, 0, [], 0)] := rfl
theorem lb_103_51 : lab_103 51 = [(some (.aload_n 0), 0, 0, [], 0), (some (.getfield 13), 8, 3, [], 0), (some (.iload_n 1), 0, 0, [], 0), (some (.iaload), 0, 0, [], 0), (some (.ireturn), 0, 0, [], 0)] := rfl
theorem lb_103_58 : lab_103 58 = [(some (.aload_n 0), 0, 0, [], 0), (some (.iload_n 1), 0, 0, [], 0), (some (.invokevirtual 109), 70, 2, [], 0), (some (.ireturn), 0, 0, [], 0)] := rfl
theorem lb_103_64 : lab_103 64 = [(some (.aload_n 0), 0, 0, [], 0), (some (.getfield 19), 8, 5, [], 0), (some (.iload_n 1), 0, 0, [], 0), (some (.baload), 0, 0, [], 0), (some (.ifCond .eq 7), 77, 0, [], 0), (some (.iconst 1), 0, 0, [], 1), (some (.goto 4), 78, 0, [], 0)] := rfl
theorem lb_103_77 : lab_103 77 = [(some (.iconst 0), 0, 0, [], 0), (none, 78, 0, [], 0)] := rfl
theorem lb_103_78 : lab_103 78 = [(some (.ireturn), 0, 0, [], 0)] := rfl
theorem lb_103_79 : lab_103 79 = [(some (.aload_n 0), 0, 0, [], 0), (some (.getfield 23), 8, 6, [], 0), (some (.iload_n 1), 0, 0, [], 0), (some (.baload), 0, 0, [], 0), (some (.ifCond .eq 7), 92, 0, [], 0), (some (.iconst 1), 0, 0, [], 1), (some (.goto 4), 93, 0, [], 0)] := rfl
theorem lb_103_92 : lab_103 92 = [(some (.iconst 0), 0, 0, [], 0), (none, 93, 0, [], 0)] := rfl
theorem lb_103_93 : lab_103 93 = [(some (.ireturn), 0, 0, [], 0)] := rfl
theorem lb_103_94 : lab_103 94 = [(some (.iconst (-1)), 0, 0, [], (-1)), (some (.ireturn), 0, 0, [], 0)] := rfl
set_option maxRecDepth 20000 in
theorem ok_103 : ∀ t, mm_okc (mm_m 103) t (lab_103 t) = true := by
  intro t
  unfold lab_103
  split <;> first | decide +kernel | rfl
/-! X8_batch -/
def lab_104 : Nat → List mm_E := fun t => match t with
  | 0 => [(some (.iload_n 1), 0, 0, [], 0), (some (.iconst 0), 0, 0, [], 0), (some (.aload_n 0), 0, 0, [], 0), (some (.getfield 135), 8, 18, [], 0), (some (.iconst 1), 0, 0, [], 1), (some (.isub), 0, 0, [], 0), (some (.invokestatic 102), 68, 3, [], 0), (some (.ifCond .ne 5), 16, 0, [], 0), (some (.iconst (-1)), 0, 0, [], (-1)), (some (.ireturn), 0, 0, [], 0)]
  | 16 => [(some (.iload_n 2), 0, 0, [], 0), (some (.tableswitch 88 0 5 #[39, 46, 53, 60, 75, 82]), 105, 39, [56, 63, 70, 77, 92, 99], 0)]
  | 56 => [(some (.aload_n 0), 0, 0, [], 0), (some (.getfield 50), 8, 19, [], 0), (some (.iload_n 1), 0, 0, [], 0), (some (.iaload), 0, 0, [], 0), (some (.ireturn), 0, 0, [], 0)]
  | 63 => [(some (.aload_n 0), 0, 0, [], 0), (some (.getfield 53), 8, 20, [], 0), (some (.iload_n 1), 0, 0, [], 0), (some (.iaload), 0, 0, [], 0), (some (.ireturn), 0, 0, [], 0)]
  | 70 => [(some (.aload_n 0), 0, 0, [], 0), (some (.getfield 59), 8, 22, [], 0), (some (.iload_n 1), 0, 0, [], 0), (some (.iaload), 0, 0, [], 0), (some (.ireturn), 0, 0, [], 0)]
  | 77 => [(some (.aload_n 0), 0, 0, [], 0), (some (.getfield 62), 8, 23, [], 0), (some (.iload_n 1), 0, 0, [], 0), (some (.baload), 0, 0, [], 0), (some (.ifCond .eq 7), 90, 0, [], 0), (some (.iconst 1), 0, 0, [], 1), (some (.goto 4), 91, 0, [], 0)]
  | 90 => [(some (.iconst 0), 0, 0, [], 0), (none, 91, 0, [], 0)]
  | 91 => [(some (.ireturn), 0, 0, [], 0)]
  | 92 => [(some (.aload_n 0), 0, 0, [], 0), (some (.getfield 56), 8, 21, [], 0), (some (.iload_n 1), 0, 0, [], 0), (some (.iaload), 0, 0, [], 0), (some (.ireturn), 0, 0, [], 0)]
  | 99 => [(some (.aload_n 0), 0, 0, [], 0), (some (.iload_n 1), 0, 0, [], 0), (some (.invokevirtual 192), 97, 2, [], 0), (some (.ireturn), 0, 0, [], 0)]
  | 105 => [(some (.iconst (-1)), 0, 0, [], (-1)), (some (.ireturn), 0, 0, [], 0)]
  | _ => []
theorem lb_104_0 : lab_104 0 = [(some (.iload_n 1), 0, 0, [], 0), (some (.iconst 0), 0, 0, [], 0), (some (.aload_n 0), 0, 0, [], 0), (some (.getfield 135), 8, 18, [], 0), (some (.iconst 1), 0, 0, [], 1), (some (.isub), 0, 0, [], 0), (some (.invokestatic 102), 68, 3, [], 0), (some (.ifCond .ne 5), 16, 0, [], 0), (some (.iconst (-1)), 0, 0, [], (-1)), (some (.ireturn), 0, 0, [], 0)] := rfl
theorem lb_104_16 : lab_104 16 = [(some (.iload_n 2), 0, 0, [], 0), (some (.tableswitch 88 0 5 #[39, 46, 53, 60, 75, 82]), 105, 39, [56, 63, 70, 77, 92, 99], 0)] := rfl
theorem lb_104_56 : lab_104 56 = [(some (.aload_n 0), 0, 0, [], 0), (some (.getfield 50), 8, 19, [], 0), (some (.iload_n 1), 0, 0, [], 0), (some (.iaload), 0, 0, [], 0), (some (.ireturn), 0, 0, [], 0)] := rfl
theorem lb_104_63 : lab_104 63 = [(some (.aload_n 0), 0, 0, [], 0), (some (.getfield 53), 8, 20, [], 0), (some (.iload_n 1), 0, 0, [], 0), (some (.iaload), 0, 0, [], 0), (some (.ireturn), 0, 0, [], 0)] := rfl
theorem lb_104_70 : lab_104 70 = [(some (.aload_n 0), 0, 0, [], 0), (some (.getfield 59), 8, 22, [], 0), (some (.iload_n 1), 0, 0, [], 0), (some (.iaload), 0, 0, [], 0), (some (.ireturn), 0, 0, [], 0)] := rfl
theorem lb_104_77 : lab_104 77 = [(some (.aload_n 0), 0, 0, [], 0), (some (.getfield 62), 8, 23, [], 0), (some (.iload_n 1), 0, 0, [], 0), (some (.baload), 0, 0, [], 0), (some (.ifCond .eq 7), 90, 0, [], 0), (some (.iconst 1), 0, 0, [], 1), (some (.goto 4), 91, 0, [], 0)] := rfl
theorem lb_104_90 : lab_104 90 = [(some (.iconst 0), 0, 0, [], 0), (none, 91, 0, [], 0)] := rfl
theorem lb_104_91 : lab_104 91 = [(some (.ireturn), 0, 0, [], 0)] := rfl
theorem lb_104_92 : lab_104 92 = [(some (.aload_n 0), 0, 0, [], 0), (some (.getfield 56), 8, 21, [], 0), (some (.iload_n 1), 0, 0, [], 0), (some (.iaload), 0, 0, [], 0), (some (.ireturn), 0, 0, [], 0)] := rfl
theorem lb_104_99 : lab_104 99 = [(some (.aload_n 0), 0, 0, [], 0), (some (.iload_n 1), 0, 0, [], 0), (some (.invokevirtual 192), 97, 2, [], 0), (some (.ireturn), 0, 0, [], 0)] := rfl
theorem lb_104_105 : lab_104 105 = [(some (.iconst (-1)), 0, 0, [], (-1)), (some (.ireturn), 0, 0, [], 0)] := rfl
set_option maxRecDepth 20000 in
theorem ok_104 : ∀ t, mm_okc (mm_m 104) t (lab_104 t) = true := by
  intro t
  unfold lab_104
  split <;> first | decide +kernel | rfl
/-! X8_of -/
def lab_105 : Nat → List mm_E := fun t => match t with
  | 0 => [(some (.iload_n 1), 0, 0, [], 0), (some (.iconst 0), 0, 0, [], 0), (some (.aload_n 0), 0, 0, [], 0), (some (.getfield 135), 8, 18, [], 0), (some (.iconst 1), 0, 0, [], 1), (some (.isub), 0, 0, [], 0), (some (.invokestatic 102), 68, 3, [], 0), (some (.ifCond .eq 25), 36, 0, [], 0), (some (.aload_n 0), 0, 0, [], 0), (some (.iload_n 2), 0, 0, [], 0), (some (.invokevirtual 118), 69, 2, [], 0), (some (.ifCond .eq 17), 36, 0, [], 0), (some (.aload_n 0), 0, 0, [], 0), (some (.getfield 68), 8, 25, [], 0), (some (.bipush 60), 0, 0, [], 60), (some (.iload_n 1), 0, 0, [], 0), (some (.imul), 0, 0, [], 0), (some (.iload_n 2), 0, 0, [], 0), (some (.iadd), 0, 0, [], 0), (some (.iaload), 0, 0, [], 0), (some (.goto 4), 37, 0, [], 0)]
  | 36 => [(some (.iconst (-1)), 0, 0, [], (-1)), (none, 37, 0, [], 0)]
  | 37 => [(some (.ireturn), 0, 0, [], 0)]
  | _ => []
theorem lb_105_0 : lab_105 0 = [(some (.iload_n 1), 0, 0, [], 0), (some (.iconst 0), 0, 0, [], 0), (some (.aload_n 0), 0, 0, [], 0), (some (.getfield 135), 8, 18, [], 0), (some (.iconst 1), 0, 0, [], 1), (some (.isub), 0, 0, [], 0), (some (.invokestatic 102), 68, 3, [], 0), (some (.ifCond .eq 25), 36, 0, [], 0), (some (.aload_n 0), 0, 0, [], 0), (some (.iload_n 2), 0, 0, [], 0), (some (.invokevirtual 118), 69, 2, [], 0), (some (.ifCond .eq 17), 36, 0, [], 0), (some (.aload_n 0), 0, 0, [], 0), (some (.getfield 68), 8, 25, [], 0), (some (.bipush 60), 0, 0, [], 60), (some (.iload_n 1), 0, 0, [], 0), (some (.imul), 0, 0, [], 0), (some (.iload_n 2), 0, 0, [], 0), (some (.iadd), 0, 0, [], 0), (some (.iaload), 0, 0, [], 0), (some (.goto 4), 37, 0, [], 0)] := rfl
theorem lb_105_36 : lab_105 36 = [(some (.iconst (-1)), 0, 0, [], (-1)), (none, 37, 0, [], 0)] := rfl
theorem lb_105_37 : lab_105 37 = [(some (.ireturn), 0, 0, [], 0)] := rfl
set_option maxRecDepth 20000 in
theorem ok_105 : ∀ t, mm_okc (mm_m 105) t (lab_105 t) = true := by
  intro t
  unfold lab_105
  split <;> first | decide +kernel | rfl
/-! X8_cooker -/
def lab_106 : Nat → List mm_E := fun t => match t with
  | 0 => [(some (.iload_n 1), 0, 0, [], 0), (some (.iconst 0), 0, 0, [], 0), (some (.iconst 2), 0, 0, [], 2), (some (.invokestatic 102), 68, 3, [], 0), (some (.ifCond .ne 5), 11, 0, [], 0), (some (.iconst (-1)), 0, 0, [], (-1)), (some (.ireturn), 0, 0, [], 0)]
  | 11 => [(some (.aload_n 0), 0, 0, [], 0), (some (.getfield 38), 8, 13, [], 0), (some (.iload_n 1), 0, 0, [], 0), (some (.iaload), 0, 0, [], 0), (some (.iconst (-1)), 0, 0, [], (-1)), (some (.if_icmp .eq 7), 25, 0, [], 0), (some (.iconst 1), 0, 0, [], 1), (some (.goto 4), 26, 0, [], 0)]
  | 25 => [(some (.iconst 0), 0, 0, [], 0), (none, 26, 0, [], 0)]
  | 26 => [(some (.istore_n 3), 0, 0, [], 0), (some (.iload_n 2), 0, 0, [], 0), (some (.tableswitch 65 0 2 #[28, 35, 50]), 93, 28, [56, 63, 78], 0)]
  | 56 => [(some (.aload_n 0), 0, 0, [], 0), (some (.getfield 38), 8, 13, [], 0), (some (.iload_n 1), 0, 0, [], 0), (some (.iaload), 0, 0, [], 0), (some (.ireturn), 0, 0, [], 0)]
  | 63 => [(some (.iload_n 3), 0, 0, [], 0), (some (.ifCond .eq 12), 76, 0, [], 0), (some (.aload_n 0), 0, 0, [], 0), (some (.getfield 41), 8, 14, [], 0), (some (.iload_n 1), 0, 0, [], 0), (some (.iaload), 0, 0, [], 0), (some (.goto 4), 77, 0, [], 0)]
  | 76 => [(some (.iconst 0), 0, 0, [], 0), (none, 77, 0, [], 0)]
  | 77 => [(some (.ireturn), 0, 0, [], 0)]
  | 78 => [(some (.iload_n 3), 0, 0, [], 0), (some (.ifCond .eq 12), 91, 0, [], 0), (some (.aload_n 0), 0, 0, [], 0), (some (.getfield 44), 8, 15, [], 0), (some (.iload_n 1), 0, 0, [], 0), (some (.iaload), 0, 0, [], 0), (some (.goto 4), 92, 0, [], 0)]
  | 91 => [(some (.iconst (-1)), 0, 0, [], (-1)), (none, 92, 0, [], 0)]
  | 92 => [(some (.ireturn), 0, 0, [], 0)]
  | 93 => [(some (.iconst (-1)), 0, 0, [], (-1)), (some (.ireturn), 0, 0, [], 0)]
  | _ => []
theorem lb_106_0 : lab_106 0 = [(some (.iload_n 1), 0, 0, [], 0), (some (.iconst 0), 0, 0, [], 0), (some (.iconst 2), 0, 0, [], 2), (some (.invokestatic 102), 68, 3, [], 0), (some (.ifCond .ne 5), 11, 0, [], 0), (some (.iconst (-1)), 0, 0, [], (-1)), (some (.ireturn), 0, 0, [], 0)] := rfl
theorem lb_106_11 : lab_106 11 = [(some (.aload_n 0), 0, 0, [], 0), (some (.getfield 38), 8, 13, [], 0), (some (.iload_n 1), 0, 0, [], 0), (some (.iaload), 0, 0, [], 0), (some (.iconst (-1)), 0, 0, [], (-1)), (some (.if_icmp .eq 7), 25, 0, [], 0), (some (.iconst 1), 0, 0, [], 1), (some (.goto 4), 26, 0, [], 0)] := rfl
theorem lb_106_25 : lab_106 25 = [(some (.iconst 0), 0, 0, [], 0), (none, 26, 0, [], 0)] := rfl
theorem lb_106_26 : lab_106 26 = [(some (.istore_n 3), 0, 0, [], 0), (some (.iload_n 2), 0, 0, [], 0), (some (.tableswitch 65 0 2 #[28, 35, 50]), 93, 28, [56, 63, 78], 0)] := rfl
theorem lb_106_56 : lab_106 56 = [(some (.aload_n 0), 0, 0, [], 0), (some (.getfield 38), 8, 13, [], 0), (some (.iload_n 1), 0, 0, [], 0), (some (.iaload), 0, 0, [], 0), (some (.ireturn), 0, 0, [], 0)] := rfl
theorem lb_106_63 : lab_106 63 = [(some (.iload_n 3), 0, 0, [], 0), (some (.ifCond .eq 12), 76, 0, [], 0), (some (.aload_n 0), 0, 0, [], 0), (some (.getfield 41), 8, 14, [], 0), (some (.iload_n 1), 0, 0, [], 0), (some (.iaload), 0, 0, [], 0), (some (.goto 4), 77, 0, [], 0)] := rfl
theorem lb_106_76 : lab_106 76 = [(some (.iconst 0), 0, 0, [], 0), (none, 77, 0, [], 0)] := rfl
theorem lb_106_77 : lab_106 77 = [(some (.ireturn), 0, 0, [], 0)] := rfl
theorem lb_106_78 : lab_106 78 = [(some (.iload_n 3), 0, 0, [], 0), (some (.ifCond .eq 12), 91, 0, [], 0), (some (.aload_n 0), 0, 0, [], 0), (some (.getfield 44), 8, 15, [], 0), (some (.iload_n 1), 0, 0, [], 0), (some (.iaload), 0, 0, [], 0), (some (.goto 4), 92, 0, [], 0)] := rfl
theorem lb_106_91 : lab_106 91 = [(some (.iconst (-1)), 0, 0, [], (-1)), (none, 92, 0, [], 0)] := rfl
theorem lb_106_92 : lab_106 92 = [(some (.ireturn), 0, 0, [], 0)] := rfl
theorem lb_106_93 : lab_106 93 = [(some (.iconst (-1)), 0, 0, [], (-1)), (some (.ireturn), 0, 0, [], 0)] := rfl
set_option maxRecDepth 20000 in
theorem ok_106 : ∀ t, mm_okc (mm_m 106) t (lab_106 t) = true := by
  intro t
  unfold lab_106
  split <;> first | decide +kernel | rfl
/-! X8_told -/
def lab_107 : Nat → List mm_E := fun t => match t with
  | 0 => [(some (.iload_n 1), 0, 0, [], 0), (some (.iconst 0), 0, 0, [], 0), (some (.aload_n 0), 0, 0, [], 0), (some (.getfield 173), 8, 27, [], 0), (some (.iconst 1), 0, 0, [], 1), (some (.isub), 0, 0, [], 0), (some (.invokestatic 102), 68, 3, [], 0), (some (.ifCond .ne 5), 16, 0, [], 0), (some (.iconst (-1)), 0, 0, [], (-1)), (some (.ireturn), 0, 0, [], 0)]
  | 16 => [(some (.iload_n 2), 0, 0, [], 0), (some (.tableswitch 89 0 5 #[39, 46, 53, 60, 67, 74]), 106, 39, [56, 63, 70, 77, 84, 91], 0)]
  | 56 => [(some (.aload_n 0), 0, 0, [], 0), (some (.getfield 71), 8, 28, [], 0), (some (.iload_n 1), 0, 0, [], 0), (some (.iaload), 0, 0, [], 0), (some (.ireturn), 0, 0, [], 0)]
  | 63 => [(some (.aload_n 0), 0, 0, [], 0), (some (.getfield 74), 8, 29, [], 0), (some (.iload_n 1), 0, 0, [], 0), (some (.iaload), 0, 0, [], 0), (some (.ireturn), 0, 0, [], 0)]
  | 70 => [(some (.aload_n 0), 0, 0, [], 0), (some (.getfield 77), 8, 30, [], 0), (some (.iload_n 1), 0, 0, [], 0), (some (.iaload), 0, 0, [], 0), (some (.ireturn), 0, 0, [], 0)]
  | 77 => [(some (.aload_n 0), 0, 0, [], 0), (some (.getfield 80), 8, 31, [], 0), (some (.iload_n 1), 0, 0, [], 0), (some (.iaload), 0, 0, [], 0), (some (.ireturn), 0, 0, [], 0)]
  | 84 => [(some (.aload_n 0), 0, 0, [], 0), (some (.getfield 83), 8, 32, [], 0), (some (.iload_n 1), 0, 0, [], 0), (some (.iaload), 0, 0, [], 0), (some (.ireturn), 0, 0, [], 0)]
  | 91 => [(some (.aload_n 0), 0, 0, [], 0), (some (.getfield 86), 8, 33, [], 0), (some (.iload_n 1), 0, 0, [], 0), (some (.baload), 0, 0, [], 0), (some (.ifCond .eq 7), 104, 0, [], 0), (some (.iconst 1), 0, 0, [], 1), (some (.goto 4), 105, 0, [], 0)]
  | 104 => [(some (.iconst 0), 0, 0, [], 0), (none, 105, 0, [], 0)]
  | 105 => [(some (.ireturn), 0, 0, [], 0)]
  | 106 => [(some (.iconst (-1)), 0, 0, [], (-1)), (some (.ireturn), 0, 0, [], 0)]
  | _ => []
theorem lb_107_0 : lab_107 0 = [(some (.iload_n 1), 0, 0, [], 0), (some (.iconst 0), 0, 0, [], 0), (some (.aload_n 0), 0, 0, [], 0), (some (.getfield 173), 8, 27, [], 0), (some (.iconst 1), 0, 0, [], 1), (some (.isub), 0, 0, [], 0), (some (.invokestatic 102), 68, 3, [], 0), (some (.ifCond .ne 5), 16, 0, [], 0), (some (.iconst (-1)), 0, 0, [], (-1)), (some (.ireturn), 0, 0, [], 0)] := rfl
theorem lb_107_16 : lab_107 16 = [(some (.iload_n 2), 0, 0, [], 0), (some (.tableswitch 89 0 5 #[39, 46, 53, 60, 67, 74]), 106, 39, [56, 63, 70, 77, 84, 91], 0)] := rfl
theorem lb_107_56 : lab_107 56 = [(some (.aload_n 0), 0, 0, [], 0), (some (.getfield 71), 8, 28, [], 0), (some (.iload_n 1), 0, 0, [], 0), (some (.iaload), 0, 0, [], 0), (some (.ireturn), 0, 0, [], 0)] := rfl
theorem lb_107_63 : lab_107 63 = [(some (.aload_n 0), 0, 0, [], 0), (some (.getfield 74), 8, 29, [], 0), (some (.iload_n 1), 0, 0, [], 0), (some (.iaload), 0, 0, [], 0), (some (.ireturn), 0, 0, [], 0)] := rfl
theorem lb_107_70 : lab_107 70 = [(some (.aload_n 0), 0, 0, [], 0), (some (.getfield 77), 8, 30, [], 0), (some (.iload_n 1), 0, 0, [], 0), (some (.iaload), 0, 0, [], 0), (some (.ireturn), 0, 0, [], 0)] := rfl
theorem lb_107_77 : lab_107 77 = [(some (.aload_n 0), 0, 0, [], 0), (some (.getfield 80), 8, 31, [], 0), (some (.iload_n 1), 0, 0, [], 0), (some (.iaload), 0, 0, [], 0), (some (.ireturn), 0, 0, [], 0)] := rfl
theorem lb_107_84 : lab_107 84 = [(some (.aload_n 0), 0, 0, [], 0), (some (.getfield 83), 8, 32, [], 0), (some (.iload_n 1), 0, 0, [], 0), (some (.iaload), 0, 0, [], 0), (some (.ireturn), 0, 0, [], 0)] := rfl
theorem lb_107_91 : lab_107 91 = [(some (.aload_n 0), 0, 0, [], 0), (some (.getfield 86), 8, 33, [], 0), (some (.iload_n 1), 0, 0, [], 0), (some (.baload), 0, 0, [], 0), (some (.ifCond .eq 7), 104, 0, [], 0), (some (.iconst 1), 0, 0, [], 1), (some (.goto 4), 105, 0, [], 0)] := rfl
theorem lb_107_104 : lab_107 104 = [(some (.iconst 0), 0, 0, [], 0), (none, 105, 0, [], 0)] := rfl
theorem lb_107_105 : lab_107 105 = [(some (.ireturn), 0, 0, [], 0)] := rfl
theorem lb_107_106 : lab_107 106 = [(some (.iconst (-1)), 0, 0, [], (-1)), (some (.ireturn), 0, 0, [], 0)] := rfl
set_option maxRecDepth 20000 in
theorem ok_107 : ∀ t, mm_okc (mm_m 107) t (lab_107 t) = true := by
  intro t
  unfold lab_107
  split <;> first | decide +kernel | rfl
/-! X8_count -/
def lab_108 : Nat → List mm_E := fun t => match t with
  | 0 => [(some (.iconst 0), 0, 0, [], 0), (some (.istore_n 2), 0, 0, [], 0), (some (.iload_n 1), 0, 0, [], 0), (some (.tableswitch 208 0 13 #[69, 74, 79, 106, 129, 159, 164, 169, 174, 179, 184, 189, 194, 201]), 211, 69, [72, 77, 82, 109, 132, 162, 167, 172, 177, 182, 187, 192, 197, 204], 0)]
  | 72 => [(some (.aload_n 0), 0, 0, [], 0), (some (.getfield 106), 8, 0, [], 0), (some (.ireturn), 0, 0, [], 0)]
  | 77 => [(some (.aload_n 0), 0, 0, [], 0), (some (.getfield 98), 8, 1, [], 0), (some (.ireturn), 0, 0, [], 0)]
  | 82 => [(some (.iconst 0), 0, 0, [], 0), (some (.istore_n 3), 0, 0, [], 0), (none, 84, 0, [], 0)]
  | 84 => [(some (.iload_n 3), 0, 0, [], 0), (some (.aload_n 0), 0, 0, [], 0), (some (.getfield 98), 8, 1, [], 0), (some (.if_icmp .ge 18), 107, 0, [], 0), (some (.iload_n 2), 0, 0, [], 0), (some (.aload_n 0), 0, 0, [], 0), (some (.getfield 13), 8, 3, [], 0), (some (.iload_n 3), 0, 0, [], 0), (some (.iaload), 0, 0, [], 0), (some (.iadd), 0, 0, [], 0), (some (.istore_n 2), 0, 0, [], 0), (some (.iinc 3 1), 0, 0, [], 1), (some (.goto (-20)), 84, 0, [], 0)]
  | 107 => [(some (.iload_n 2), 0, 0, [], 0), (some (.ireturn), 0, 0, [], 0)]
  | 109 => [(some (.iconst 0), 0, 0, [], 0), (some (.istore_n 3), 0, 0, [], 0), (none, 111, 0, [], 0)]
  | 111 => [(some (.iload_n 3), 0, 0, [], 0), (some (.iconst 3), 0, 0, [], 3), (some (.if_icmp .ge 17), 130, 0, [], 0), (some (.iload_n 2), 0, 0, [], 0), (some (.aload_n 0), 0, 0, [], 0), (some (.iload_n 3), 0, 0, [], 0), (some (.invokevirtual 160), 88, 2, [], 0), (some (.iadd), 0, 0, [], 0), (some (.istore_n 2), 0, 0, [], 0), (some (.iinc 3 1), 0, 0, [], 1), (some (.goto (-16)), 111, 0, [], 0)]
  | 130 => [(some (.iload_n 2), 0, 0, [], 0), (some (.ireturn), 0, 0, [], 0)]
  | 132 => [(some (.iconst 0), 0, 0, [], 0), (some (.istore_n 3), 0, 0, [], 0), (none, 134, 0, [], 0)]
  | 134 => [(some (.iload_n 3), 0, 0, [], 0), (some (.aload_n 0), 0, 0, [], 0), (some (.getfield 135), 8, 18, [], 0), (some (.bipush 60), 0, 0, [], 60), (some (.imul), 0, 0, [], 0), (some (.if_icmp .ge 18), 160, 0, [], 0), (some (.iload_n 2), 0, 0, [], 0), (some (.aload_n 0), 0, 0, [], 0), (some (.getfield 68), 8, 25, [], 0), (some (.iload_n 3), 0, 0, [], 0), (some (.iaload), 0, 0, [], 0), (some (.iadd), 0, 0, [], 0), (some (.istore_n 2), 0, 0, [], 0), (some (.iinc 3 1), 0, 0, [], 1), (some (.goto (-23)), 134, 0, [], 0)]
  | 160 => [(some (.iload_n 2), 0, 0, [], 0), (some (.ireturn), 0, 0, [], 0)]
  | 162 => [(some (.aload_n 0), 0, 0, [], 0), (some (.getfield 163), 8, 17, [], 0), (some (.ireturn), 0, 0, [], 0)]
  | 167 => [(some (.aload_n 0), 0, 0, [], 0), (some (.getfield 135), 8, 18, [], 0), (some (.ireturn), 0, 0, [], 0)]
  | 172 => [(some (.aload_n 0), 0, 0, [], 0), (some (.invokevirtual 154), 83, 1, [], 0), (some (.ireturn), 0, 0, [], 0)]
  | 177 => [(some (.aload_n 0), 0, 0, [], 0), (some (.getfield 151), 8, 12, [], 0), (some (.ireturn), 0, 0, [], 0)]
  | 182 => [(some (.aload_n 0), 0, 0, [], 0), (some (.getfield 195), 8, 26, [], 0), (some (.ireturn), 0, 0, [], 0)]
  | 187 => [(some (.aload_n 0), 0, 0, [], 0), (some (.getfield 176), 8, 34, [], 0), (some (.ireturn), 0, 0, [], 0)]
  | 192 => [(some (.aload_n 0), 0, 0, [], 0), (some (.getfield 114), 8, 7, [], 0), (some (.ireturn), 0, 0, [], 0)]
  | 197 => [(some (.aload_n 0), 0, 0, [], 0), (some (.getfield 32), 8, 10, [], 0), (some (.iconst 0), 0, 0, [], 0), (some (.iaload), 0, 0, [], 0), (some (.ireturn), 0, 0, [], 0)]
  | 204 => [(some (.aload_n 0), 0, 0, [], 0), (some (.getfield 32), 8, 10, [], 0), (some (.iconst 1), 0, 0, [], 1), (some (.iaload), 0, 0, [], 0), (some (.ireturn), 0, 0, [], 0)]
  | 211 => [(some (.iconst (-1)), 0, 0, [], (-1)), (some (.ireturn), 0, 0, [], 0)]
  | _ => []
theorem lb_108_0 : lab_108 0 = [(some (.iconst 0), 0, 0, [], 0), (some (.istore_n 2), 0, 0, [], 0), (some (.iload_n 1), 0, 0, [], 0), (some (.tableswitch 208 0 13 #[69, 74, 79, 106, 129, 159, 164, 169, 174, 179, 184, 189, 194, 201]), 211, 69, [72, 77, 82, 109, 132, 162, 167, 172, 177, 182, 187, 192, 197, 204], 0)] := rfl
theorem lb_108_72 : lab_108 72 = [(some (.aload_n 0), 0, 0, [], 0), (some (.getfield 106), 8, 0, [], 0), (some (.ireturn), 0, 0, [], 0)] := rfl
theorem lb_108_77 : lab_108 77 = [(some (.aload_n 0), 0, 0, [], 0), (some (.getfield 98), 8, 1, [], 0), (some (.ireturn), 0, 0, [], 0)] := rfl
theorem lb_108_82 : lab_108 82 = [(some (.iconst 0), 0, 0, [], 0), (some (.istore_n 3), 0, 0, [], 0), (none, 84, 0, [], 0)] := rfl
theorem lb_108_84 : lab_108 84 = [(some (.iload_n 3), 0, 0, [], 0), (some (.aload_n 0), 0, 0, [], 0), (some (.getfield 98), 8, 1, [], 0), (some (.if_icmp .ge 18), 107, 0, [], 0), (some (.iload_n 2), 0, 0, [], 0), (some (.aload_n 0), 0, 0, [], 0), (some (.getfield 13), 8, 3, [], 0), (some (.iload_n 3), 0, 0, [], 0), (some (.iaload), 0, 0, [], 0), (some (.iadd), 0, 0, [], 0), (some (.istore_n 2), 0, 0, [], 0), (some (.iinc 3 1), 0, 0, [], 1), (some (.goto (-20)), 84, 0, [], 0)] := rfl
theorem lb_108_107 : lab_108 107 = [(some (.iload_n 2), 0, 0, [], 0), (some (.ireturn), 0, 0, [], 0)] := rfl
theorem lb_108_109 : lab_108 109 = [(some (.iconst 0), 0, 0, [], 0), (some (.istore_n 3), 0, 0, [], 0), (none, 111, 0, [], 0)] := rfl
theorem lb_108_111 : lab_108 111 = [(some (.iload_n 3), 0, 0, [], 0), (some (.iconst 3), 0, 0, [], 3), (some (.if_icmp .ge 17), 130, 0, [], 0), (some (.iload_n 2), 0, 0, [], 0), (some (.aload_n 0), 0, 0, [], 0), (some (.iload_n 3), 0, 0, [], 0), (some (.invokevirtual 160), 88, 2, [], 0), (some (.iadd), 0, 0, [], 0), (some (.istore_n 2), 0, 0, [], 0), (some (.iinc 3 1), 0, 0, [], 1), (some (.goto (-16)), 111, 0, [], 0)] := rfl
theorem lb_108_130 : lab_108 130 = [(some (.iload_n 2), 0, 0, [], 0), (some (.ireturn), 0, 0, [], 0)] := rfl
theorem lb_108_132 : lab_108 132 = [(some (.iconst 0), 0, 0, [], 0), (some (.istore_n 3), 0, 0, [], 0), (none, 134, 0, [], 0)] := rfl
theorem lb_108_134 : lab_108 134 = [(some (.iload_n 3), 0, 0, [], 0), (some (.aload_n 0), 0, 0, [], 0), (some (.getfield 135), 8, 18, [], 0), (some (.bipush 60), 0, 0, [], 60), (some (.imul), 0, 0, [], 0), (some (.if_icmp .ge 18), 160, 0, [], 0), (some (.iload_n 2), 0, 0, [], 0), (some (.aload_n 0), 0, 0, [], 0), (some (.getfield 68), 8, 25, [], 0), (some (.iload_n 3), 0, 0, [], 0), (some (.iaload), 0, 0, [], 0), (some (.iadd), 0, 0, [], 0), (some (.istore_n 2), 0, 0, [], 0), (some (.iinc 3 1), 0, 0, [], 1), (some (.goto (-23)), 134, 0, [], 0)] := rfl
theorem lb_108_160 : lab_108 160 = [(some (.iload_n 2), 0, 0, [], 0), (some (.ireturn), 0, 0, [], 0)] := rfl
theorem lb_108_162 : lab_108 162 = [(some (.aload_n 0), 0, 0, [], 0), (some (.getfield 163), 8, 17, [], 0), (some (.ireturn), 0, 0, [], 0)] := rfl
theorem lb_108_167 : lab_108 167 = [(some (.aload_n 0), 0, 0, [], 0), (some (.getfield 135), 8, 18, [], 0), (some (.ireturn), 0, 0, [], 0)] := rfl
theorem lb_108_172 : lab_108 172 = [(some (.aload_n 0), 0, 0, [], 0), (some (.invokevirtual 154), 83, 1, [], 0), (some (.ireturn), 0, 0, [], 0)] := rfl
theorem lb_108_177 : lab_108 177 = [(some (.aload_n 0), 0, 0, [], 0), (some (.getfield 151), 8, 12, [], 0), (some (.ireturn), 0, 0, [], 0)] := rfl
theorem lb_108_182 : lab_108 182 = [(some (.aload_n 0), 0, 0, [], 0), (some (.getfield 195), 8, 26, [], 0), (some (.ireturn), 0, 0, [], 0)] := rfl
theorem lb_108_187 : lab_108 187 = [(some (.aload_n 0), 0, 0, [], 0), (some (.getfield 176), 8, 34, [], 0), (some (.ireturn), 0, 0, [], 0)] := rfl
theorem lb_108_192 : lab_108 192 = [(some (.aload_n 0), 0, 0, [], 0), (some (.getfield 114), 8, 7, [], 0), (some (.ireturn), 0, 0, [], 0)] := rfl
theorem lb_108_197 : lab_108 197 = [(some (.aload_n 0), 0, 0, [], 0), (some (.getfield 32), 8, 10, [], 0), (some (.iconst 0), 0, 0, [], 0), (some (.iaload), 0, 0, [], 0), (some (.ireturn), 0, 0, [], 0)] := rfl
theorem lb_108_204 : lab_108 204 = [(some (.aload_n 0), 0, 0, [], 0), (some (.getfield 32), 8, 10, [], 0), (some (.iconst 1), 0, 0, [], 1), (some (.iaload), 0, 0, [], 0), (some (.ireturn), 0, 0, [], 0)] := rfl
theorem lb_108_211 : lab_108 211 = [(some (.iconst (-1)), 0, 0, [], (-1)), (some (.ireturn), 0, 0, [], 0)] := rfl
set_option maxRecDepth 20000 in
theorem ok_108 : ∀ t, mm_okc (mm_m 108) t (lab_108 t) = true := by
  intro t
  unfold lab_108
  split <;> first | decide +kernel | rfl
/-! X6_search0 -/
def lab_109 : Nat → List mm_E := fun t => match t with
  | 0 => [(some (.iload_n 2), 0, 0, [], 0), (some (.iconst 4), 0, 0, [], 4), (some (.if_icmp .lt 9), 11, 0, [], 0), (some (.aload_n 0), 0, 0, [], 0), (some (.iload_n 3), 0, 0, [], 0), (some (.invokevirtual 63), 38, 2, [], 0), (some (.return_), 0, 0, [], 0)]
  | 11 => [(some (.aload_n 0), 0, 0, [], 0), (some (.aload_n 1), 0, 0, [], 0), (some (.iload_n 2), 0, 0, [], 0), (some (.invokevirtual 56), 39, 3, [], 0), (some (.istore 4), 0, 0, [], 0), (some (.iload_n 2), 0, 0, [], 0), (some (.iconst 3), 0, 0, [], 3), (some (.if_icmp .ne 8), 29, 0, [], 0), (some (.iload 4), 0, 0, [], 0), (some (.goto 4), 30, 0, [], 0)]
  | 29 => [(some (.iconst 0), 0, 0, [], 0), (none, 30, 0, [], 0)]
  | 30 => [(some (.istore 5), 0, 0, [], 0), (some (.iload 4), 0, 0, [], 0), (some (.istore 6), 0, 0, [], 0), (none, 36, 0, [], 0)]
  | 36 => [(some (.iload 6), 0, 0, [], 0), (some (.iload 5), 0, 0, [], 0), (some (.if_icmp .lt 76), 116, 0, [], 0), (some (.iload_n 3), 0, 0, [], 0), (some (.iload 6), 0, 0, [], 0), (some (.aload_n 1), 0, 0, [], 0), (some (.getfield 53), 4, 5, [], 0), (some (.iload_n 2), 0, 0, [], 0), (some (.iaload), 0, 0, [], 0), (some (.imul), 0, 0, [], 0), (some (.iadd), 0, 0, [], 0), (some (.istore 7), 0, 0, [], 0), (some (.iload 7), 0, 0, [], 0), (some (.aload_n 0), 0, 0, [], 0), (some (.getfield 21), 6, 3, [], 0), (some (.iload_n 2), 0, 0, [], 0), (some (.iconst 1), 0, 0, [], 1), (some (.iadd), 0, 0, [], 0), (some (.iaload), 0, 0, [], 0), (some (.iadd), 0, 0, [], 0), (some (.aload_n 0), 0, 0, [], 0), (some (.getfield 60), 6, 7, [], 0), (some (.if_icmp .ge 4), 75, 0, [], 0), (some (.return_), 0, 0, [], 0)]
  | 75 => [(some (.aload_n 0), 0, 0, [], 0), (some (.getfield 24), 6, 4, [], 0), (some (.iload_n 2), 0, 0, [], 0), (some (.iload 6), 0, 0, [], 0), (some (.iastore), 0, 0, [], 0), (some (.aload_n 0), 0, 0, [], 0), (some (.aload_n 1), 0, 0, [], 0), (some (.iload_n 2), 0, 0, [], 0), (some (.iload 6), 0, 0, [], 0), (some (.invokevirtual 67), 40, 4, [], 0), (some (.aload_n 0), 0, 0, [], 0), (some (.aload_n 1), 0, 0, [], 0), (some (.iload_n 2), 0, 0, [], 0), (some (.iconst 1), 0, 0, [], 1), (some (.iadd), 0, 0, [], 0), (some (.iload 7), 0, 0, [], 0), (some (.invokestatic 49), 110, 4, [], 0), (some (.aload_n 0), 0, 0, [], 0), (some (.aload_n 1), 0, 0, [], 0), (some (.iload_n 2), 0, 0, [], 0), (some (.iload 6), 0, 0, [], 0), (some (.ineg), 0, 0, [], 0), (some (.invokevirtual 67), 40, 4, [], 0), (some (.iinc 6 (-1)), 0, 0, [], (-1)), (some (.goto (-77)), 36, 0, [], 0)]
  | 116 => [(some (.return_), 0, 0, [], 0)]
  | _ => []
theorem lb_109_0 : lab_109 0 = [(some (.iload_n 2), 0, 0, [], 0), (some (.iconst 4), 0, 0, [], 4), (some (.if_icmp .lt 9), 11, 0, [], 0), (some (.aload_n 0), 0, 0, [], 0), (some (.iload_n 3), 0, 0, [], 0), (some (.invokevirtual 63), 38, 2, [], 0), (some (.return_), 0, 0, [], 0)] := rfl
theorem lb_109_11 : lab_109 11 = [(some (.aload_n 0), 0, 0, [], 0), (some (.aload_n 1), 0, 0, [], 0), (some (.iload_n 2), 0, 0, [], 0), (some (.invokevirtual 56), 39, 3, [], 0), (some (.istore 4), 0, 0, [], 0), (some (.iload_n 2), 0, 0, [], 0), (some (.iconst 3), 0, 0, [], 3), (some (.if_icmp .ne 8), 29, 0, [], 0), (some (.iload 4), 0, 0, [], 0), (some (.goto 4), 30, 0, [], 0)] := rfl
theorem lb_109_29 : lab_109 29 = [(some (.iconst 0), 0, 0, [], 0), (none, 30, 0, [], 0)] := rfl
theorem lb_109_30 : lab_109 30 = [(some (.istore 5), 0, 0, [], 0), (some (.iload 4), 0, 0, [], 0), (some (.istore 6), 0, 0, [], 0), (none, 36, 0, [], 0)] := rfl
theorem lb_109_36 : lab_109 36 = [(some (.iload 6), 0, 0, [], 0), (some (.iload 5), 0, 0, [], 0), (some (.if_icmp .lt 76), 116, 0, [], 0), (some (.iload_n 3), 0, 0, [], 0), (some (.iload 6), 0, 0, [], 0), (some (.aload_n 1), 0, 0, [], 0), (some (.getfield 53), 4, 5, [], 0), (some (.iload_n 2), 0, 0, [], 0), (some (.iaload), 0, 0, [], 0), (some (.imul), 0, 0, [], 0), (some (.iadd), 0, 0, [], 0), (some (.istore 7), 0, 0, [], 0), (some (.iload 7), 0, 0, [], 0), (some (.aload_n 0), 0, 0, [], 0), (some (.getfield 21), 6, 3, [], 0), (some (.iload_n 2), 0, 0, [], 0), (some (.iconst 1), 0, 0, [], 1), (some (.iadd), 0, 0, [], 0), (some (.iaload), 0, 0, [], 0), (some (.iadd), 0, 0, [], 0), (some (.aload_n 0), 0, 0, [], 0), (some (.getfield 60), 6, 7, [], 0), (some (.if_icmp .ge 4), 75, 0, [], 0), (some (.return_), 0, 0, [], 0)] := rfl
theorem lb_109_75 : lab_109 75 = [(some (.aload_n 0), 0, 0, [], 0), (some (.getfield 24), 6, 4, [], 0), (some (.iload_n 2), 0, 0, [], 0), (some (.iload 6), 0, 0, [], 0), (some (.iastore), 0, 0, [], 0), (some (.aload_n 0), 0, 0, [], 0), (some (.aload_n 1), 0, 0, [], 0), (some (.iload_n 2), 0, 0, [], 0), (some (.iload 6), 0, 0, [], 0), (some (.invokevirtual 67), 40, 4, [], 0), (some (.aload_n 0), 0, 0, [], 0), (some (.aload_n 1), 0, 0, [], 0), (some (.iload_n 2), 0, 0, [], 0), (some (.iconst 1), 0, 0, [], 1), (some (.iadd), 0, 0, [], 0), (some (.iload 7), 0, 0, [], 0), (some (.invokestatic 49), 110, 4, [], 0), (some (.aload_n 0), 0, 0, [], 0), (some (.aload_n 1), 0, 0, [], 0), (some (.iload_n 2), 0, 0, [], 0), (some (.iload 6), 0, 0, [], 0), (some (.ineg), 0, 0, [], 0), (some (.invokevirtual 67), 40, 4, [], 0), (some (.iinc 6 (-1)), 0, 0, [], (-1)), (some (.goto (-77)), 36, 0, [], 0)] := rfl
theorem lb_109_116 : lab_109 116 = [(some (.return_), 0, 0, [], 0)] := rfl
set_option maxRecDepth 20000 in
theorem ok_109 : ∀ t, mm_okc (mm_m 109) t (lab_109 t) = true := by
  intro t
  unfold lab_109
  split <;> first | decide +kernel | rfl
/-! X6_search1 -/
def lab_110 : Nat → List mm_E := fun t => match t with
  | 0 => [(some (.iload_n 2), 0, 0, [], 0), (some (.iconst 4), 0, 0, [], 4), (some (.if_icmp .lt 9), 11, 0, [], 0), (some (.aload_n 0), 0, 0, [], 0), (some (.iload_n 3), 0, 0, [], 0), (some (.invokevirtual 63), 38, 2, [], 0), (some (.return_), 0, 0, [], 0)]
  | 11 => [(some (.aload_n 0), 0, 0, [], 0), (some (.aload_n 1), 0, 0, [], 0), (some (.iload_n 2), 0, 0, [], 0), (some (.invokevirtual 56), 39, 3, [], 0), (some (.istore 4), 0, 0, [], 0), (some (.iload_n 2), 0, 0, [], 0), (some (.iconst 3), 0, 0, [], 3), (some (.if_icmp .ne 8), 29, 0, [], 0), (some (.iload 4), 0, 0, [], 0), (some (.goto 4), 30, 0, [], 0)]
  | 29 => [(some (.iconst 0), 0, 0, [], 0), (none, 30, 0, [], 0)]
  | 30 => [(some (.istore 5), 0, 0, [], 0), (some (.iload 4), 0, 0, [], 0), (some (.istore 6), 0, 0, [], 0), (none, 36, 0, [], 0)]
  | 36 => [(some (.iload 6), 0, 0, [], 0), (some (.iload 5), 0, 0, [], 0), (some (.if_icmp .lt 76), 116, 0, [], 0), (some (.iload_n 3), 0, 0, [], 0), (some (.iload 6), 0, 0, [], 0), (some (.aload_n 1), 0, 0, [], 0), (some (.getfield 53), 4, 5, [], 0), (some (.iload_n 2), 0, 0, [], 0), (some (.iaload), 0, 0, [], 0), (some (.imul), 0, 0, [], 0), (some (.iadd), 0, 0, [], 0), (some (.istore 7), 0, 0, [], 0), (some (.iload 7), 0, 0, [], 0), (some (.aload_n 0), 0, 0, [], 0), (some (.getfield 21), 6, 3, [], 0), (some (.iload_n 2), 0, 0, [], 0), (some (.iconst 1), 0, 0, [], 1), (some (.iadd), 0, 0, [], 0), (some (.iaload), 0, 0, [], 0), (some (.iadd), 0, 0, [], 0), (some (.aload_n 0), 0, 0, [], 0), (some (.getfield 60), 6, 7, [], 0), (some (.if_icmp .ge 4), 75, 0, [], 0), (some (.return_), 0, 0, [], 0)]
  | 75 => [(some (.aload_n 0), 0, 0, [], 0), (some (.getfield 24), 6, 4, [], 0), (some (.iload_n 2), 0, 0, [], 0), (some (.iload 6), 0, 0, [], 0), (some (.iastore), 0, 0, [], 0), (some (.aload_n 0), 0, 0, [], 0), (some (.aload_n 1), 0, 0, [], 0), (some (.iload_n 2), 0, 0, [], 0), (some (.iload 6), 0, 0, [], 0), (some (.invokevirtual 67), 40, 4, [], 0), (some (.aload_n 0), 0, 0, [], 0), (some (.aload_n 1), 0, 0, [], 0), (some (.iload_n 2), 0, 0, [], 0), (some (.iconst 1), 0, 0, [], 1), (some (.iadd), 0, 0, [], 0), (some (.iload 7), 0, 0, [], 0), (some (.invokestatic 49), 111, 4, [], 0), (some (.aload_n 0), 0, 0, [], 0), (some (.aload_n 1), 0, 0, [], 0), (some (.iload_n 2), 0, 0, [], 0), (some (.iload 6), 0, 0, [], 0), (some (.ineg), 0, 0, [], 0), (some (.invokevirtual 67), 40, 4, [], 0), (some (.iinc 6 (-1)), 0, 0, [], (-1)), (some (.goto (-77)), 36, 0, [], 0)]
  | 116 => [(some (.return_), 0, 0, [], 0)]
  | _ => []
theorem lb_110_0 : lab_110 0 = [(some (.iload_n 2), 0, 0, [], 0), (some (.iconst 4), 0, 0, [], 4), (some (.if_icmp .lt 9), 11, 0, [], 0), (some (.aload_n 0), 0, 0, [], 0), (some (.iload_n 3), 0, 0, [], 0), (some (.invokevirtual 63), 38, 2, [], 0), (some (.return_), 0, 0, [], 0)] := rfl
theorem lb_110_11 : lab_110 11 = [(some (.aload_n 0), 0, 0, [], 0), (some (.aload_n 1), 0, 0, [], 0), (some (.iload_n 2), 0, 0, [], 0), (some (.invokevirtual 56), 39, 3, [], 0), (some (.istore 4), 0, 0, [], 0), (some (.iload_n 2), 0, 0, [], 0), (some (.iconst 3), 0, 0, [], 3), (some (.if_icmp .ne 8), 29, 0, [], 0), (some (.iload 4), 0, 0, [], 0), (some (.goto 4), 30, 0, [], 0)] := rfl
theorem lb_110_29 : lab_110 29 = [(some (.iconst 0), 0, 0, [], 0), (none, 30, 0, [], 0)] := rfl
theorem lb_110_30 : lab_110 30 = [(some (.istore 5), 0, 0, [], 0), (some (.iload 4), 0, 0, [], 0), (some (.istore 6), 0, 0, [], 0), (none, 36, 0, [], 0)] := rfl
theorem lb_110_36 : lab_110 36 = [(some (.iload 6), 0, 0, [], 0), (some (.iload 5), 0, 0, [], 0), (some (.if_icmp .lt 76), 116, 0, [], 0), (some (.iload_n 3), 0, 0, [], 0), (some (.iload 6), 0, 0, [], 0), (some (.aload_n 1), 0, 0, [], 0), (some (.getfield 53), 4, 5, [], 0), (some (.iload_n 2), 0, 0, [], 0), (some (.iaload), 0, 0, [], 0), (some (.imul), 0, 0, [], 0), (some (.iadd), 0, 0, [], 0), (some (.istore 7), 0, 0, [], 0), (some (.iload 7), 0, 0, [], 0), (some (.aload_n 0), 0, 0, [], 0), (some (.getfield 21), 6, 3, [], 0), (some (.iload_n 2), 0, 0, [], 0), (some (.iconst 1), 0, 0, [], 1), (some (.iadd), 0, 0, [], 0), (some (.iaload), 0, 0, [], 0), (some (.iadd), 0, 0, [], 0), (some (.aload_n 0), 0, 0, [], 0), (some (.getfield 60), 6, 7, [], 0), (some (.if_icmp .ge 4), 75, 0, [], 0), (some (.return_), 0, 0, [], 0)] := rfl
theorem lb_110_75 : lab_110 75 = [(some (.aload_n 0), 0, 0, [], 0), (some (.getfield 24), 6, 4, [], 0), (some (.iload_n 2), 0, 0, [], 0), (some (.iload 6), 0, 0, [], 0), (some (.iastore), 0, 0, [], 0), (some (.aload_n 0), 0, 0, [], 0), (some (.aload_n 1), 0, 0, [], 0), (some (.iload_n 2), 0, 0, [], 0), (some (.iload 6), 0, 0, [], 0), (some (.invokevirtual 67), 40, 4, [], 0), (some (.aload_n 0), 0, 0, [], 0), (some (.aload_n 1), 0, 0, [], 0), (some (.iload_n 2), 0, 0, [], 0), (some (.iconst 1), 0, 0, [], 1), (some (.iadd), 0, 0, [], 0), (some (.iload 7), 0, 0, [], 0), (some (.invokestatic 49), 111, 4, [], 0), (some (.aload_n 0), 0, 0, [], 0), (some (.aload_n 1), 0, 0, [], 0), (some (.iload_n 2), 0, 0, [], 0), (some (.iload 6), 0, 0, [], 0), (some (.ineg), 0, 0, [], 0), (some (.invokevirtual 67), 40, 4, [], 0), (some (.iinc 6 (-1)), 0, 0, [], (-1)), (some (.goto (-77)), 36, 0, [], 0)] := rfl
theorem lb_110_116 : lab_110 116 = [(some (.return_), 0, 0, [], 0)] := rfl
set_option maxRecDepth 20000 in
theorem ok_110 : ∀ t, mm_okc (mm_m 110) t (lab_110 t) = true := by
  intro t
  unfold lab_110
  split <;> first | decide +kernel | rfl
/-! X6_search2 -/
def lab_111 : Nat → List mm_E := fun t => match t with
  | 0 => [(some (.iload_n 2), 0, 0, [], 0), (some (.iconst 4), 0, 0, [], 4), (some (.if_icmp .lt 9), 11, 0, [], 0), (some (.aload_n 0), 0, 0, [], 0), (some (.iload_n 3), 0, 0, [], 0), (some (.invokevirtual 63), 38, 2, [], 0), (some (.return_), 0, 0, [], 0)]
  | 11 => [(some (.aload_n 0), 0, 0, [], 0), (some (.aload_n 1), 0, 0, [], 0), (some (.iload_n 2), 0, 0, [], 0), (some (.invokevirtual 56), 39, 3, [], 0), (some (.istore 4), 0, 0, [], 0), (some (.iload_n 2), 0, 0, [], 0), (some (.iconst 3), 0, 0, [], 3), (some (.if_icmp .ne 8), 29, 0, [], 0), (some (.iload 4), 0, 0, [], 0), (some (.goto 4), 30, 0, [], 0)]
  | 29 => [(some (.iconst 0), 0, 0, [], 0), (none, 30, 0, [], 0)]
  | 30 => [(some (.istore 5), 0, 0, [], 0), (some (.iload 4), 0, 0, [], 0), (some (.istore 6), 0, 0, [], 0), (none, 36, 0, [], 0)]
  | 36 => [(some (.iload 6), 0, 0, [], 0), (some (.iload 5), 0, 0, [], 0), (some (.if_icmp .lt 76), 116, 0, [], 0), (some (.iload_n 3), 0, 0, [], 0), (some (.iload 6), 0, 0, [], 0), (some (.aload_n 1), 0, 0, [], 0), (some (.getfield 53), 4, 5, [], 0), (some (.iload_n 2), 0, 0, [], 0), (some (.iaload), 0, 0, [], 0), (some (.imul), 0, 0, [], 0), (some (.iadd), 0, 0, [], 0), (some (.istore 7), 0, 0, [], 0), (some (.iload 7), 0, 0, [], 0), (some (.aload_n 0), 0, 0, [], 0), (some (.getfield 21), 6, 3, [], 0), (some (.iload_n 2), 0, 0, [], 0), (some (.iconst 1), 0, 0, [], 1), (some (.iadd), 0, 0, [], 0), (some (.iaload), 0, 0, [], 0), (some (.iadd), 0, 0, [], 0), (some (.aload_n 0), 0, 0, [], 0), (some (.getfield 60), 6, 7, [], 0), (some (.if_icmp .ge 4), 75, 0, [], 0), (some (.return_), 0, 0, [], 0)]
  | 75 => [(some (.aload_n 0), 0, 0, [], 0), (some (.getfield 24), 6, 4, [], 0), (some (.iload_n 2), 0, 0, [], 0), (some (.iload 6), 0, 0, [], 0), (some (.iastore), 0, 0, [], 0), (some (.aload_n 0), 0, 0, [], 0), (some (.aload_n 1), 0, 0, [], 0), (some (.iload_n 2), 0, 0, [], 0), (some (.iload 6), 0, 0, [], 0), (some (.invokevirtual 67), 40, 4, [], 0), (some (.aload_n 0), 0, 0, [], 0), (some (.aload_n 1), 0, 0, [], 0), (some (.iload_n 2), 0, 0, [], 0), (some (.iconst 1), 0, 0, [], 1), (some (.iadd), 0, 0, [], 0), (some (.iload 7), 0, 0, [], 0), (some (.invokestatic 49), 112, 4, [], 0), (some (.aload_n 0), 0, 0, [], 0), (some (.aload_n 1), 0, 0, [], 0), (some (.iload_n 2), 0, 0, [], 0), (some (.iload 6), 0, 0, [], 0), (some (.ineg), 0, 0, [], 0), (some (.invokevirtual 67), 40, 4, [], 0), (some (.iinc 6 (-1)), 0, 0, [], (-1)), (some (.goto (-77)), 36, 0, [], 0)]
  | 116 => [(some (.return_), 0, 0, [], 0)]
  | _ => []
theorem lb_111_0 : lab_111 0 = [(some (.iload_n 2), 0, 0, [], 0), (some (.iconst 4), 0, 0, [], 4), (some (.if_icmp .lt 9), 11, 0, [], 0), (some (.aload_n 0), 0, 0, [], 0), (some (.iload_n 3), 0, 0, [], 0), (some (.invokevirtual 63), 38, 2, [], 0), (some (.return_), 0, 0, [], 0)] := rfl
theorem lb_111_11 : lab_111 11 = [(some (.aload_n 0), 0, 0, [], 0), (some (.aload_n 1), 0, 0, [], 0), (some (.iload_n 2), 0, 0, [], 0), (some (.invokevirtual 56), 39, 3, [], 0), (some (.istore 4), 0, 0, [], 0), (some (.iload_n 2), 0, 0, [], 0), (some (.iconst 3), 0, 0, [], 3), (some (.if_icmp .ne 8), 29, 0, [], 0), (some (.iload 4), 0, 0, [], 0), (some (.goto 4), 30, 0, [], 0)] := rfl
theorem lb_111_29 : lab_111 29 = [(some (.iconst 0), 0, 0, [], 0), (none, 30, 0, [], 0)] := rfl
theorem lb_111_30 : lab_111 30 = [(some (.istore 5), 0, 0, [], 0), (some (.iload 4), 0, 0, [], 0), (some (.istore 6), 0, 0, [], 0), (none, 36, 0, [], 0)] := rfl
theorem lb_111_36 : lab_111 36 = [(some (.iload 6), 0, 0, [], 0), (some (.iload 5), 0, 0, [], 0), (some (.if_icmp .lt 76), 116, 0, [], 0), (some (.iload_n 3), 0, 0, [], 0), (some (.iload 6), 0, 0, [], 0), (some (.aload_n 1), 0, 0, [], 0), (some (.getfield 53), 4, 5, [], 0), (some (.iload_n 2), 0, 0, [], 0), (some (.iaload), 0, 0, [], 0), (some (.imul), 0, 0, [], 0), (some (.iadd), 0, 0, [], 0), (some (.istore 7), 0, 0, [], 0), (some (.iload 7), 0, 0, [], 0), (some (.aload_n 0), 0, 0, [], 0), (some (.getfield 21), 6, 3, [], 0), (some (.iload_n 2), 0, 0, [], 0), (some (.iconst 1), 0, 0, [], 1), (some (.iadd), 0, 0, [], 0), (some (.iaload), 0, 0, [], 0), (some (.iadd), 0, 0, [], 0), (some (.aload_n 0), 0, 0, [], 0), (some (.getfield 60), 6, 7, [], 0), (some (.if_icmp .ge 4), 75, 0, [], 0), (some (.return_), 0, 0, [], 0)] := rfl
theorem lb_111_75 : lab_111 75 = [(some (.aload_n 0), 0, 0, [], 0), (some (.getfield 24), 6, 4, [], 0), (some (.iload_n 2), 0, 0, [], 0), (some (.iload 6), 0, 0, [], 0), (some (.iastore), 0, 0, [], 0), (some (.aload_n 0), 0, 0, [], 0), (some (.aload_n 1), 0, 0, [], 0), (some (.iload_n 2), 0, 0, [], 0), (some (.iload 6), 0, 0, [], 0), (some (.invokevirtual 67), 40, 4, [], 0), (some (.aload_n 0), 0, 0, [], 0), (some (.aload_n 1), 0, 0, [], 0), (some (.iload_n 2), 0, 0, [], 0), (some (.iconst 1), 0, 0, [], 1), (some (.iadd), 0, 0, [], 0), (some (.iload 7), 0, 0, [], 0), (some (.invokestatic 49), 112, 4, [], 0), (some (.aload_n 0), 0, 0, [], 0), (some (.aload_n 1), 0, 0, [], 0), (some (.iload_n 2), 0, 0, [], 0), (some (.iload 6), 0, 0, [], 0), (some (.ineg), 0, 0, [], 0), (some (.invokevirtual 67), 40, 4, [], 0), (some (.iinc 6 (-1)), 0, 0, [], (-1)), (some (.goto (-77)), 36, 0, [], 0)] := rfl
theorem lb_111_116 : lab_111 116 = [(some (.return_), 0, 0, [], 0)] := rfl
set_option maxRecDepth 20000 in
theorem ok_111 : ∀ t, mm_okc (mm_m 111) t (lab_111 t) = true := by
  intro t
  unfold lab_111
  split <;> first | decide +kernel | rfl
/-! X6_search3 -/
def lab_112 : Nat → List mm_E := fun t => match t with
  | 0 => [(some (.iload_n 2), 0, 0, [], 0), (some (.iconst 4), 0, 0, [], 4), (some (.if_icmp .lt 9), 11, 0, [], 0), (some (.aload_n 0), 0, 0, [], 0), (some (.iload_n 3), 0, 0, [], 0), (some (.invokevirtual 63), 38, 2, [], 0), (some (.return_), 0, 0, [], 0)]
  | 11 => [(some (.aload_n 0), 0, 0, [], 0), (some (.aload_n 1), 0, 0, [], 0), (some (.iload_n 2), 0, 0, [], 0), (some (.invokevirtual 56), 39, 3, [], 0), (some (.istore 4), 0, 0, [], 0), (some (.iload_n 2), 0, 0, [], 0), (some (.iconst 3), 0, 0, [], 3), (some (.if_icmp .ne 8), 29, 0, [], 0), (some (.iload 4), 0, 0, [], 0), (some (.goto 4), 30, 0, [], 0)]
  | 29 => [(some (.iconst 0), 0, 0, [], 0), (none, 30, 0, [], 0)]
  | 30 => [(some (.istore 5), 0, 0, [], 0), (some (.iload 4), 0, 0, [], 0), (some (.istore 6), 0, 0, [], 0), (none, 36, 0, [], 0)]
  | 36 => [(some (.iload 6), 0, 0, [], 0), (some (.iload 5), 0, 0, [], 0), (some (.if_icmp .lt 76), 116, 0, [], 0), (some (.iload_n 3), 0, 0, [], 0), (some (.iload 6), 0, 0, [], 0), (some (.aload_n 1), 0, 0, [], 0), (some (.getfield 53), 4, 5, [], 0), (some (.iload_n 2), 0, 0, [], 0), (some (.iaload), 0, 0, [], 0), (some (.imul), 0, 0, [], 0), (some (.iadd), 0, 0, [], 0), (some (.istore 7), 0, 0, [], 0), (some (.iload 7), 0, 0, [], 0), (some (.aload_n 0), 0, 0, [], 0), (some (.getfield 21), 6, 3, [], 0), (some (.iload_n 2), 0, 0, [], 0), (some (.iconst 1), 0, 0, [], 1), (some (.iadd), 0, 0, [], 0), (some (.iaload), 0, 0, [], 0), (some (.iadd), 0, 0, [], 0), (some (.aload_n 0), 0, 0, [], 0), (some (.getfield 60), 6, 7, [], 0), (some (.if_icmp .ge 4), 75, 0, [], 0), (some (.return_), 0, 0, [], 0)]
  | 75 => [(some (.aload_n 0), 0, 0, [], 0), (some (.getfield 24), 6, 4, [], 0), (some (.iload_n 2), 0, 0, [], 0), (some (.iload 6), 0, 0, [], 0), (some (.iastore), 0, 0, [], 0), (some (.aload_n 0), 0, 0, [], 0), (some (.aload_n 1), 0, 0, [], 0), (some (.iload_n 2), 0, 0, [], 0), (some (.iload 6), 0, 0, [], 0), (some (.invokevirtual 67), 40, 4, [], 0), (some (.aload_n 0), 0, 0, [], 0), (some (.aload_n 1), 0, 0, [], 0), (some (.iload_n 2), 0, 0, [], 0), (some (.iconst 1), 0, 0, [], 1), (some (.iadd), 0, 0, [], 0), (some (.iload 7), 0, 0, [], 0), (some (.invokestatic 49), 113, 4, [], 0), (some (.aload_n 0), 0, 0, [], 0), (some (.aload_n 1), 0, 0, [], 0), (some (.iload_n 2), 0, 0, [], 0), (some (.iload 6), 0, 0, [], 0), (some (.ineg), 0, 0, [], 0), (some (.invokevirtual 67), 40, 4, [], 0), (some (.iinc 6 (-1)), 0, 0, [], (-1)), (some (.goto (-77)), 36, 0, [], 0)]
  | 116 => [(some (.return_), 0, 0, [], 0)]
  | _ => []
theorem lb_112_0 : lab_112 0 = [(some (.iload_n 2), 0, 0, [], 0), (some (.iconst 4), 0, 0, [], 4), (some (.if_icmp .lt 9), 11, 0, [], 0), (some (.aload_n 0), 0, 0, [], 0), (some (.iload_n 3), 0, 0, [], 0), (some (.invokevirtual 63), 38, 2, [], 0), (some (.return_), 0, 0, [], 0)] := rfl
theorem lb_112_11 : lab_112 11 = [(some (.aload_n 0), 0, 0, [], 0), (some (.aload_n 1), 0, 0, [], 0), (some (.iload_n 2), 0, 0, [], 0), (some (.invokevirtual 56), 39, 3, [], 0), (some (.istore 4), 0, 0, [], 0), (some (.iload_n 2), 0, 0, [], 0), (some (.iconst 3), 0, 0, [], 3), (some (.if_icmp .ne 8), 29, 0, [], 0), (some (.iload 4), 0, 0, [], 0), (some (.goto 4), 30, 0, [], 0)] := rfl
theorem lb_112_29 : lab_112 29 = [(some (.iconst 0), 0, 0, [], 0), (none, 30, 0, [], 0)] := rfl
theorem lb_112_30 : lab_112 30 = [(some (.istore 5), 0, 0, [], 0), (some (.iload 4), 0, 0, [], 0), (some (.istore 6), 0, 0, [], 0), (none, 36, 0, [], 0)] := rfl
theorem lb_112_36 : lab_112 36 = [(some (.iload 6), 0, 0, [], 0), (some (.iload 5), 0, 0, [], 0), (some (.if_icmp .lt 76), 116, 0, [], 0), (some (.iload_n 3), 0, 0, [], 0), (some (.iload 6), 0, 0, [], 0), (some (.aload_n 1), 0, 0, [], 0), (some (.getfield 53), 4, 5, [], 0), (some (.iload_n 2), 0, 0, [], 0), (some (.iaload), 0, 0, [], 0), (some (.imul), 0, 0, [], 0), (some (.iadd), 0, 0, [], 0), (some (.istore 7), 0, 0, [], 0), (some (.iload 7), 0, 0, [], 0), (some (.aload_n 0), 0, 0, [], 0), (some (.getfield 21), 6, 3, [], 0), (some (.iload_n 2), 0, 0, [], 0), (some (.iconst 1), 0, 0, [], 1), (some (.iadd), 0, 0, [], 0), (some (.iaload), 0, 0, [], 0), (some (.iadd), 0, 0, [], 0), (some (.aload_n 0), 0, 0, [], 0), (some (.getfield 60), 6, 7, [], 0), (some (.if_icmp .ge 4), 75, 0, [], 0), (some (.return_), 0, 0, [], 0)] := rfl
theorem lb_112_75 : lab_112 75 = [(some (.aload_n 0), 0, 0, [], 0), (some (.getfield 24), 6, 4, [], 0), (some (.iload_n 2), 0, 0, [], 0), (some (.iload 6), 0, 0, [], 0), (some (.iastore), 0, 0, [], 0), (some (.aload_n 0), 0, 0, [], 0), (some (.aload_n 1), 0, 0, [], 0), (some (.iload_n 2), 0, 0, [], 0), (some (.iload 6), 0, 0, [], 0), (some (.invokevirtual 67), 40, 4, [], 0), (some (.aload_n 0), 0, 0, [], 0), (some (.aload_n 1), 0, 0, [], 0), (some (.iload_n 2), 0, 0, [], 0), (some (.iconst 1), 0, 0, [], 1), (some (.iadd), 0, 0, [], 0), (some (.iload 7), 0, 0, [], 0), (some (.invokestatic 49), 113, 4, [], 0), (some (.aload_n 0), 0, 0, [], 0), (some (.aload_n 1), 0, 0, [], 0), (some (.iload_n 2), 0, 0, [], 0), (some (.iload 6), 0, 0, [], 0), (some (.ineg), 0, 0, [], 0), (some (.invokevirtual 67), 40, 4, [], 0), (some (.iinc 6 (-1)), 0, 0, [], (-1)), (some (.goto (-77)), 36, 0, [], 0)] := rfl
theorem lb_112_116 : lab_112 116 = [(some (.return_), 0, 0, [], 0)] := rfl
set_option maxRecDepth 20000 in
theorem ok_112 : ∀ t, mm_okc (mm_m 112) t (lab_112 t) = true := by
  intro t
  unfold lab_112
  split <;> first | decide +kernel | rfl
/-! X6_search4 -/
def lab_113 : Nat → List mm_E := fun t => match t with
  | 0 => [(some (.iload_n 2), 0, 0, [], 0), (some (.iconst 4), 0, 0, [], 4), (some (.if_icmp .lt 9), 11, 0, [], 0), (some (.aload_n 0), 0, 0, [], 0), (some (.iload_n 3), 0, 0, [], 0), (some (.invokevirtual 63), 38, 2, [], 0), (some (.return_), 0, 0, [], 0)]
  | 11 => [(some (.aload_n 0), 0, 0, [], 0), (some (.aload_n 1), 0, 0, [], 0), (some (.iload_n 2), 0, 0, [], 0), (some (.invokevirtual 56), 39, 3, [], 0), (some (.istore 4), 0, 0, [], 0), (some (.iload_n 2), 0, 0, [], 0), (some (.iconst 3), 0, 0, [], 3), (some (.if_icmp .ne 8), 29, 0, [], 0), (some (.iload 4), 0, 0, [], 0), (some (.goto 4), 30, 0, [], 0)]
  | 29 => [(some (.iconst 0), 0, 0, [], 0), (none, 30, 0, [], 0)]
  | 30 => [(some (.istore 5), 0, 0, [], 0), (some (.iload 4), 0, 0, [], 0), (some (.istore 6), 0, 0, [], 0), (none, 36, 0, [], 0)]
  | 36 => [(some (.iload 6), 0, 0, [], 0), (some (.iload 5), 0, 0, [], 0), (some (.if_icmp .lt 76), 116, 0, [], 0), (some (.iload_n 3), 0, 0, [], 0), (some (.iload 6), 0, 0, [], 0), (some (.aload_n 1), 0, 0, [], 0), (some (.getfield 53), 4, 5, [], 0), (some (.iload_n 2), 0, 0, [], 0), (some (.iaload), 0, 0, [], 0), (some (.imul), 0, 0, [], 0), (some (.iadd), 0, 0, [], 0), (some (.istore 7), 0, 0, [], 0), (some (.iload 7), 0, 0, [], 0), (some (.aload_n 0), 0, 0, [], 0), (some (.getfield 21), 6, 3, [], 0), (some (.iload_n 2), 0, 0, [], 0), (some (.iconst 1), 0, 0, [], 1), (some (.iadd), 0, 0, [], 0), (some (.iaload), 0, 0, [], 0), (some (.iadd), 0, 0, [], 0), (some (.aload_n 0), 0, 0, [], 0), (some (.getfield 60), 6, 7, [], 0), (some (.if_icmp .ge 4), 75, 0, [], 0), (some (.return_), 0, 0, [], 0)]
  | 75 => [(some (.aload_n 0), 0, 0, [], 0), (some (.getfield 24), 6, 4, [], 0), (some (.iload_n 2), 0, 0, [], 0), (some (.iload 6), 0, 0, [], 0), (some (.iastore), 0, 0, [], 0), (some (.aload_n 0), 0, 0, [], 0), (some (.aload_n 1), 0, 0, [], 0), (some (.iload_n 2), 0, 0, [], 0), (some (.iload 6), 0, 0, [], 0), (some (.invokevirtual 67), 40, 4, [], 0), (some (.aload_n 0), 0, 0, [], 0), (some (.aload_n 1), 0, 0, [], 0), (some (.iload_n 2), 0, 0, [], 0), (some (.iconst 1), 0, 0, [], 1), (some (.iadd), 0, 0, [], 0), (some (.iload 7), 0, 0, [], 0)]
  | 116 => [(some (.return_), 0, 0, [], 0)]
  | _ => []
theorem lb_113_0 : lab_113 0 = [(some (.iload_n 2), 0, 0, [], 0), (some (.iconst 4), 0, 0, [], 4), (some (.if_icmp .lt 9), 11, 0, [], 0), (some (.aload_n 0), 0, 0, [], 0), (some (.iload_n 3), 0, 0, [], 0), (some (.invokevirtual 63), 38, 2, [], 0), (some (.return_), 0, 0, [], 0)] := rfl
theorem lb_113_11 : lab_113 11 = [(some (.aload_n 0), 0, 0, [], 0), (some (.aload_n 1), 0, 0, [], 0), (some (.iload_n 2), 0, 0, [], 0), (some (.invokevirtual 56), 39, 3, [], 0), (some (.istore 4), 0, 0, [], 0), (some (.iload_n 2), 0, 0, [], 0), (some (.iconst 3), 0, 0, [], 3), (some (.if_icmp .ne 8), 29, 0, [], 0), (some (.iload 4), 0, 0, [], 0), (some (.goto 4), 30, 0, [], 0)] := rfl
theorem lb_113_29 : lab_113 29 = [(some (.iconst 0), 0, 0, [], 0), (none, 30, 0, [], 0)] := rfl
theorem lb_113_30 : lab_113 30 = [(some (.istore 5), 0, 0, [], 0), (some (.iload 4), 0, 0, [], 0), (some (.istore 6), 0, 0, [], 0), (none, 36, 0, [], 0)] := rfl
theorem lb_113_36 : lab_113 36 = [(some (.iload 6), 0, 0, [], 0), (some (.iload 5), 0, 0, [], 0), (some (.if_icmp .lt 76), 116, 0, [], 0), (some (.iload_n 3), 0, 0, [], 0), (some (.iload 6), 0, 0, [], 0), (some (.aload_n 1), 0, 0, [], 0), (some (.getfield 53), 4, 5, [], 0), (some (.iload_n 2), 0, 0, [], 0), (some (.iaload), 0, 0, [], 0), (some (.imul), 0, 0, [], 0), (some (.iadd), 0, 0, [], 0), (some (.istore 7), 0, 0, [], 0), (some (.iload 7), 0, 0, [], 0), (some (.aload_n 0), 0, 0, [], 0), (some (.getfield 21), 6, 3, [], 0), (some (.iload_n 2), 0, 0, [], 0), (some (.iconst 1), 0, 0, [], 1), (some (.iadd), 0, 0, [], 0), (some (.iaload), 0, 0, [], 0), (some (.iadd), 0, 0, [], 0), (some (.aload_n 0), 0, 0, [], 0), (some (.getfield 60), 6, 7, [], 0), (some (.if_icmp .ge 4), 75, 0, [], 0), (some (.return_), 0, 0, [], 0)] := rfl
theorem lb_113_75 : lab_113 75 = [(some (.aload_n 0), 0, 0, [], 0), (some (.getfield 24), 6, 4, [], 0), (some (.iload_n 2), 0, 0, [], 0), (some (.iload 6), 0, 0, [], 0), (some (.iastore), 0, 0, [], 0), (some (.aload_n 0), 0, 0, [], 0), (some (.aload_n 1), 0, 0, [], 0), (some (.iload_n 2), 0, 0, [], 0), (some (.iload 6), 0, 0, [], 0), (some (.invokevirtual 67), 40, 4, [], 0), (some (.aload_n 0), 0, 0, [], 0), (some (.aload_n 1), 0, 0, [], 0), (some (.iload_n 2), 0, 0, [], 0), (some (.iconst 1), 0, 0, [], 1), (some (.iadd), 0, 0, [], 0), (some (.iload 7), 0, 0, [], 0)] := rfl
theorem lb_113_116 : lab_113 116 = [(some (.return_), 0, 0, [], 0)] := rfl
set_option maxRecDepth 20000 in
theorem ok_113 : ∀ t, mm_okc (mm_m 113) t (lab_113 t) = true := by
  intro t
  unfold lab_113
  split <;> first | decide +kernel | rfl
