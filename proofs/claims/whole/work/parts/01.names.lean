-- ===== PART A: goes FIRST, ahead of the names: the tables' words, and 'selects' of the private methods out of them =====
/-- a private method of a class that the tables say can be made, by its rows of tables_1 -/
def lw_okq (q : MethodName × Nat) : Prop := (q.1.cls ≠ "java/lang/invoke/MethodHandle" ∧ q.1.cls ≠ "java/lang/invoke/VarHandle") ∧ Cond.instantiable q.1.cls q.2 ∈ tables_1 ∧ Cond.privateMethod q.1 ∈ tables_1 ∧ Cond.instanceMethod q.1 ∈ tables_1
theorem lw_p0 : lw_okq (⟨"FishTins", "canPack", "(III)Z"⟩, 14) := ⟨⟨by decide +kernel, by decide +kernel⟩, List.mem_of_getElem? (i := 13) (by decide +kernel), List.mem_of_getElem? (i := 398) (by decide +kernel), List.mem_of_getElem? (i := 399) (by decide +kernel)⟩
theorem lw_p1 : lw_okq (⟨"FishTins", "passHour", "()V"⟩, 14) := ⟨⟨by decide +kernel, by decide +kernel⟩, List.mem_of_getElem? (i := 13) (by decide +kernel), List.mem_of_getElem? (i := 432) (by decide +kernel), List.mem_of_getElem? (i := 433) (by decide +kernel)⟩
theorem lw_p2 : lw_okq (⟨"FishTins", "finishCharges", "()V"⟩, 14) := ⟨⟨by decide +kernel, by decide +kernel⟩, List.mem_of_getElem? (i := 13) (by decide +kernel), List.mem_of_getElem? (i := 436) (by decide +kernel), List.mem_of_getElem? (i := 437) (by decide +kernel)⟩
theorem lw_p3 : lw_okq (⟨"FishTins$Planner", "prepare", "(LFishTins$Kinds;)V"⟩, 8) := ⟨⟨by decide +kernel, by decide +kernel⟩, List.mem_of_getElem? (i := 229) (by decide +kernel), List.mem_of_getElem? (i := 469) (by decide +kernel), List.mem_of_getElem? (i := 470) (by decide +kernel)⟩
theorem lw_p4 : lw_okq (⟨"FishTins$Planner", "mostCases", "(LFishTins$Kinds;I)I"⟩, 8) := ⟨⟨by decide +kernel, by decide +kernel⟩, List.mem_of_getElem? (i := 229) (by decide +kernel), List.mem_of_getElem? (i := 473) (by decide +kernel), List.mem_of_getElem? (i := 474) (by decide +kernel)⟩
theorem lw_p5 : lw_okq (⟨"FishTins$Planner", "keepTried", "(I)V"⟩, 8) := ⟨⟨by decide +kernel, by decide +kernel⟩, List.mem_of_getElem? (i := 229) (by decide +kernel), List.mem_of_getElem? (i := 481) (by decide +kernel), List.mem_of_getElem? (i := 482) (by decide +kernel)⟩
theorem lw_p6 : lw_okq (⟨"FishTins$Planner", "use", "(LFishTins$Kinds;II)V"⟩, 8) := ⟨⟨by decide +kernel, by decide +kernel⟩, List.mem_of_getElem? (i := 229) (by decide +kernel), List.mem_of_getElem? (i := 486) (by decide +kernel), List.mem_of_getElem? (i := 487) (by decide +kernel)⟩
theorem lw_p7 : lw_okq (⟨"FishTinsModel", "isLot", "(I)Z"⟩, 39) := ⟨⟨by decide +kernel, by decide +kernel⟩, List.mem_of_getElem? (i := 593) (by decide +kernel), List.mem_of_getElem? (i := 734) (by decide +kernel), List.mem_of_getElem? (i := 735) (by decide +kernel)⟩
theorem lw_p8 : lw_okq (⟨"FishTinsModel", "isFresh", "(I)Z"⟩, 39) := ⟨⟨by decide +kernel, by decide +kernel⟩, List.mem_of_getElem? (i := 593) (by decide +kernel), List.mem_of_getElem? (i := 738) (by decide +kernel), List.mem_of_getElem? (i := 739) (by decide +kernel)⟩
theorem lw_p9 : lw_okq (⟨"FishTinsModel", "freshTill", "(I)I"⟩, 39) := ⟨⟨by decide +kernel, by decide +kernel⟩, List.mem_of_getElem? (i := 593) (by decide +kernel), List.mem_of_getElem? (i := 742) (by decide +kernel), List.mem_of_getElem? (i := 743) (by decide +kernel)⟩
theorem lw_p10 : lw_okq (⟨"FishTinsModel", "isTold", "(I)Z"⟩, 39) := ⟨⟨by decide +kernel, by decide +kernel⟩, List.mem_of_getElem? (i := 593) (by decide +kernel), List.mem_of_getElem? (i := 765) (by decide +kernel), List.mem_of_getElem? (i := 766) (by decide +kernel)⟩
theorem lw_p11 : lw_okq (⟨"FishTinsModel", "charges", "()I"⟩, 39) := ⟨⟨by decide +kernel, by decide +kernel⟩, List.mem_of_getElem? (i := 593) (by decide +kernel), List.mem_of_getElem? (i := 769) (by decide +kernel), List.mem_of_getElem? (i := 770) (by decide +kernel)⟩
theorem lw_p12 : lw_okq (⟨"FishTinsModel", "fishOf", "(I)I"⟩, 39) := ⟨⟨by decide +kernel, by decide +kernel⟩, List.mem_of_getElem? (i := 593) (by decide +kernel), List.mem_of_getElem? (i := 773) (by decide +kernel), List.mem_of_getElem? (i := 774) (by decide +kernel)⟩
theorem lw_p13 : lw_okq (⟨"FishTinsModel", "there", "(I)I"⟩, 39) := ⟨⟨by decide +kernel, by decide +kernel⟩, List.mem_of_getElem? (i := 593) (by decide +kernel), List.mem_of_getElem? (i := 777) (by decide +kernel), List.mem_of_getElem? (i := 778) (by decide +kernel)⟩
theorem lw_p14 : lw_okq (⟨"FishTinsModel", "takes", "(II)Z"⟩, 39) := ⟨⟨by decide +kernel, by decide +kernel⟩, List.mem_of_getElem? (i := 593) (by decide +kernel), List.mem_of_getElem? (i := 781) (by decide +kernel), List.mem_of_getElem? (i := 782) (by decide +kernel)⟩
theorem lw_p15 : lw_okq (⟨"FishTinsModel", "sauceOf", "(I)I"⟩, 39) := ⟨⟨by decide +kernel, by decide +kernel⟩, List.mem_of_getElem? (i := 593) (by decide +kernel), List.mem_of_getElem? (i := 785) (by decide +kernel), List.mem_of_getElem? (i := 786) (by decide +kernel)⟩
def lw_privs_1 : List (MethodName × Nat) := [(⟨"FishTins", "canPack", "(III)Z"⟩, 14), (⟨"FishTins", "passHour", "()V"⟩, 14), (⟨"FishTins", "finishCharges", "()V"⟩, 14), (⟨"FishTins$Planner", "prepare", "(LFishTins$Kinds;)V"⟩, 8), (⟨"FishTins$Planner", "mostCases", "(LFishTins$Kinds;I)I"⟩, 8), (⟨"FishTins$Planner", "keepTried", "(I)V"⟩, 8), (⟨"FishTins$Planner", "use", "(LFishTins$Kinds;II)V"⟩, 8), (⟨"FishTinsModel", "isLot", "(I)Z"⟩, 39), (⟨"FishTinsModel", "isFresh", "(I)Z"⟩, 39), (⟨"FishTinsModel", "freshTill", "(I)I"⟩, 39), (⟨"FishTinsModel", "isTold", "(I)Z"⟩, 39), (⟨"FishTinsModel", "charges", "()I"⟩, 39), (⟨"FishTinsModel", "fishOf", "(I)I"⟩, 39), (⟨"FishTinsModel", "there", "(I)I"⟩, 39), (⟨"FishTinsModel", "takes", "(II)Z"⟩, 39), (⟨"FishTinsModel", "sauceOf", "(I)I"⟩, 39)]
theorem lw_r1 : ∀ q ∈ lw_privs_1, lw_okq q := List.forall_mem_cons.mpr ⟨lw_p0, List.forall_mem_cons.mpr ⟨lw_p1, List.forall_mem_cons.mpr ⟨lw_p2, List.forall_mem_cons.mpr ⟨lw_p3, List.forall_mem_cons.mpr ⟨lw_p4, List.forall_mem_cons.mpr ⟨lw_p5, List.forall_mem_cons.mpr ⟨lw_p6, List.forall_mem_cons.mpr ⟨lw_p7, List.forall_mem_cons.mpr ⟨lw_p8, List.forall_mem_cons.mpr ⟨lw_p9, List.forall_mem_cons.mpr ⟨lw_p10, List.forall_mem_cons.mpr ⟨lw_p11, List.forall_mem_cons.mpr ⟨lw_p12, List.forall_mem_cons.mpr ⟨lw_p13, List.forall_mem_cons.mpr ⟨lw_p14, List.forall_mem_cons.mpr ⟨lw_p15, fun _ h => absurd h List.not_mem_nil⟩⟩⟩⟩⟩⟩⟩⟩⟩⟩⟩⟩⟩⟩⟩⟩
theorem lw_p16 : lw_okq (⟨"FishTinsModel", "crewsThere", "()I"⟩, 39) := ⟨⟨by decide +kernel, by decide +kernel⟩, List.mem_of_getElem? (i := 593) (by decide +kernel), List.mem_of_getElem? (i := 789) (by decide +kernel), List.mem_of_getElem? (i := 790) (by decide +kernel)⟩
theorem lw_p17 : lw_okq (⟨"FishTinsModel", "first", "(I)I"⟩, 39) := ⟨⟨by decide +kernel, by decide +kernel⟩, List.mem_of_getElem? (i := 593) (by decide +kernel), List.mem_of_getElem? (i := 793) (by decide +kernel), List.mem_of_getElem? (i := 794) (by decide +kernel)⟩
theorem lw_p18 : lw_okq (⟨"FishTinsModel", "kilogramsIn", "(I)I"⟩, 39) := ⟨⟨by decide +kernel, by decide +kernel⟩, List.mem_of_getElem? (i := 593) (by decide +kernel), List.mem_of_getElem? (i := 801) (by decide +kernel), List.mem_of_getElem? (i := 802) (by decide +kernel)⟩
theorem lw_p19 : lw_okq (⟨"FishTinsModel", "hour", "()V"⟩, 39) := ⟨⟨by decide +kernel, by decide +kernel⟩, List.mem_of_getElem? (i := 593) (by decide +kernel), List.mem_of_getElem? (i := 809) (by decide +kernel), List.mem_of_getElem? (i := 810) (by decide +kernel)⟩
theorem lw_p20 : lw_okq (⟨"FishTinsModel", "done", "(I)V"⟩, 39) := ⟨⟨by decide +kernel, by decide +kernel⟩, List.mem_of_getElem? (i := 593) (by decide +kernel), List.mem_of_getElem? (i := 813) (by decide +kernel), List.mem_of_getElem? (i := 814) (by decide +kernel)⟩
theorem lw_p21 : lw_okq (⟨"FishTinsModel", "plans", "()V"⟩, 39) := ⟨⟨by decide +kernel, by decide +kernel⟩, List.mem_of_getElem? (i := 593) (by decide +kernel), List.mem_of_getElem? (i := 821) (by decide +kernel), List.mem_of_getElem? (i := 822) (by decide +kernel)⟩
theorem lw_p22 : lw_okq (⟨"FishTinsModel", "canBe", "()Z"⟩, 39) := ⟨⟨by decide +kernel, by decide +kernel⟩, List.mem_of_getElem? (i := 593) (by decide +kernel), List.mem_of_getElem? (i := 825) (by decide +kernel), List.mem_of_getElem? (i := 826) (by decide +kernel)⟩
theorem lw_p23 : lw_okq (⟨"FishTinsModel", "casesThere", "(I)I"⟩, 39) := ⟨⟨by decide +kernel, by decide +kernel⟩, List.mem_of_getElem? (i := 593) (by decide +kernel), List.mem_of_getElem? (i := 837) (by decide +kernel), List.mem_of_getElem? (i := 838) (by decide +kernel)⟩
theorem lw_p24 : lw_okq (⟨"FishTinsModel", "worthOf", "(I)I"⟩, 39) := ⟨⟨by decide +kernel, by decide +kernel⟩, List.mem_of_getElem? (i := 593) (by decide +kernel), List.mem_of_getElem? (i := 841) (by decide +kernel), List.mem_of_getElem? (i := 842) (by decide +kernel)⟩
def lw_privs_2 : List (MethodName × Nat) := [(⟨"FishTinsModel", "crewsThere", "()I"⟩, 39), (⟨"FishTinsModel", "first", "(I)I"⟩, 39), (⟨"FishTinsModel", "kilogramsIn", "(I)I"⟩, 39), (⟨"FishTinsModel", "hour", "()V"⟩, 39), (⟨"FishTinsModel", "done", "(I)V"⟩, 39), (⟨"FishTinsModel", "plans", "()V"⟩, 39), (⟨"FishTinsModel", "canBe", "()Z"⟩, 39), (⟨"FishTinsModel", "casesThere", "(I)I"⟩, 39), (⟨"FishTinsModel", "worthOf", "(I)I"⟩, 39)]
theorem lw_r2 : ∀ q ∈ lw_privs_2, lw_okq q := List.forall_mem_cons.mpr ⟨lw_p16, List.forall_mem_cons.mpr ⟨lw_p17, List.forall_mem_cons.mpr ⟨lw_p18, List.forall_mem_cons.mpr ⟨lw_p19, List.forall_mem_cons.mpr ⟨lw_p20, List.forall_mem_cons.mpr ⟨lw_p21, List.forall_mem_cons.mpr ⟨lw_p22, List.forall_mem_cons.mpr ⟨lw_p23, List.forall_mem_cons.mpr ⟨lw_p24, fun _ h => absurd h List.not_mem_nil⟩⟩⟩⟩⟩⟩⟩⟩⟩
def lw_privs : List (MethodName × Nat) := lw_privs_1 ++ (lw_privs_2)
def lw_tbl : List Cond := k2_sels lw_privs ++ tables_1
theorem lw_privs_ok : ∀ q ∈ lw_privs, lw_okq q := by
  show ∀ q ∈ lw_privs_1 ++ (lw_privs_2), lw_okq q
  exact List.forall_mem_append.mpr ⟨lw_r1, lw_r2⟩

/-! ===== BEGIN words of one list among another's, by their places ===== -/
theorem goodIn_r {big : List Cond} (ws : List Cond) (ps : List Nat) (hp : ws = ps.filterMap (fun i => big[i]?)) (h : ws.all goodWord = true) : GoodIn big ws := by
  intro w hw
  have h1 := List.all_eq_true.mp h w hw
  rw [hp] at hw
  obtain ⟨i, -, hi⟩ := List.mem_filterMap.mp hw
  have hm : w ∈ big := by first | exact List.mem_of_getElem? hi | exact List.getElem?_mem hi
  exact ⟨hm, good_of_word h1⟩
theorem goodIn_app {big a b : List Cond} (ha : GoodIn big a) (hb : GoodIn big b) : GoodIn big (a ++ b) := fun w h => (List.mem_append.mp h).elim (ha w) (hb w)
theorem goodIn_ca {big a b : List Cond} {c : Cond} (ha : GoodIn big (c :: a)) (hb : GoodIn big b) : GoodIn big (c :: (a ++ b)) := fun w h => (List.mem_cons.mp h).elim (fun e => ha w (List.mem_cons.mpr (Or.inl e))) (fun h => (List.mem_append.mp h).elim (fun h => ha w (List.mem_cons.mpr (Or.inr h))) (hb w))
theorem goodIn_sub {big ws : List Cond} (hm : ∀ w ∈ ws, w ∈ big) (h : ws.all goodWord = true) : GoodIn big ws := fun w hw => ⟨hm w hw, good_of_word (List.all_eq_true.mp h w hw)⟩
/-! ===== END ===== -/

/-! ===== BEGIN printed: names, fields, word lists, decode rows ===== -/
def RX0 : String := "FishTins$Batches"
def TX0 : u_T := fun k => match k with
  | 0 => ("FishTins$Batches", "kind", "[I", true)
  | 1 => ("FishTins$Batches", "cases", "[I", true)
  | 2 => ("FishTins$Batches", "left", "[I", true)
  | 3 => ("FishTins$Batches", "done", "[I", true)
  | 4 => ("FishTins$Batches", "buyers", "[I", true)
  | 5 => ("FishTins$Batches", "barred", "[Z", true)
  | 6 => ("FishTins$Batches", "fish", "[I", true)
  | 7 => ("FishTins$Batches", "number", "I", false)
  | _ => ("FishTins$Batches", "kilograms", "I", false)
def tyX0 : Nat → FieldType := fun k => match k with
  | 0 => .array .int
  | 1 => .array .int
  | 2 => .array .int
  | 3 => .array .int
  | 4 => .array .int
  | 5 => .array .boolean
  | 6 => .array .int
  | 7 => .int
  | _ => .int
abbrev wsX00 : List Cond := u_ws RX0 TX0 9
theorem nmX0 : ∀ a, a < 9 → ∀ b, b < 9 → a ≠ b → (TX0 a).2.1 ≠ (TX0 b).2.1 := by decide +kernel
theorem tyX0_ok : ∀ k, k < 9 → parseFieldDescriptor (TX0 k).2.2.1 = some (tyX0 k) := by decide +kernel
abbrev cX0_init : ByteArray := prog_2_method_1_code
def yX0_init : MethodName := ⟨RX0, "<init>", "()V"⟩
abbrev cX0_has : ByteArray := prog_2_method_2_code
def yX0_has : MethodName := ⟨RX0, "has", "(I)Z"⟩
abbrev cX0_add : ByteArray := prog_2_method_3_code
def yX0_add : MethodName := ⟨RX0, "add", "(LFishTins$Cookers;I)I"⟩
abbrev cX0_isForSale : ByteArray := prog_2_method_4_code
def yX0_isForSale : MethodName := ⟨RX0, "isForSale", "(II)Z"⟩
abbrev cX0_stock : ByteArray := prog_2_method_5_code
def yX0_stock : MethodName := ⟨RX0, "stock", "(I)I"⟩
abbrev cX0_caseWorth : ByteArray := prog_2_method_6_code
def yX0_caseWorth : MethodName := ⟨RX0, "caseWorth", "(III)I"⟩
abbrev cX0_deliver : ByteArray := prog_2_method_7_code
def yX0_deliver : MethodName := ⟨RX0, "deliver", "(IIIII)I"⟩
abbrev cX0_bar : ByteArray := prog_2_method_8_code
def yX0_bar : MethodName := ⟨RX0, "bar", "(I)I"⟩
def RX1 : String := "FishTins$Contracts"
def TX1 : u_T := fun k => match k with
  | 0 => ("FishTins$Contracts", "customer", "[I", true)
  | 1 => ("FishTins$Contracts", "kind", "[I", true)
  | 2 => ("FishTins$Contracts", "wanted", "[I", true)
  | 3 => ("FishTins$Contracts", "week", "[I", true)
  | 4 => ("FishTins$Contracts", "had", "[I", true)
  | 5 => ("FishTins$Contracts", "over", "[Z", true)
  | 6 => ("FishTins$Contracts", "byWeek", "[I", true)
  | _ => ("FishTins$Contracts", "number", "I", false)
def tyX1 : Nat → FieldType := fun k => match k with
  | 0 => .array .int
  | 1 => .array .int
  | 2 => .array .int
  | 3 => .array .int
  | 4 => .array .int
  | 5 => .array .boolean
  | 6 => .array .int
  | _ => .int
abbrev wsX10 : List Cond := u_ws RX1 TX1 8
theorem nmX1 : ∀ a, a < 8 → ∀ b, b < 8 → a ≠ b → (TX1 a).2.1 ≠ (TX1 b).2.1 := by decide +kernel
theorem tyX1_ok : ∀ k, k < 8 → parseFieldDescriptor (TX1 k).2.2.1 = some (tyX1 k) := by decide +kernel
abbrev cX1_init : ByteArray := prog_3_method_1_code
def yX1_init : MethodName := ⟨RX1, "<init>", "()V"⟩
abbrev cX1_has : ByteArray := prog_3_method_2_code
def yX1_has : MethodName := ⟨RX1, "has", "(I)Z"⟩
abbrev cX1_add : ByteArray := prog_3_method_3_code
def yX1_add : MethodName := ⟨RX1, "add", "(IIII)I"⟩
abbrev cX1_serve : ByteArray := prog_3_method_4_code
def yX1_serve : MethodName := ⟨RX1, "serve", "(III)V"⟩
abbrev cX1_shortOf : ByteArray := prog_3_method_5_code
def yX1_shortOf : MethodName := ⟨RX1, "shortOf", "(II)I"⟩
abbrev cX1_close : ByteArray := prog_3_method_6_code
def yX1_close : MethodName := ⟨RX1, "close", "(I[I)I"⟩
def RX2 : String := "FishTins$Cookers"
def TX2 : u_T := fun k => match k with
  | 0 => ("FishTins$Cookers", "kind", "[I", true)
  | 1 => ("FishTins$Cookers", "cases", "[I", true)
  | 2 => ("FishTins$Cookers", "done", "[I", true)
  | 3 => ("FishTins$Cookers", "kilograms", "[I", true)
  | _ => ("FishTins$Cookers", "fish", "[I", true)
def tyX2 : Nat → FieldType := fun k => match k with
  | 0 => .array .int
  | 1 => .array .int
  | 2 => .array .int
  | 3 => .array .int
  | _ => .array .int
abbrev wsX20 : List Cond := u_ws RX2 TX2 5
theorem nmX2 : ∀ a, a < 5 → ∀ b, b < 5 → a ≠ b → (TX2 a).2.1 ≠ (TX2 b).2.1 := by decide +kernel
theorem tyX2_ok : ∀ k, k < 5 → parseFieldDescriptor (TX2 k).2.2.1 = some (tyX2 k) := by decide +kernel
abbrev cX2_init : ByteArray := prog_4_method_1_code
def yX2_init : MethodName := ⟨RX2, "<init>", "()V"⟩
abbrev cX2_isFree : ByteArray := prog_4_method_2_code
def yX2_isFree : MethodName := ⟨RX2, "isFree", "(I)Z"⟩
abbrev cX2_charges : ByteArray := prog_4_method_3_code
def yX2_charges : MethodName := ⟨RX2, "charges", "()I"⟩
abbrev cX2_allKilograms : ByteArray := prog_4_method_4_code
def yX2_allKilograms : MethodName := ⟨RX2, "allKilograms", "()I"⟩
abbrev cX2_fill : ByteArray := prog_4_method_5_code
def yX2_fill : MethodName := ⟨RX2, "fill", "(IIIII)V"⟩
abbrev cX2_empty : ByteArray := prog_4_method_6_code
def yX2_empty : MethodName := ⟨RX2, "empty", "(I)V"⟩
def RX3 : String := "FishTins$Crews"
def TX3 : u_T := fun k => match k with
  | 0 => ("FishTins$Crews", "wasCalled", "[Z", true)
  | _ => ("FishTins$Crews", "comes", "[I", true)
def tyX3 : Nat → FieldType := fun k => match k with
  | 0 => .array .boolean
  | _ => .array .int
abbrev wsX30 : List Cond := u_ws RX3 TX3 2
theorem nmX3 : ∀ a, a < 2 → ∀ b, b < 2 → a ≠ b → (TX3 a).2.1 ≠ (TX3 b).2.1 := by decide +kernel
theorem tyX3_ok : ∀ k, k < 2 → parseFieldDescriptor (TX3 k).2.2.1 = some (tyX3 k) := by decide +kernel
abbrev cX3_init : ByteArray := prog_5_method_1_code
def yX3_init : MethodName := ⟨RX3, "<init>", "()V"⟩
abbrev cX3_isGone : ByteArray := prog_5_method_2_code
def yX3_isGone : MethodName := ⟨RX3, "isGone", "(II)Z"⟩
abbrev cX3_there : ByteArray := prog_5_method_3_code
def yX3_there : MethodName := ⟨RX3, "there", "(I)I"⟩
def RX4 : String := "FishTins$Kinds"
def TX4 : u_T := fun k => match k with
  | 0 => ("FishTins$Kinds", "known", "[Z", true)
  | 1 => ("FishTins$Kinds", "takes", "[I", true)
  | 2 => ("FishTins$Kinds", "sauce", "[I", true)
  | 3 => ("FishTins$Kinds", "fish", "[I", true)
  | 4 => ("FishTins$Kinds", "hours", "[I", true)
  | 5 => ("FishTins$Kinds", "price", "[I", true)
  | _ => ("FishTins$Kinds", "number", "I", false)
def tyX4 : Nat → FieldType := fun k => match k with
  | 0 => .array .boolean
  | 1 => .array .int
  | 2 => .array .int
  | 3 => .array .int
  | 4 => .array .int
  | 5 => .array .int
  | _ => .int
abbrev wsX40 : List Cond := u_ws RX4 TX4 7
theorem nmX4 : ∀ a, a < 7 → ∀ b, b < 7 → a ≠ b → (TX4 a).2.1 ≠ (TX4 b).2.1 := by decide +kernel
theorem tyX4_ok : ∀ k, k < 7 → parseFieldDescriptor (TX4 k).2.2.1 = some (tyX4 k) := by decide +kernel
abbrev cX4_init : ByteArray := prog_6_method_1_code
def yX4_init : MethodName := ⟨RX4, "<init>", "()V"⟩
abbrev cX4_canBe : ByteArray := prog_6_method_2_code
def yX4_canBe : MethodName := ⟨RX4, "canBe", "(I)Z"⟩
abbrev cX4_takesOf : ByteArray := prog_6_method_3_code
def yX4_takesOf : MethodName := ⟨RX4, "takesOf", "(I)I"⟩
abbrev cX4_sauceOf : ByteArray := prog_6_method_4_code
def yX4_sauceOf : MethodName := ⟨RX4, "sauceOf", "(I)I"⟩
abbrev cX4_fishOf : ByteArray := prog_6_method_5_code
def yX4_fishOf : MethodName := ⟨RX4, "fishOf", "(I)I"⟩
abbrev cX4_hoursOf : ByteArray := prog_6_method_6_code
def yX4_hoursOf : MethodName := ⟨RX4, "hoursOf", "(I)I"⟩
abbrev cX4_has : ByteArray := prog_6_method_7_code
def yX4_has : MethodName := ⟨RX4, "has", "(I)Z"⟩
abbrev cX4_add : ByteArray := prog_6_method_8_code
def yX4_add : MethodName := ⟨RX4, "add", "(III)V"⟩
def RX5 : String := "FishTins$Lots"
def TX5 : u_T := fun k => match k with
  | 0 => ("FishTins$Lots", "size", "[I", true)
  | 1 => ("FishTins$Lots", "left", "[I", true)
  | 2 => ("FishTins$Lots", "caught", "[I", true)
  | 3 => ("FishTins$Lots", "onIce", "[Z", true)
  | 4 => ("FishTins$Lots", "recalled", "[Z", true)
  | 5 => ("FishTins$Lots", "byCatch", "[I", true)
  | _ => ("FishTins$Lots", "number", "I", false)
def tyX5 : Nat → FieldType := fun k => match k with
  | 0 => .array .int
  | 1 => .array .int
  | 2 => .array .int
  | 3 => .array .boolean
  | 4 => .array .boolean
  | 5 => .array .int
  | _ => .int
abbrev wsX50 : List Cond := u_ws RX5 TX5 7
theorem nmX5 : ∀ a, a < 7 → ∀ b, b < 7 → a ≠ b → (TX5 a).2.1 ≠ (TX5 b).2.1 := by decide +kernel
theorem tyX5_ok : ∀ k, k < 7 → parseFieldDescriptor (TX5 k).2.2.1 = some (tyX5 k) := by decide +kernel
abbrev cX5_init : ByteArray := prog_7_method_1_code
def yX5_init : MethodName := ⟨RX5, "<init>", "()V"⟩
abbrev cX5_has : ByteArray := prog_7_method_2_code
def yX5_has : MethodName := ⟨RX5, "has", "(I)Z"⟩
abbrev cX5_add : ByteArray := prog_7_method_3_code
def yX5_add : MethodName := ⟨RX5, "add", "(III)I"⟩
abbrev cX5_staleHour : ByteArray := prog_7_method_4_code
def yX5_staleHour : MethodName := ⟨RX5, "staleHour", "(I)I"⟩
abbrev cX5_isFresh : ByteArray := prog_7_method_5_code
def yX5_isFresh : MethodName := ⟨RX5, "isFresh", "(II)Z"⟩
abbrev cX5_kilograms : ByteArray := prog_7_method_6_code
def yX5_kilograms : MethodName := ⟨RX5, "kilograms", "()I"⟩
abbrev cX5_isUsable : ByteArray := prog_7_method_7_code
def yX5_isUsable : MethodName := ⟨RX5, "isUsable", "(II)Z"⟩
abbrev cX5_usable : ByteArray := prog_7_method_8_code
def yX5_usable : MethodName := ⟨RX5, "usable", "(I)I"⟩
abbrev cX5_take : ByteArray := prog_7_method_9_code
def yX5_take : MethodName := ⟨RX5, "take", "(II[II)V"⟩
abbrev cX5_anyRecalled : ByteArray := prog_7_method_10_code
def yX5_anyRecalled : MethodName := ⟨RX5, "anyRecalled", "([II)Z"⟩
abbrev cX5_spoil : ByteArray := prog_7_method_11_code
def yX5_spoil : MethodName := ⟨RX5, "spoil", "(I)I"⟩
def RX6 : String := "FishTins$Planner"
def TX6 : u_T := fun k => match k with
  | 0 => ("FishTins$Planner", "supply", "[I", true)
  | 1 => ("FishTins$Planner", "measures", "[I", true)
  | 2 => ("FishTins$Planner", "room", "[I", true)
  | 3 => ("FishTins$Planner", "hope", "[I", true)
  | 4 => ("FishTins$Planner", "tried", "[I", true)
  | 5 => ("FishTins$Planner", "best", "[I", true)
  | 6 => ("FishTins$Planner", "kindsKnown", "I", false)
  | _ => ("FishTins$Planner", "bestWorth", "I", false)
def tyX6 : Nat → FieldType := fun k => match k with
  | 0 => .array .int
  | 1 => .array .int
  | 2 => .array .int
  | 3 => .array .int
  | 4 => .array .int
  | 5 => .array .int
  | 6 => .int
  | _ => .int
abbrev wsX60 : List Cond := u_ws RX6 TX6 8
theorem nmX6 : ∀ a, a < 8 → ∀ b, b < 8 → a ≠ b → (TX6 a).2.1 ≠ (TX6 b).2.1 := by decide +kernel
theorem tyX6_ok : ∀ k, k < 8 → parseFieldDescriptor (TX6 k).2.2.1 = some (tyX6 k) := by decide +kernel
abbrev cX6_init : ByteArray := prog_8_method_1_code
def yX6_init : MethodName := ⟨RX6, "<init>", "()V"⟩
abbrev cX6_update : ByteArray := prog_8_method_2_code
def yX6_update : MethodName := ⟨RX6, "update", "(LFishTins$Kinds;LFishTins$Lots;[I)V"⟩
abbrev cX6_prepare : ByteArray := prog_8_method_3_code
def yX6_prepare : MethodName := ⟨RX6, "prepare", "(LFishTins$Kinds;)V"⟩
abbrev cX6_search : ByteArray := prog_8_method_4_code
def yX6_search : MethodName := ⟨RX6, "search", "(LFishTins$Planner;LFishTins$Kinds;II)V"⟩
abbrev cX6_keepTried : ByteArray := prog_8_method_5_code
def yX6_keepTried : MethodName := ⟨RX6, "keepTried", "(I)V"⟩
abbrev cX6_mostCases : ByteArray := prog_8_method_6_code
def yX6_mostCases : MethodName := ⟨RX6, "mostCases", "(LFishTins$Kinds;I)I"⟩
abbrev cX6_use : ByteArray := prog_8_method_7_code
def yX6_use : MethodName := ⟨RX6, "use", "(LFishTins$Kinds;II)V"⟩
def RX7 : String := "FishTins"
def TX7 : u_T := fun k => match k with
  | 0 => ("FishTins", "lots", "LFishTins$Lots;", true)
  | 1 => ("FishTins", "kinds", "LFishTins$Kinds;", true)
  | 2 => ("FishTins", "crews", "LFishTins$Crews;", true)
  | 3 => ("FishTins", "cookers", "LFishTins$Cookers;", true)
  | 4 => ("FishTins", "batches", "LFishTins$Batches;", true)
  | 5 => ("FishTins", "contracts", "LFishTins$Contracts;", true)
  | 6 => ("FishTins", "planner", "LFishTins$Planner;", true)
  | 7 => ("FishTins", "sauces", "[I", true)
  | 8 => ("FishTins", "now", "I", false)
  | 9 => ("FishTins", "iceThere", "I", false)
  | 10 => ("FishTins", "packedThisHour", "I", false)
  | 11 => ("FishTins", "meal", "I", false)
  | 12 => ("FishTins", "coins", "I", false)
  | _ => ("FishTins", "fines", "I", false)
def tyX7 : Nat → FieldType := fun k => match k with
  | 0 => .object "FishTins$Lots"
  | 1 => .object "FishTins$Kinds"
  | 2 => .object "FishTins$Crews"
  | 3 => .object "FishTins$Cookers"
  | 4 => .object "FishTins$Batches"
  | 5 => .object "FishTins$Contracts"
  | 6 => .object "FishTins$Planner"
  | 7 => .array .int
  | 8 => .int
  | 9 => .int
  | 10 => .int
  | 11 => .int
  | 12 => .int
  | _ => .int
abbrev wsX70 : List Cond := u_ws RX7 TX7 14
theorem nmX7 : ∀ a, a < 14 → ∀ b, b < 14 → a ≠ b → (TX7 a).2.1 ≠ (TX7 b).2.1 := by decide +kernel
theorem tyX7_ok : ∀ k, k < 14 → parseFieldDescriptor (TX7 k).2.2.1 = some (tyX7 k) := by decide +kernel
abbrev cX7_init : ByteArray := prog_1_method_1_code
def yX7_init : MethodName := ⟨RX7, "<init>", "()V"⟩
abbrev cX7_land : ByteArray := prog_1_method_2_code
def yX7_land : MethodName := ⟨RX7, "land", "(III)I"⟩
abbrev cX7_ice : ByteArray := prog_1_method_3_code
def yX7_ice : MethodName := ⟨RX7, "ice", "(I)I"⟩
abbrev cX7_iced : ByteArray := prog_1_method_4_code
def yX7_iced : MethodName := ⟨RX7, "iced", "(I)Z"⟩
abbrev cX7_kind : ByteArray := prog_1_method_5_code
def yX7_kind : MethodName := ⟨RX7, "kind", "(III)Z"⟩
abbrev cX7_sauce : ByteArray := prog_1_method_6_code
def yX7_sauce : MethodName := ⟨RX7, "sauce", "(II)I"⟩
abbrev cX7_call : ByteArray := prog_1_method_7_code
def yX7_call : MethodName := ⟨RX7, "call", "(I)I"⟩
abbrev cX7_pack : ByteArray := prog_1_method_8_code
def yX7_pack : MethodName := ⟨RX7, "pack", "(III)I"⟩
abbrev cX7_fail : ByteArray := prog_1_method_9_code
def yX7_fail : MethodName := ⟨RX7, "fail", "(I)I"⟩
abbrev cX7_go : ByteArray := prog_1_method_10_code
def yX7_go : MethodName := ⟨RX7, "go", "(I)I"⟩
abbrev cX7_plan : ByteArray := prog_1_method_11_code
def yX7_plan : MethodName := ⟨RX7, "plan", "(I)I"⟩
abbrev cX7_worth : ByteArray := prog_1_method_12_code
def yX7_worth : MethodName := ⟨RX7, "worth", "()I"⟩
abbrev cX7_sell : ByteArray := prog_1_method_13_code
def yX7_sell : MethodName := ⟨RX7, "sell", "(III)I"⟩
abbrev cX7_contract : ByteArray := prog_1_method_14_code
def yX7_contract : MethodName := ⟨RX7, "contract", "(IIII)I"⟩
abbrev cX7_lacks : ByteArray := prog_1_method_15_code
def yX7_lacks : MethodName := ⟨RX7, "lacks", "(I)I"⟩
abbrev cX7_recall : ByteArray := prog_1_method_16_code
def yX7_recall : MethodName := ⟨RX7, "recall", "(I)I"⟩
abbrev cX7_lot : ByteArray := prog_1_method_17_code
def yX7_lot : MethodName := ⟨RX7, "lot", "(II)I"⟩
abbrev cX7_batch : ByteArray := prog_1_method_18_code
def yX7_batch : MethodName := ⟨RX7, "batch", "(II)I"⟩
abbrev cX7_of : ByteArray := prog_1_method_19_code
def yX7_of : MethodName := ⟨RX7, "of", "(II)I"⟩
abbrev cX7_cooker : ByteArray := prog_1_method_20_code
def yX7_cooker : MethodName := ⟨RX7, "cooker", "(II)I"⟩
abbrev cX7_told : ByteArray := prog_1_method_21_code
def yX7_told : MethodName := ⟨RX7, "told", "(II)I"⟩
abbrev cX7_count : ByteArray := prog_1_method_22_code
def yX7_count : MethodName := ⟨RX7, "count", "(I)I"⟩
abbrev cX7_canPack : ByteArray := prog_1_method_23_code
def yX7_canPack : MethodName := ⟨RX7, "canPack", "(III)Z"⟩
abbrev cX7_passHour : ByteArray := prog_1_method_24_code
def yX7_passHour : MethodName := ⟨RX7, "passHour", "()V"⟩
abbrev cX7_finishCharges : ByteArray := prog_1_method_25_code
def yX7_finishCharges : MethodName := ⟨RX7, "finishCharges", "()V"⟩
abbrev cX7_within : ByteArray := prog_1_method_26_code
def yX7_within : MethodName := ⟨RX7, "within", "(III)Z"⟩
abbrev cX7_bit : ByteArray := prog_1_method_27_code
def yX7_bit : MethodName := ⟨RX7, "bit", "(Z)I"⟩
abbrev cX7_putInOrder : ByteArray := prog_1_method_28_code
def yX7_putInOrder : MethodName := ⟨RX7, "putInOrder", "([I[II)V"⟩
def RX8 : String := "FishTinsModel"
def TX8 : u_T := fun k => match k with
  | 0 => ("FishTinsModel", "now", "I", false)
  | 1 => ("FishTinsModel", "lots", "I", false)
  | 2 => ("FishTinsModel", "size", "[I", true)
  | 3 => ("FishTinsModel", "left", "[I", true)
  | 4 => ("FishTinsModel", "caught", "[I", true)
  | 5 => ("FishTinsModel", "isIced", "[Z", true)
  | 6 => ("FishTinsModel", "isRecalled", "[Z", true)
  | 7 => ("FishTinsModel", "ice", "I", false)
  | 8 => ("FishTinsModel", "kinds", "[I", true)
  | 9 => ("FishTinsModel", "price", "[I", true)
  | 10 => ("FishTinsModel", "sauce", "[I", true)
  | 11 => ("FishTinsModel", "comes", "[I", true)
  | 12 => ("FishTinsModel", "packed", "I", false)
  | 13 => ("FishTinsModel", "cookerKind", "[I", true)
  | 14 => ("FishTinsModel", "cookerCases", "[I", true)
  | 15 => ("FishTinsModel", "cookerDone", "[I", true)
  | 16 => ("FishTinsModel", "cookerOf", "[I", true)
  | 17 => ("FishTinsModel", "meal", "I", false)
  | 18 => ("FishTinsModel", "batches", "I", false)
  | 19 => ("FishTinsModel", "batchKind", "[I", true)
  | 20 => ("FishTinsModel", "cases", "[I", true)
  | 21 => ("FishTinsModel", "casesFirst", "[I", true)
  | 22 => ("FishTinsModel", "doneIn", "[I", true)
  | 23 => ("FishTinsModel", "isBarred", "[Z", true)
  | 24 => ("FishTinsModel", "buyers", "[I", true)
  | 25 => ("FishTinsModel", "batchOf", "[I", true)
  | 26 => ("FishTinsModel", "coins", "I", false)
  | 27 => ("FishTinsModel", "contracts", "I", false)
  | 28 => ("FishTinsModel", "customer", "[I", true)
  | 29 => ("FishTinsModel", "wants", "[I", true)
  | 30 => ("FishTinsModel", "many", "[I", true)
  | 31 => ("FishTinsModel", "weekOf", "[I", true)
  | 32 => ("FishTinsModel", "had", "[I", true)
  | 33 => ("FishTinsModel", "isOver", "[Z", true)
  | 34 => ("FishTinsModel", "fines", "I", false)
  | 35 => ("FishTinsModel", "stock", "[I", true)
  | 36 => ("FishTinsModel", "tried", "[I", true)
  | 37 => ("FishTinsModel", "best", "[I", true)
  | _ => ("FishTinsModel", "bestWorth", "I", false)
def tyX8 : Nat → FieldType := fun k => match k with
  | 0 => .int
  | 1 => .int
  | 2 => .array .int
  | 3 => .array .int
  | 4 => .array .int
  | 5 => .array .boolean
  | 6 => .array .boolean
  | 7 => .int
  | 8 => .array .int
  | 9 => .array .int
  | 10 => .array .int
  | 11 => .array .int
  | 12 => .int
  | 13 => .array .int
  | 14 => .array .int
  | 15 => .array .int
  | 16 => .array .int
  | 17 => .int
  | 18 => .int
  | 19 => .array .int
  | 20 => .array .int
  | 21 => .array .int
  | 22 => .array .int
  | 23 => .array .boolean
  | 24 => .array .int
  | 25 => .array .int
  | 26 => .int
  | 27 => .int
  | 28 => .array .int
  | 29 => .array .int
  | 30 => .array .int
  | 31 => .array .int
  | 32 => .array .int
  | 33 => .array .boolean
  | 34 => .int
  | 35 => .array .int
  | 36 => .array .int
  | 37 => .array .int
  | _ => .int
abbrev wsX80 : List Cond := u_ws RX8 TX8 39
theorem nmX8 : ∀ a, a < 39 → ∀ b, b < 39 → a ≠ b → (TX8 a).2.1 ≠ (TX8 b).2.1 := by decide +kernel
theorem tyX8_ok : ∀ k, k < 39 → parseFieldDescriptor (TX8 k).2.2.1 = some (tyX8 k) := by decide +kernel
abbrev cX8_init : ByteArray := prog_10_method_1_code
def yX8_init : MethodName := ⟨RX8, "<init>", "()V"⟩
abbrev cX8_in : ByteArray := prog_10_method_2_code
def yX8_in : MethodName := ⟨RX8, "in", "(III)Z"⟩
abbrev cX8_isLot : ByteArray := prog_10_method_3_code
def yX8_isLot : MethodName := ⟨RX8, "isLot", "(I)Z"⟩
abbrev cX8_freshTill : ByteArray := prog_10_method_4_code
def yX8_freshTill : MethodName := ⟨RX8, "freshTill", "(I)I"⟩
abbrev cX8_isFresh : ByteArray := prog_10_method_5_code
def yX8_isFresh : MethodName := ⟨RX8, "isFresh", "(I)Z"⟩
abbrev cX8_land : ByteArray := prog_10_method_6_code
def yX8_land : MethodName := ⟨RX8, "land", "(III)I"⟩
abbrev cX8_ice : ByteArray := prog_10_method_7_code
def yX8_ice : MethodName := ⟨RX8, "ice", "(I)I"⟩
abbrev cX8_iced : ByteArray := prog_10_method_8_code
def yX8_iced : MethodName := ⟨RX8, "iced", "(I)Z"⟩
abbrev cX8_isKindNumber : ByteArray := prog_10_method_9_code
def yX8_isKindNumber : MethodName := ⟨RX8, "isKindNumber", "(I)Z"⟩
abbrev cX8_kind : ByteArray := prog_10_method_10_code
def yX8_kind : MethodName := ⟨RX8, "kind", "(III)Z"⟩
abbrev cX8_isTold : ByteArray := prog_10_method_11_code
def yX8_isTold : MethodName := ⟨RX8, "isTold", "(I)Z"⟩
abbrev cX8_takes : ByteArray := prog_10_method_12_code
def yX8_takes : MethodName := ⟨RX8, "takes", "(II)Z"⟩
abbrev cX8_fishOf : ByteArray := prog_10_method_13_code
def yX8_fishOf : MethodName := ⟨RX8, "fishOf", "(I)I"⟩
abbrev cX8_sauceOf : ByteArray := prog_10_method_14_code
def yX8_sauceOf : MethodName := ⟨RX8, "sauceOf", "(I)I"⟩
abbrev cX8_sauce : ByteArray := prog_10_method_15_code
def yX8_sauce : MethodName := ⟨RX8, "sauce", "(II)I"⟩
abbrev cX8_call : ByteArray := prog_10_method_16_code
def yX8_call : MethodName := ⟨RX8, "call", "(I)I"⟩
abbrev cX8_crewsThere : ByteArray := prog_10_method_17_code
def yX8_crewsThere : MethodName := ⟨RX8, "crewsThere", "()I"⟩
abbrev cX8_charges : ByteArray := prog_10_method_18_code
def yX8_charges : MethodName := ⟨RX8, "charges", "()I"⟩
abbrev cX8_first : ByteArray := prog_10_method_19_code
def yX8_first : MethodName := ⟨RX8, "first", "(I)I"⟩
abbrev cX8_there : ByteArray := prog_10_method_20_code
def yX8_there : MethodName := ⟨RX8, "there", "(I)I"⟩
abbrev cX8_pack : ByteArray := prog_10_method_21_code
def yX8_pack : MethodName := ⟨RX8, "pack", "(III)I"⟩
abbrev cX8_kilogramsIn : ByteArray := prog_10_method_22_code
def yX8_kilogramsIn : MethodName := ⟨RX8, "kilogramsIn", "(I)I"⟩
abbrev cX8_fail : ByteArray := prog_10_method_23_code
def yX8_fail : MethodName := ⟨RX8, "fail", "(I)I"⟩
abbrev cX8_done : ByteArray := prog_10_method_24_code
def yX8_done : MethodName := ⟨RX8, "done", "(I)V"⟩
abbrev cX8_go : ByteArray := prog_10_method_25_code
def yX8_go : MethodName := ⟨RX8, "go", "(I)I"⟩
abbrev cX8_hour : ByteArray := prog_10_method_26_code
def yX8_hour : MethodName := ⟨RX8, "hour", "()V"⟩
abbrev cX8_canBe : ByteArray := prog_10_method_27_code
def yX8_canBe : MethodName := ⟨RX8, "canBe", "()Z"⟩
abbrev cX8_plans : ByteArray := prog_10_method_28_code
def yX8_plans : MethodName := ⟨RX8, "plans", "()V"⟩
abbrev cX8_plan : ByteArray := prog_10_method_29_code
def yX8_plan : MethodName := ⟨RX8, "plan", "(I)I"⟩
abbrev cX8_worth : ByteArray := prog_10_method_30_code
def yX8_worth : MethodName := ⟨RX8, "worth", "()I"⟩
abbrev cX8_worthOf : ByteArray := prog_10_method_31_code
def yX8_worthOf : MethodName := ⟨RX8, "worthOf", "(I)I"⟩
abbrev cX8_casesThere : ByteArray := prog_10_method_32_code
def yX8_casesThere : MethodName := ⟨RX8, "casesThere", "(I)I"⟩
abbrev cX8_sell : ByteArray := prog_10_method_33_code
def yX8_sell : MethodName := ⟨RX8, "sell", "(III)I"⟩
abbrev cX8_contract : ByteArray := prog_10_method_34_code
def yX8_contract : MethodName := ⟨RX8, "contract", "(IIII)I"⟩
abbrev cX8_lacks : ByteArray := prog_10_method_35_code
def yX8_lacks : MethodName := ⟨RX8, "lacks", "(I)I"⟩
abbrev cX8_recall : ByteArray := prog_10_method_36_code
def yX8_recall : MethodName := ⟨RX8, "recall", "(I)I"⟩
abbrev cX8_lot : ByteArray := prog_10_method_37_code
def yX8_lot : MethodName := ⟨RX8, "lot", "(II)I"⟩
abbrev cX8_batch : ByteArray := prog_10_method_38_code
def yX8_batch : MethodName := ⟨RX8, "batch", "(II)I"⟩
abbrev cX8_of : ByteArray := prog_10_method_39_code
def yX8_of : MethodName := ⟨RX8, "of", "(II)I"⟩
abbrev cX8_cooker : ByteArray := prog_10_method_40_code
def yX8_cooker : MethodName := ⟨RX8, "cooker", "(II)I"⟩
abbrev cX8_told : ByteArray := prog_10_method_41_code
def yX8_told : MethodName := ⟨RX8, "told", "(II)I"⟩
abbrev cX8_count : ByteArray := prog_10_method_42_code
def yX8_count : MethodName := ⟨RX8, "count", "(I)I"⟩
def RJ9 : String := "java/lang/Math"
def TJ9 : u_T := fun k => match k with
  | _ => ("", "", "", false)
def tyJ9 : Nat → FieldType := fun k => match k with
  | _ => .int
abbrev wsJ90 : List Cond := u_ws RJ9 TJ9 0
theorem nmJ9 : ∀ a, a < 0 → ∀ b, b < 0 → a ≠ b → (TJ9 a).2.1 ≠ (TJ9 b).2.1 := by decide +kernel
theorem tyJ9_ok : ∀ k, k < 0 → parseFieldDescriptor (TJ9 k).2.2.1 = some (tyJ9 k) := by decide +kernel
abbrev cJ9_max_7cf53 : ByteArray := prog_11_method_65_code
def yJ9_max_7cf53 : MethodName := ⟨RJ9, "max", "(II)I"⟩
abbrev cJ9_min_7cf53 : ByteArray := prog_11_method_69_code
def yJ9_min_7cf53 : MethodName := ⟨RJ9, "min", "(II)I"⟩
def RJ10 : String := "java/lang/System"
def TJ10 : u_T := fun k => match k with
  | _ => ("", "", "", false)
def tyJ10 : Nat → FieldType := fun k => match k with
  | _ => .int
abbrev wsJ100 : List Cond := u_ws RJ10 TJ10 0
theorem nmJ10 : ∀ a, a < 0 → ∀ b, b < 0 → a ≠ b → (TJ10 a).2.1 ≠ (TJ10 b).2.1 := by decide +kernel
theorem tyJ10_ok : ∀ k, k < 0 → parseFieldDescriptor (TJ10 k).2.2.1 = some (tyJ10 k) := by decide +kernel
def RL : String := "FishTinsLaw"
abbrev cL_law : ByteArray := code
def yL_law : MethodName := ⟨RL, "law", "([I)Z"⟩
abbrev vwCl : List vw_C := [(RX0, TX0, 9), (RX1, TX1, 8), (RX2, TX2, 5), (RX3, TX3, 2), (RX4, TX4, 7), (RX5, TX5, 7), (RX6, TX6, 8), (RX7, TX7, 14), (RX8, TX8, 39)]
