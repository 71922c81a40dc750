section
-- ===== PART A: goes FIRST, ahead of the names: the tables' words, and 'selects' of the private methods out of them =====
/-- a private method of a class that the tables say can be made, by its rows of tables_1 -/
def lw_okq (q : MethodName × Nat) : Prop := (q.1.cls ≠ "java/lang/invoke/MethodHandle" ∧ q.1.cls ≠ "java/lang/invoke/VarHandle") ∧ Cond.instantiable q.1.cls q.2 ∈ tables_1 ∧ Cond.privateMethod q.1 ∈ tables_1 ∧ Cond.instanceMethod q.1 ∈ tables_1
theorem lw_p0 : lw_okq (⟨"FishTins", "canPack", "(III)Z"⟩, 14) := ⟨⟨by decide +kernel, by decide +kernel⟩, List.mem_of_getElem? (i := 13) (by decide +kernel), List.mem_of_getElem? (i := 398) (by decide +kernel), List.mem_of_getElem? (i := 399) (by decide +kernel)⟩
theorem lw_p1 : lw_okq (⟨"FishTins", "passHour", "()V"⟩, 14) := ⟨⟨by decide +kernel, by decide +kernel⟩, List.mem_of_getElem? (i := 13) (by decide +kernel), List.mem_of_getElem? (i := 432) (by decide +kernel), List.mem_of_getElem? (i := 433) (by decide +kernel)⟩
theorem lw_p2 : lw_okq (⟨"FishTins", "finishCharges", "()V"⟩, 14) := ⟨⟨by decide +kernel, by decide +kernel⟩, List.mem_of_getElem? (i := 13) (by decide +kernel), List.mem_of_getElem? (i := 436) (by decide +kernel), List.mem_of_getElem? (i := 437) (by decide +kernel)⟩
theorem lw_p3 : lw_okq (⟨"FishTins$Planner", "prepare", "(LFishTins$Kinds;)V"⟩, 8) := ⟨⟨by decide +kernel, by decide +kernel⟩, List.mem_of_getElem? (i := 229) (by decide +kernel), List.mem_of_getElem? (i := 469) (by decide +kernel), List.mem_of_getElem? (i := 470) (by decide +kernel)⟩
theorem lw_p4 : lw_okq (⟨"FishTins$Planner", "mostCases", "(LFishTins$Kinds;I)I"⟩, 8) := ⟨⟨by decide +kernel, by decide +kernel⟩, List.mem_of_getElem? (i := 229) (by decide +kernel), List.mem_of_getElem? (i := 473) (by decide +kernel), List.mem_of_getElem? (i := 474) (by decide +kernel)⟩
theorem lw_p5 : lw_okq (⟨"FishTins$Planner", "keepTried", "(I)V"⟩, 8) := ⟨⟨by decide +kernel, by decide +kernel⟩, List.mem_of_getElem? (i := 229) (by decide +kernel), List.mem_of_getElem? (i := 481) (by decide +kernel), List.mem_of_getElem? (i := 482) (by decide +kernel)⟩
theorem lw_p6 : lw_okq (⟨"FishTins$Planner", "use", "(LFishTins$Kinds;II)V"⟩, 8) := ⟨⟨by decide +kernel, by decide +kernel⟩, List.mem_of_getElem? (i := 229) (by decide +kernel), List.mem_of_getElem? (i := 486) (by decide +kernel), List.mem_of_getElem? (i := 487) (by decide +kernel)⟩
theorem lw_p7 : lw_okq (⟨"FishTinsModel", "isLot", "(I)Z"⟩, 39) := ⟨⟨by decide +kernel, by decide +kernel⟩, List.mem_of_getElem? (i := 593) (by decide +kernel), List.mem_of_getElem? (i := 734) (by decide +kernel), List.mem_of_getElem? (i := 735) (by decide +kernel)⟩
theorem lw_p8 : lw_okq (⟨"FishTinsModel", "isFresh", "(I)Z"⟩, 39) := ⟨⟨by decide +kernel, by decide +kernel⟩, List.mem_of_getElem? (i := 593) (by decide +kernel), List.mem_of_getElem? (i := 738) (by decide +kernel), List.mem_of_getElem? (i := 739) (by decide +kernel)⟩
theorem lw_p9 : lw_okq (⟨"FishTinsModel", "freshTill", "(I)I"⟩, 39) := ⟨⟨by decide +kernel, by decide +kernel⟩, List.mem_of_getElem? (i := 593) (by decide +kernel), List.mem_of_getElem? (i := 742) (by decide +kernel), List.mem_of_getElem? (i := 743) (by decide +kernel)⟩
theorem lw_p10 : lw_okq (⟨"FishTinsModel", "isTold", "(I)Z"⟩, 39) := ⟨⟨by decide +kernel, by decide +kernel⟩, List.mem_of_getElem? (i := 593) (by decide +kernel), List.mem_of_getElem? (i := 765) (by decide +kernel), List.mem_of_getElem? (i := 766) (by decide +kernel)⟩
theorem lw_p11 : lw_okq (⟨"FishTinsModel", "charges", "()I"⟩, 39) := ⟨⟨by decide +kernel, by decide +kernel⟩, List.mem_of_getElem? (i := 593) (by decide +kernel), List.mem_of_getElem? (i := 769) (by decide +kernel), List.mem_of_getElem? (i := 770) (by decide +kernel)⟩
theorem lw_p12 : lw_okq (⟨"FishTinsModel", "fishOf", "(I)I"⟩, 39) := ⟨⟨by decide +kernel, by decide +kernel⟩, List.mem_of_getElem? (i := 593) (by decide +kernel), List.mem_of_getElem? (i := 773) (by decide +kernel), List.mem_of_getElem? (i := 774) (by decide +kernel)⟩
theorem lw_p13 : lw_okq (⟨"FishTinsModel", "there", "(I)I"⟩, 39) := ⟨⟨by decide +kernel, by decide +kernel⟩, List.mem_of_getElem? (i := 593) (by decide +kernel), List.mem_of_getElem? (i := 777) (by decide +kernel), List.mem_of_getElem? (i := 778) (by decide +kernel)⟩
theorem lw_p14 : lw_okq (⟨"FishTinsModel", "takes", "(II)Z"⟩, 39) := ⟨⟨by decide +kernel, by decide +kernel⟩, List.mem_of_getElem? (i := 593) (by decide +kernel), List.mem_of_getElem? (i := 781) (by decide +kernel), List.mem_of_getElem? (i := 782) (by decide +kernel)⟩
theorem lw_p15 : lw_okq (⟨"FishTinsModel", "sauceOf", "(I)I"⟩, 39) := ⟨⟨by decide +kernel, by decide +kernel⟩, List.mem_of_getElem? (i := 593) (by decide +kernel), List.mem_of_getElem? (i := 785) (by decide +kernel), List.mem_of_getElem? (i := 786) (by decide +kernel)⟩
def lw_privs_1 : List (MethodName × Nat) := [(⟨"FishTins", "canPack", "(III)Z"⟩, 14), (⟨"FishTins", "passHour", "()V"⟩, 14), (⟨"FishTins", "finishCharges", "()V"⟩, 14), (⟨"FishTins$Planner", "prepare", "(LFishTins$Kinds;)V"⟩, 8), (⟨"FishTins$Planner", "mostCases", "(LFishTins$Kinds;I)I"⟩, 8), (⟨"FishTins$Planner", "keepTried", "(I)V"⟩, 8), (⟨"FishTins$Planner", "use", "(LFishTins$Kinds;II)V"⟩, 8), (⟨"FishTinsModel", "isLot", "(I)Z"⟩, 39), (⟨"FishTinsModel", "isFresh", "(I)Z"⟩, 39), (⟨"FishTinsModel", "freshTill", "(I)I"⟩, 39), (⟨"FishTinsModel", "isTold", "(I)Z"⟩, 39), (⟨"FishTinsModel", "charges", "()I"⟩, 39), (⟨"FishTinsModel", "fishOf", "(I)I"⟩, 39), (⟨"FishTinsModel", "there", "(I)I"⟩, 39), (⟨"FishTinsModel", "takes", "(II)Z"⟩, 39), (⟨"FishTinsModel", "sauceOf", "(I)I"⟩, 39)]
theorem lw_r1 : ∀ q ∈ lw_privs_1, lw_okq q := List.forall_mem_cons.mpr ⟨lw_p0, List.forall_mem_cons.mpr ⟨lw_p1, List.forall_mem_cons.mpr ⟨lw_p2, List.forall_mem_cons.mpr ⟨lw_p3, List.forall_mem_cons.mpr ⟨lw_p4, List.forall_mem_cons.mpr ⟨lw_p5, List.forall_mem_cons.mpr ⟨lw_p6, List.forall_mem_cons.mpr ⟨lw_p7, List.forall_mem_cons.mpr ⟨lw_p8, List.forall_mem_cons.mpr ⟨lw_p9, List.forall_mem_cons.mpr ⟨lw_p10, List.forall_mem_cons.mpr ⟨lw_p11, List.forall_mem_cons.mpr ⟨lw_p12, List.forall_mem_cons.mpr ⟨lw_p13, List.forall_mem_cons.mpr ⟨lw_p14, List.forall_mem_cons.mpr ⟨lw_p15, fun _ h => absurd h List.not_mem_nil⟩⟩⟩⟩⟩⟩⟩⟩⟩⟩⟩⟩⟩⟩⟩⟩
theorem lw_p16 : lw_okq (⟨"FishTinsModel", "crewsThere", "()I"⟩, 39) := ⟨⟨by decide +kernel, by decide +kernel⟩, List.mem_of_getElem? (i := 593) (by decide +kernel), List.mem_of_getElem? (i := 789) (by decide +kernel), List.mem_of_getElem? (i := 790) (by decide +kernel)⟩
theorem lw_p17 : lw_okq (⟨"FishTinsModel", "first", "(I)I"⟩, 39) := ⟨⟨by decide +kernel, by decide +kernel⟩, List.mem_of_getElem? (i := 593) (by decide +kernel), List.mem_of_getElem? (i := 793) (by decide +kernel), List.mem_of_getElem? (i := 794) (by decide +kernel)⟩
theorem lw_p18 : lw_okq (⟨"FishTinsModel", "kilogramsIn", "(I)I"⟩, 39) := ⟨⟨by decide +kernel, by decide +kernel⟩, List.mem_of_getElem? (i := 593) (by decide +kernel), List.mem_of_getElem? (i := 801) (by decide +kernel), List.mem_of_getElem? (i := 802) (by decide +kernel)⟩
theorem lw_p19 : lw_okq (⟨"FishTinsModel", "hour", "()V"⟩, 39) := ⟨⟨by decide +kernel, by decide +kernel⟩, List.mem_of_getElem? (i := 593) (by decide +kernel), List.mem_of_getElem? (i := 809) (by decide +kernel), List.mem_of_getElem? (i := 810) (by decide +kernel)⟩
theorem lw_p20 : lw_okq (⟨"FishTinsModel", "done", "(I)V"⟩, 39) := ⟨⟨by decide +kernel, by decide +kernel⟩, List.mem_of_getElem? (i := 593) (by decide +kernel), List.mem_of_getElem? (i := 813) (by decide +kernel), List.mem_of_getElem? (i := 814) (by decide +kernel)⟩
theorem lw_p21 : lw_okq (⟨"FishTinsModel", "plans", "()V"⟩, 39) := ⟨⟨by decide +kernel, by decide +kernel⟩, List.mem_of_getElem? (i := 593) (by decide +kernel), List.mem_of_getElem? (i := 821) (by decide +kernel), List.mem_of_getElem? (i := 822) (by decide +kernel)⟩
theorem lw_p22 : lw_okq (⟨"FishTinsModel", "canBe", "()Z"⟩, 39) := ⟨⟨by decide +kernel, by decide +kernel⟩, List.mem_of_getElem? (i := 593) (by decide +kernel), List.mem_of_getElem? (i := 825) (by decide +kernel), List.mem_of_getElem? (i := 826) (by decide +kernel)⟩
theorem lw_p23 : lw_okq (⟨"FishTinsModel", "casesThere", "(I)I"⟩, 39) := ⟨⟨by decide +kernel, by decide +kernel⟩, List.mem_of_getElem? (i := 593) (by decide +kernel), List.mem_of_getElem? (i := 837) (by decide +kernel), List.mem_of_getElem? (i := 838) (by decide +kernel)⟩
theorem lw_p24 : lw_okq (⟨"FishTinsModel", "worthOf", "(I)I"⟩, 39) := ⟨⟨by decide +kernel, by decide +kernel⟩, List.mem_of_getElem? (i := 593) (by decide +kernel), List.mem_of_getElem? (i := 841) (by decide +kernel), List.mem_of_getElem? (i := 842) (by decide +kernel)⟩
def lw_privs_2 : List (MethodName × Nat) := [(⟨"FishTinsModel", "crewsThere", "()I"⟩, 39), (⟨"FishTinsModel", "first", "(I)I"⟩, 39), (⟨"FishTinsModel", "kilogramsIn", "(I)I"⟩, 39), (⟨"FishTinsModel", "hour", "()V"⟩, 39), (⟨"FishTinsModel", "done", "(I)V"⟩, 39), (⟨"FishTinsModel", "plans", "()V"⟩, 39), (⟨"FishTinsModel", "canBe", "()Z"⟩, 39), (⟨"FishTinsModel", "casesThere", "(I)I"⟩, 39), (⟨"FishTinsModel", "worthOf", "(I)I"⟩, 39)]
theorem lw_r2 : ∀ q ∈ lw_privs_2, lw_okq q := List.forall_mem_cons.mpr ⟨lw_p16, List.forall_mem_cons.mpr ⟨lw_p17, List.forall_mem_cons.mpr ⟨lw_p18, List.forall_mem_cons.mpr ⟨lw_p19, List.forall_mem_cons.mpr ⟨lw_p20, List.forall_mem_cons.mpr ⟨lw_p21, List.forall_mem_cons.mpr ⟨lw_p22, List.forall_mem_cons.mpr ⟨lw_p23, List.forall_mem_cons.mpr ⟨lw_p24, fun _ h => absurd h List.not_mem_nil⟩⟩⟩⟩⟩⟩⟩⟩⟩
def lw_privs : List (MethodName × Nat) := lw_privs_1 ++ (lw_privs_2)
def lw_tbl : List Cond := k2_sels lw_privs ++ tables_1
theorem lw_privs_ok : ∀ q ∈ lw_privs, lw_okq q := by
  show ∀ q ∈ lw_privs_1 ++ (lw_privs_2), lw_okq q
  exact List.forall_mem_append.mpr ⟨lw_r1, lw_r2⟩

/-! ===== BEGIN words of one list among another's, by their places ===== -/
theorem goodIn_r {big : List Cond} (ws : List Cond) (ps : List Nat) (hp : ws = ps.filterMap (fun i => big[i]?)) (h : ws.all goodWord = true) : GoodIn big ws := by
  intro w hw
  have h1 := List.all_eq_true.mp h w hw
  rw [hp] at hw
  obtain ⟨i, -, hi⟩ := List.mem_filterMap.mp hw
  have hm : w ∈ big := by first | exact List.mem_of_getElem? hi | exact List.getElem?_mem hi
  exact ⟨hm, good_of_word h1⟩
theorem goodIn_app {big a b : List Cond} (ha : GoodIn big a) (hb : GoodIn big b) : GoodIn big (a ++ b) := fun w h => (List.mem_append.mp h).elim (ha w) (hb w)
theorem goodIn_ca {big a b : List Cond} {c : Cond} (ha : GoodIn big (c :: a)) (hb : GoodIn big b) : GoodIn big (c :: (a ++ b)) := fun w h => (List.mem_cons.mp h).elim (fun e => ha w (List.mem_cons.mpr (Or.inl e))) (fun h => (List.mem_append.mp h).elim (fun h => ha w (List.mem_cons.mpr (Or.inr h))) (hb w))
theorem goodIn_sub {big ws : List Cond} (hm : ∀ w ∈ ws, w ∈ big) (h : ws.all goodWord = true) : GoodIn big ws := fun w hw => ⟨hm w hw, good_of_word (List.all_eq_true.mp h w hw)⟩
/-! ===== END ===== -/

/-! ===== BEGIN printed: names, fields, word lists, decode rows ===== -/
def RX0 : String := "FishTins$Batches"
def TX0 : u_T := fun k => match k with
  | 0 => ("FishTins$Batches", "kind", "[I", true)
  | 1 => ("FishTins$Batches", "cases", "[I", true)
  | 2 => ("FishTins$Batches", "left", "[I", true)
  | 3 => ("FishTins$Batches", "done", "[I", true)
  | 4 => ("FishTins$Batches", "buyers", "[I", true)
  | 5 => ("FishTins$Batches", "barred", "[Z", true)
  | 6 => ("FishTins$Batches", "fish", "[I", true)
  | 7 => ("FishTins$Batches", "number", "I", false)
  | _ => ("FishTins$Batches", "kilograms", "I", false)
def tyX0 : Nat → FieldType := fun k => match k with
  | 0 => .array .int
  | 1 => .array .int
  | 2 => .array .int
  | 3 => .array .int
  | 4 => .array .int
  | 5 => .array .boolean
  | 6 => .array .int
  | 7 => .int
  | _ => .int
abbrev wsX00 : List Cond := u_ws RX0 TX0 9
theorem nmX0 : ∀ a, a < 9 → ∀ b, b < 9 → a ≠ b → (TX0 a).2.1 ≠ (TX0 b).2.1 := by decide +kernel
theorem tyX0_ok : ∀ k, k < 9 → parseFieldDescriptor (TX0 k).2.2.1 = some (tyX0 k) := by decide +kernel
abbrev cX0_init : ByteArray := prog_2_method_1_code
def yX0_init : MethodName := ⟨RX0, "<init>", "()V"⟩
abbrev cX0_has : ByteArray := prog_2_method_2_code
def yX0_has : MethodName := ⟨RX0, "has", "(I)Z"⟩
abbrev cX0_add : ByteArray := prog_2_method_3_code
def yX0_add : MethodName := ⟨RX0, "add", "(LFishTins$Cookers;I)I"⟩
abbrev cX0_isForSale : ByteArray := prog_2_method_4_code
def yX0_isForSale : MethodName := ⟨RX0, "isForSale", "(II)Z"⟩
abbrev cX0_stock : ByteArray := prog_2_method_5_code
def yX0_stock : MethodName := ⟨RX0, "stock", "(I)I"⟩
abbrev cX0_caseWorth : ByteArray := prog_2_method_6_code
def yX0_caseWorth : MethodName := ⟨RX0, "caseWorth", "(III)I"⟩
abbrev cX0_deliver : ByteArray := prog_2_method_7_code
def yX0_deliver : MethodName := ⟨RX0, "deliver", "(IIIII)I"⟩
abbrev cX0_bar : ByteArray := prog_2_method_8_code
def yX0_bar : MethodName := ⟨RX0, "bar", "(I)I"⟩
def RX1 : String := "FishTins$Contracts"
def TX1 : u_T := fun k => match k with
  | 0 => ("FishTins$Contracts", "customer", "[I", true)
  | 1 => ("FishTins$Contracts", "kind", "[I", true)
  | 2 => ("FishTins$Contracts", "wanted", "[I", true)
  | 3 => ("FishTins$Contracts", "week", "[I", true)
  | 4 => ("FishTins$Contracts", "had", "[I", true)
  | 5 => ("FishTins$Contracts", "over", "[Z", true)
  | 6 => ("FishTins$Contracts", "byWeek", "[I", true)
  | _ => ("FishTins$Contracts", "number", "I", false)
def tyX1 : Nat → FieldType := fun k => match k with
  | 0 => .array .int
  | 1 => .array .int
  | 2 => .array .int
  | 3 => .array .int
  | 4 => .array .int
  | 5 => .array .boolean
  | 6 => .array .int
  | _ => .int
abbrev wsX10 : List Cond := u_ws RX1 TX1 8
theorem nmX1 : ∀ a, a < 8 → ∀ b, b < 8 → a ≠ b → (TX1 a).2.1 ≠ (TX1 b).2.1 := by decide +kernel
theorem tyX1_ok : ∀ k, k < 8 → parseFieldDescriptor (TX1 k).2.2.1 = some (tyX1 k) := by decide +kernel
abbrev cX1_init : ByteArray := prog_3_method_1_code
def yX1_init : MethodName := ⟨RX1, "<init>", "()V"⟩
abbrev cX1_has : ByteArray := prog_3_method_2_code
def yX1_has : MethodName := ⟨RX1, "has", "(I)Z"⟩
abbrev cX1_add : ByteArray := prog_3_method_3_code
def yX1_add : MethodName := ⟨RX1, "add", "(IIII)I"⟩
abbrev cX1_serve : ByteArray := prog_3_method_4_code
def yX1_serve : MethodName := ⟨RX1, "serve", "(III)V"⟩
abbrev cX1_shortOf : ByteArray := prog_3_method_5_code
def yX1_shortOf : MethodName := ⟨RX1, "shortOf", "(II)I"⟩
abbrev cX1_close : ByteArray := prog_3_method_6_code
def yX1_close : MethodName := ⟨RX1, "close", "(I[I)I"⟩
def RX2 : String := "FishTins$Cookers"
def TX2 : u_T := fun k => match k with
  | 0 => ("FishTins$Cookers", "kind", "[I", true)
  | 1 => ("FishTins$Cookers", "cases", "[I", true)
  | 2 => ("FishTins$Cookers", "done", "[I", true)
  | 3 => ("FishTins$Cookers", "kilograms", "[I", true)
  | _ => ("FishTins$Cookers", "fish", "[I", true)
def tyX2 : Nat → FieldType := fun k => match k with
  | 0 => .array .int
  | 1 => .array .int
  | 2 => .array .int
  | 3 => .array .int
  | _ => .array .int
abbrev wsX20 : List Cond := u_ws RX2 TX2 5
theorem nmX2 : ∀ a, a < 5 → ∀ b, b < 5 → a ≠ b → (TX2 a).2.1 ≠ (TX2 b).2.1 := by decide +kernel
theorem tyX2_ok : ∀ k, k < 5 → parseFieldDescriptor (TX2 k).2.2.1 = some (tyX2 k) := by decide +kernel
abbrev cX2_init : ByteArray := prog_4_method_1_code
def yX2_init : MethodName := ⟨RX2, "<init>", "()V"⟩
abbrev cX2_isFree : ByteArray := prog_4_method_2_code
def yX2_isFree : MethodName := ⟨RX2, "isFree", "(I)Z"⟩
abbrev cX2_charges : ByteArray := prog_4_method_3_code
def yX2_charges : MethodName := ⟨RX2, "charges", "()I"⟩
abbrev cX2_allKilograms : ByteArray := prog_4_method_4_code
def yX2_allKilograms : MethodName := ⟨RX2, "allKilograms", "()I"⟩
abbrev cX2_fill : ByteArray := prog_4_method_5_code
def yX2_fill : MethodName := ⟨RX2, "fill", "(IIIII)V"⟩
abbrev cX2_empty : ByteArray := prog_4_method_6_code
def yX2_empty : MethodName := ⟨RX2, "empty", "(I)V"⟩
def RX3 : String := "FishTins$Crews"
def TX3 : u_T := fun k => match k with
  | 0 => ("FishTins$Crews", "wasCalled", "[Z", true)
  | _ => ("FishTins$Crews", "comes", "[I", true)
def tyX3 : Nat → FieldType := fun k => match k with
  | 0 => .array .boolean
  | _ => .array .int
abbrev wsX30 : List Cond := u_ws RX3 TX3 2
theorem nmX3 : ∀ a, a < 2 → ∀ b, b < 2 → a ≠ b → (TX3 a).2.1 ≠ (TX3 b).2.1 := by decide +kernel
theorem tyX3_ok : ∀ k, k < 2 → parseFieldDescriptor (TX3 k).2.2.1 = some (tyX3 k) := by decide +kernel
abbrev cX3_init : ByteArray := prog_5_method_1_code
def yX3_init : MethodName := ⟨RX3, "<init>", "()V"⟩
abbrev cX3_isGone : ByteArray := prog_5_method_2_code
def yX3_isGone : MethodName := ⟨RX3, "isGone", "(II)Z"⟩
abbrev cX3_there : ByteArray := prog_5_method_3_code
def yX3_there : MethodName := ⟨RX3, "there", "(I)I"⟩
def RX4 : String := "FishTins$Kinds"
def TX4 : u_T := fun k => match k with
  | 0 => ("FishTins$Kinds", "known", "[Z", true)
  | 1 => ("FishTins$Kinds", "takes", "[I", true)
  | 2 => ("FishTins$Kinds", "sauce", "[I", true)
  | 3 => ("FishTins$Kinds", "fish", "[I", true)
  | 4 => ("FishTins$Kinds", "hours", "[I", true)
  | 5 => ("FishTins$Kinds", "price", "[I", true)
  | _ => ("FishTins$Kinds", "number", "I", false)
def tyX4 : Nat → FieldType := fun k => match k with
  | 0 => .array .boolean
  | 1 => .array .int
  | 2 => .array .int
  | 3 => .array .int
  | 4 => .array .int
  | 5 => .array .int
  | _ => .int
abbrev wsX40 : List Cond := u_ws RX4 TX4 7
theorem nmX4 : ∀ a, a < 7 → ∀ b, b < 7 → a ≠ b → (TX4 a).2.1 ≠ (TX4 b).2.1 := by decide +kernel
theorem tyX4_ok : ∀ k, k < 7 → parseFieldDescriptor (TX4 k).2.2.1 = some (tyX4 k) := by decide +kernel
abbrev cX4_init : ByteArray := prog_6_method_1_code
def yX4_init : MethodName := ⟨RX4, "<init>", "()V"⟩
abbrev cX4_canBe : ByteArray := prog_6_method_2_code
def yX4_canBe : MethodName := ⟨RX4, "canBe", "(I)Z"⟩
abbrev cX4_takesOf : ByteArray := prog_6_method_3_code
def yX4_takesOf : MethodName := ⟨RX4, "takesOf", "(I)I"⟩
abbrev cX4_sauceOf : ByteArray := prog_6_method_4_code
def yX4_sauceOf : MethodName := ⟨RX4, "sauceOf", "(I)I"⟩
abbrev cX4_fishOf : ByteArray := prog_6_method_5_code
def yX4_fishOf : MethodName := ⟨RX4, "fishOf", "(I)I"⟩
abbrev cX4_hoursOf : ByteArray := prog_6_method_6_code
def yX4_hoursOf : MethodName := ⟨RX4, "hoursOf", "(I)I"⟩
abbrev cX4_has : ByteArray := prog_6_method_7_code
def yX4_has : MethodName := ⟨RX4, "has", "(I)Z"⟩
abbrev cX4_add : ByteArray := prog_6_method_8_code
def yX4_add : MethodName := ⟨RX4, "add", "(III)V"⟩
def RX5 : String := "FishTins$Lots"
def TX5 : u_T := fun k => match k with
  | 0 => ("FishTins$Lots", "size", "[I", true)
  | 1 => ("FishTins$Lots", "left", "[I", true)
  | 2 => ("FishTins$Lots", "caught", "[I", true)
  | 3 => ("FishTins$Lots", "onIce", "[Z", true)
  | 4 => ("FishTins$Lots", "recalled", "[Z", true)
  | 5 => ("FishTins$Lots", "byCatch", "[I", true)
  | _ => ("FishTins$Lots", "number", "I", false)
def tyX5 : Nat → FieldType := fun k => match k with
  | 0 => .array .int
  | 1 => .array .int
  | 2 => .array .int
  | 3 => .array .boolean
  | 4 => .array .boolean
  | 5 => .array .int
  | _ => .int
abbrev wsX50 : List Cond := u_ws RX5 TX5 7
theorem nmX5 : ∀ a, a < 7 → ∀ b, b < 7 → a ≠ b → (TX5 a).2.1 ≠ (TX5 b).2.1 := by decide +kernel
theorem tyX5_ok : ∀ k, k < 7 → parseFieldDescriptor (TX5 k).2.2.1 = some (tyX5 k) := by decide +kernel
abbrev cX5_init : ByteArray := prog_7_method_1_code
def yX5_init : MethodName := ⟨RX5, "<init>", "()V"⟩
abbrev cX5_has : ByteArray := prog_7_method_2_code
def yX5_has : MethodName := ⟨RX5, "has", "(I)Z"⟩
abbrev cX5_add : ByteArray := prog_7_method_3_code
def yX5_add : MethodName := ⟨RX5, "add", "(III)I"⟩
abbrev cX5_staleHour : ByteArray := prog_7_method_4_code
def yX5_staleHour : MethodName := ⟨RX5, "staleHour", "(I)I"⟩
abbrev cX5_isFresh : ByteArray := prog_7_method_5_code
def yX5_isFresh : MethodName := ⟨RX5, "isFresh", "(II)Z"⟩
abbrev cX5_kilograms : ByteArray := prog_7_method_6_code
def yX5_kilograms : MethodName := ⟨RX5, "kilograms", "()I"⟩
abbrev cX5_isUsable : ByteArray := prog_7_method_7_code
def yX5_isUsable : MethodName := ⟨RX5, "isUsable", "(II)Z"⟩
abbrev cX5_usable : ByteArray := prog_7_method_8_code
def yX5_usable : MethodName := ⟨RX5, "usable", "(I)I"⟩
abbrev cX5_take : ByteArray := prog_7_method_9_code
def yX5_take : MethodName := ⟨RX5, "take", "(II[II)V"⟩
abbrev cX5_anyRecalled : ByteArray := prog_7_method_10_code
def yX5_anyRecalled : MethodName := ⟨RX5, "anyRecalled", "([II)Z"⟩
abbrev cX5_spoil : ByteArray := prog_7_method_11_code
def yX5_spoil : MethodName := ⟨RX5, "spoil", "(I)I"⟩
def RX6 : String := "FishTins$Planner"
def TX6 : u_T := fun k => match k with
  | 0 => ("FishTins$Planner", "supply", "[I", true)
  | 1 => ("FishTins$Planner", "measures", "[I", true)
  | 2 => ("FishTins$Planner", "room", "[I", true)
  | 3 => ("FishTins$Planner", "hope", "[I", true)
  | 4 => ("FishTins$Planner", "tried", "[I", true)
  | 5 => ("FishTins$Planner", "best", "[I", true)
  | 6 => ("FishTins$Planner", "kindsKnown", "I", false)
  | _ => ("FishTins$Planner", "bestWorth", "I", false)
def tyX6 : Nat → FieldType := fun k => match k with
  | 0 => .array .int
  | 1 => .array .int
  | 2 => .array .int
  | 3 => .array .int
  | 4 => .array .int
  | 5 => .array .int
  | 6 => .int
  | _ => .int
abbrev wsX60 : List Cond := u_ws RX6 TX6 8
theorem nmX6 : ∀ a, a < 8 → ∀ b, b < 8 → a ≠ b → (TX6 a).2.1 ≠ (TX6 b).2.1 := by decide +kernel
theorem tyX6_ok : ∀ k, k < 8 → parseFieldDescriptor (TX6 k).2.2.1 = some (tyX6 k) := by decide +kernel
abbrev cX6_init : ByteArray := prog_8_method_1_code
def yX6_init : MethodName := ⟨RX6, "<init>", "()V"⟩
abbrev cX6_update : ByteArray := prog_8_method_2_code
def yX6_update : MethodName := ⟨RX6, "update", "(LFishTins$Kinds;LFishTins$Lots;[I)V"⟩
abbrev cX6_prepare : ByteArray := prog_8_method_3_code
def yX6_prepare : MethodName := ⟨RX6, "prepare", "(LFishTins$Kinds;)V"⟩
abbrev cX6_search : ByteArray := prog_8_method_4_code
def yX6_search : MethodName := ⟨RX6, "search", "(LFishTins$Planner;LFishTins$Kinds;II)V"⟩
abbrev cX6_keepTried : ByteArray := prog_8_method_5_code
def yX6_keepTried : MethodName := ⟨RX6, "keepTried", "(I)V"⟩
abbrev cX6_mostCases : ByteArray := prog_8_method_6_code
def yX6_mostCases : MethodName := ⟨RX6, "mostCases", "(LFishTins$Kinds;I)I"⟩
abbrev cX6_use : ByteArray := prog_8_method_7_code
def yX6_use : MethodName := ⟨RX6, "use", "(LFishTins$Kinds;II)V"⟩
def RX7 : String := "FishTins"
def TX7 : u_T := fun k => match k with
  | 0 => ("FishTins", "lots", "LFishTins$Lots;", true)
  | 1 => ("FishTins", "kinds", "LFishTins$Kinds;", true)
  | 2 => ("FishTins", "crews", "LFishTins$Crews;", true)
  | 3 => ("FishTins", "cookers", "LFishTins$Cookers;", true)
  | 4 => ("FishTins", "batches", "LFishTins$Batches;", true)
  | 5 => ("FishTins", "contracts", "LFishTins$Contracts;", true)
  | 6 => ("FishTins", "planner", "LFishTins$Planner;", true)
  | 7 => ("FishTins", "sauces", "[I", true)
  | 8 => ("FishTins", "now", "I", false)
  | 9 => ("FishTins", "iceThere", "I", false)
  | 10 => ("FishTins", "packedThisHour", "I", false)
  | 11 => ("FishTins", "meal", "I", false)
  | 12 => ("FishTins", "coins", "I", false)
  | _ => ("FishTins", "fines", "I", false)
def tyX7 : Nat → FieldType := fun k => match k with
  | 0 => .object "FishTins$Lots"
  | 1 => .object "FishTins$Kinds"
  | 2 => .object "FishTins$Crews"
  | 3 => .object "FishTins$Cookers"
  | 4 => .object "FishTins$Batches"
  | 5 => .object "FishTins$Contracts"
  | 6 => .object "FishTins$Planner"
  | 7 => .array .int
  | 8 => .int
  | 9 => .int
  | 10 => .int
  | 11 => .int
  | 12 => .int
  | _ => .int
abbrev wsX70 : List Cond := u_ws RX7 TX7 14
theorem nmX7 : ∀ a, a < 14 → ∀ b, b < 14 → a ≠ b → (TX7 a).2.1 ≠ (TX7 b).2.1 := by decide +kernel
theorem tyX7_ok : ∀ k, k < 14 → parseFieldDescriptor (TX7 k).2.2.1 = some (tyX7 k) := by decide +kernel
abbrev cX7_init : ByteArray := prog_1_method_1_code
def yX7_init : MethodName := ⟨RX7, "<init>", "()V"⟩
abbrev cX7_land : ByteArray := prog_1_method_2_code
def yX7_land : MethodName := ⟨RX7, "land", "(III)I"⟩
abbrev cX7_ice : ByteArray := prog_1_method_3_code
def yX7_ice : MethodName := ⟨RX7, "ice", "(I)I"⟩
abbrev cX7_iced : ByteArray := prog_1_method_4_code
def yX7_iced : MethodName := ⟨RX7, "iced", "(I)Z"⟩
abbrev cX7_kind : ByteArray := prog_1_method_5_code
def yX7_kind : MethodName := ⟨RX7, "kind", "(III)Z"⟩
abbrev cX7_sauce : ByteArray := prog_1_method_6_code
def yX7_sauce : MethodName := ⟨RX7, "sauce", "(II)I"⟩
abbrev cX7_call : ByteArray := prog_1_method_7_code
def yX7_call : MethodName := ⟨RX7, "call", "(I)I"⟩
abbrev cX7_pack : ByteArray := prog_1_method_8_code
def yX7_pack : MethodName := ⟨RX7, "pack", "(III)I"⟩
abbrev cX7_fail : ByteArray := prog_1_method_9_code
def yX7_fail : MethodName := ⟨RX7, "fail", "(I)I"⟩
abbrev cX7_go : ByteArray := prog_1_method_10_code
def yX7_go : MethodName := ⟨RX7, "go", "(I)I"⟩
abbrev cX7_plan : ByteArray := prog_1_method_11_code
def yX7_plan : MethodName := ⟨RX7, "plan", "(I)I"⟩
abbrev cX7_worth : ByteArray := prog_1_method_12_code
def yX7_worth : MethodName := ⟨RX7, "worth", "()I"⟩
abbrev cX7_sell : ByteArray := prog_1_method_13_code
def yX7_sell : MethodName := ⟨RX7, "sell", "(III)I"⟩
abbrev cX7_contract : ByteArray := prog_1_method_14_code
def yX7_contract : MethodName := ⟨RX7, "contract", "(IIII)I"⟩
abbrev cX7_lacks : ByteArray := prog_1_method_15_code
def yX7_lacks : MethodName := ⟨RX7, "lacks", "(I)I"⟩
abbrev cX7_recall : ByteArray := prog_1_method_16_code
def yX7_recall : MethodName := ⟨RX7, "recall", "(I)I"⟩
abbrev cX7_lot : ByteArray := prog_1_method_17_code
def yX7_lot : MethodName := ⟨RX7, "lot", "(II)I"⟩
abbrev cX7_batch : ByteArray := prog_1_method_18_code
def yX7_batch : MethodName := ⟨RX7, "batch", "(II)I"⟩
abbrev cX7_of : ByteArray := prog_1_method_19_code
def yX7_of : MethodName := ⟨RX7, "of", "(II)I"⟩
abbrev cX7_cooker : ByteArray := prog_1_method_20_code
def yX7_cooker : MethodName := ⟨RX7, "cooker", "(II)I"⟩
abbrev cX7_told : ByteArray := prog_1_method_21_code
def yX7_told : MethodName := ⟨RX7, "told", "(II)I"⟩
abbrev cX7_count : ByteArray := prog_1_method_22_code
def yX7_count : MethodName := ⟨RX7, "count", "(I)I"⟩
abbrev cX7_canPack : ByteArray := prog_1_method_23_code
def yX7_canPack : MethodName := ⟨RX7, "canPack", "(III)Z"⟩
abbrev cX7_passHour : ByteArray := prog_1_method_24_code
def yX7_passHour : MethodName := ⟨RX7, "passHour", "()V"⟩
abbrev cX7_finishCharges : ByteArray := prog_1_method_25_code
def yX7_finishCharges : MethodName := ⟨RX7, "finishCharges", "()V"⟩
abbrev cX7_within : ByteArray := prog_1_method_26_code
def yX7_within : MethodName := ⟨RX7, "within", "(III)Z"⟩
abbrev cX7_bit : ByteArray := prog_1_method_27_code
def yX7_bit : MethodName := ⟨RX7, "bit", "(Z)I"⟩
abbrev cX7_putInOrder : ByteArray := prog_1_method_28_code
def yX7_putInOrder : MethodName := ⟨RX7, "putInOrder", "([I[II)V"⟩
def RX8 : String := "FishTinsModel"
def TX8 : u_T := fun k => match k with
  | 0 => ("FishTinsModel", "now", "I", false)
  | 1 => ("FishTinsModel", "lots", "I", false)
  | 2 => ("FishTinsModel", "size", "[I", true)
  | 3 => ("FishTinsModel", "left", "[I", true)
  | 4 => ("FishTinsModel", "caught", "[I", true)
  | 5 => ("FishTinsModel", "isIced", "[Z", true)
  | 6 => ("FishTinsModel", "isRecalled", "[Z", true)
  | 7 => ("FishTinsModel", "ice", "I", false)
  | 8 => ("FishTinsModel", "kinds", "[I", true)
  | 9 => ("FishTinsModel", "price", "[I", true)
  | 10 => ("FishTinsModel", "sauce", "[I", true)
  | 11 => ("FishTinsModel", "comes", "[I", true)
  | 12 => ("FishTinsModel", "packed", "I", false)
  | 13 => ("FishTinsModel", "cookerKind", "[I", true)
  | 14 => ("FishTinsModel", "cookerCases", "[I", true)
  | 15 => ("FishTinsModel", "cookerDone", "[I", true)
  | 16 => ("FishTinsModel", "cookerOf", "[I", true)
  | 17 => ("FishTinsModel", "meal", "I", false)
  | 18 => ("FishTinsModel", "batches", "I", false)
  | 19 => ("FishTinsModel", "batchKind", "[I", true)
  | 20 => ("FishTinsModel", "cases", "[I", true)
  | 21 => ("FishTinsModel", "casesFirst", "[I", true)
  | 22 => ("FishTinsModel", "doneIn", "[I", true)
  | 23 => ("FishTinsModel", "isBarred", "[Z", true)
  | 24 => ("FishTinsModel", "buyers", "[I", true)
  | 25 => ("FishTinsModel", "batchOf", "[I", true)
  | 26 => ("FishTinsModel", "coins", "I", false)
  | 27 => ("FishTinsModel", "contracts", "I", false)
  | 28 => ("FishTinsModel", "customer", "[I", true)
  | 29 => ("FishTinsModel", "wants", "[I", true)
  | 30 => ("FishTinsModel", "many", "[I", true)
  | 31 => ("FishTinsModel", "weekOf", "[I", true)
  | 32 => ("FishTinsModel", "had", "[I", true)
  | 33 => ("FishTinsModel", "isOver", "[Z", true)
  | 34 => ("FishTinsModel", "fines", "I", false)
  | 35 => ("FishTinsModel", "stock", "[I", true)
  | 36 => ("FishTinsModel", "tried", "[I", true)
  | 37 => ("FishTinsModel", "best", "[I", true)
  | _ => ("FishTinsModel", "bestWorth", "I", false)
def tyX8 : Nat → FieldType := fun k => match k with
  | 0 => .int
  | 1 => .int
  | 2 => .array .int
  | 3 => .array .int
  | 4 => .array .int
  | 5 => .array .boolean
  | 6 => .array .boolean
  | 7 => .int
  | 8 => .array .int
  | 9 => .array .int
  | 10 => .array .int
  | 11 => .array .int
  | 12 => .int
  | 13 => .array .int
  | 14 => .array .int
  | 15 => .array .int
  | 16 => .array .int
  | 17 => .int
  | 18 => .int
  | 19 => .array .int
  | 20 => .array .int
  | 21 => .array .int
  | 22 => .array .int
  | 23 => .array .boolean
  | 24 => .array .int
  | 25 => .array .int
  | 26 => .int
  | 27 => .int
  | 28 => .array .int
  | 29 => .array .int
  | 30 => .array .int
  | 31 => .array .int
  | 32 => .array .int
  | 33 => .array .boolean
  | 34 => .int
  | 35 => .array .int
  | 36 => .array .int
  | 37 => .array .int
  | _ => .int
abbrev wsX80 : List Cond := u_ws RX8 TX8 39
theorem nmX8 : ∀ a, a < 39 → ∀ b, b < 39 → a ≠ b → (TX8 a).2.1 ≠ (TX8 b).2.1 := by decide +kernel
theorem tyX8_ok : ∀ k, k < 39 → parseFieldDescriptor (TX8 k).2.2.1 = some (tyX8 k) := by decide +kernel
abbrev cX8_init : ByteArray := prog_10_method_1_code
def yX8_init : MethodName := ⟨RX8, "<init>", "()V"⟩
abbrev cX8_in : ByteArray := prog_10_method_2_code
def yX8_in : MethodName := ⟨RX8, "in", "(III)Z"⟩
abbrev cX8_isLot : ByteArray := prog_10_method_3_code
def yX8_isLot : MethodName := ⟨RX8, "isLot", "(I)Z"⟩
abbrev cX8_freshTill : ByteArray := prog_10_method_4_code
def yX8_freshTill : MethodName := ⟨RX8, "freshTill", "(I)I"⟩
abbrev cX8_isFresh : ByteArray := prog_10_method_5_code
def yX8_isFresh : MethodName := ⟨RX8, "isFresh", "(I)Z"⟩
abbrev cX8_land : ByteArray := prog_10_method_6_code
def yX8_land : MethodName := ⟨RX8, "land", "(III)I"⟩
abbrev cX8_ice : ByteArray := prog_10_method_7_code
def yX8_ice : MethodName := ⟨RX8, "ice", "(I)I"⟩
abbrev cX8_iced : ByteArray := prog_10_method_8_code
def yX8_iced : MethodName := ⟨RX8, "iced", "(I)Z"⟩
abbrev cX8_isKindNumber : ByteArray := prog_10_method_9_code
def yX8_isKindNumber : MethodName := ⟨RX8, "isKindNumber", "(I)Z"⟩
abbrev cX8_kind : ByteArray := prog_10_method_10_code
def yX8_kind : MethodName := ⟨RX8, "kind", "(III)Z"⟩
abbrev cX8_isTold : ByteArray := prog_10_method_11_code
def yX8_isTold : MethodName := ⟨RX8, "isTold", "(I)Z"⟩
abbrev cX8_takes : ByteArray := prog_10_method_12_code
def yX8_takes : MethodName := ⟨RX8, "takes", "(II)Z"⟩
abbrev cX8_fishOf : ByteArray := prog_10_method_13_code
def yX8_fishOf : MethodName := ⟨RX8, "fishOf", "(I)I"⟩
abbrev cX8_sauceOf : ByteArray := prog_10_method_14_code
def yX8_sauceOf : MethodName := ⟨RX8, "sauceOf", "(I)I"⟩
abbrev cX8_sauce : ByteArray := prog_10_method_15_code
def yX8_sauce : MethodName := ⟨RX8, "sauce", "(II)I"⟩
abbrev cX8_call : ByteArray := prog_10_method_16_code
def yX8_call : MethodName := ⟨RX8, "call", "(I)I"⟩
abbrev cX8_crewsThere : ByteArray := prog_10_method_17_code
def yX8_crewsThere : MethodName := ⟨RX8, "crewsThere", "()I"⟩
abbrev cX8_charges : ByteArray := prog_10_method_18_code
def yX8_charges : MethodName := ⟨RX8, "charges", "()I"⟩
abbrev cX8_first : ByteArray := prog_10_method_19_code
def yX8_first : MethodName := ⟨RX8, "first", "(I)I"⟩
abbrev cX8_there : ByteArray := prog_10_method_20_code
def yX8_there : MethodName := ⟨RX8, "there", "(I)I"⟩
abbrev cX8_pack : ByteArray := prog_10_method_21_code
def yX8_pack : MethodName := ⟨RX8, "pack", "(III)I"⟩
abbrev cX8_kilogramsIn : ByteArray := prog_10_method_22_code
def yX8_kilogramsIn : MethodName := ⟨RX8, "kilogramsIn", "(I)I"⟩
abbrev cX8_fail : ByteArray := prog_10_method_23_code
def yX8_fail : MethodName := ⟨RX8, "fail", "(I)I"⟩
abbrev cX8_done : ByteArray := prog_10_method_24_code
def yX8_done : MethodName := ⟨RX8, "done", "(I)V"⟩
abbrev cX8_go : ByteArray := prog_10_method_25_code
def yX8_go : MethodName := ⟨RX8, "go", "(I)I"⟩
abbrev cX8_hour : ByteArray := prog_10_method_26_code
def yX8_hour : MethodName := ⟨RX8, "hour", "()V"⟩
abbrev cX8_canBe : ByteArray := prog_10_method_27_code
def yX8_canBe : MethodName := ⟨RX8, "canBe", "()Z"⟩
abbrev cX8_plans : ByteArray := prog_10_method_28_code
def yX8_plans : MethodName := ⟨RX8, "plans", "()V"⟩
abbrev cX8_plan : ByteArray := prog_10_method_29_code
def yX8_plan : MethodName := ⟨RX8, "plan", "(I)I"⟩
abbrev cX8_worth : ByteArray := prog_10_method_30_code
def yX8_worth : MethodName := ⟨RX8, "worth", "()I"⟩
abbrev cX8_worthOf : ByteArray := prog_10_method_31_code
def yX8_worthOf : MethodName := ⟨RX8, "worthOf", "(I)I"⟩
abbrev cX8_casesThere : ByteArray := prog_10_method_32_code
def yX8_casesThere : MethodName := ⟨RX8, "casesThere", "(I)I"⟩
abbrev cX8_sell : ByteArray := prog_10_method_33_code
def yX8_sell : MethodName := ⟨RX8, "sell", "(III)I"⟩
abbrev cX8_contract : ByteArray := prog_10_method_34_code
def yX8_contract : MethodName := ⟨RX8, "contract", "(IIII)I"⟩
abbrev cX8_lacks : ByteArray := prog_10_method_35_code
def yX8_lacks : MethodName := ⟨RX8, "lacks", "(I)I"⟩
abbrev cX8_recall : ByteArray := prog_10_method_36_code
def yX8_recall : MethodName := ⟨RX8, "recall", "(I)I"⟩
abbrev cX8_lot : ByteArray := prog_10_method_37_code
def yX8_lot : MethodName := ⟨RX8, "lot", "(II)I"⟩
abbrev cX8_batch : ByteArray := prog_10_method_38_code
def yX8_batch : MethodName := ⟨RX8, "batch", "(II)I"⟩
abbrev cX8_of : ByteArray := prog_10_method_39_code
def yX8_of : MethodName := ⟨RX8, "of", "(II)I"⟩
abbrev cX8_cooker : ByteArray := prog_10_method_40_code
def yX8_cooker : MethodName := ⟨RX8, "cooker", "(II)I"⟩
abbrev cX8_told : ByteArray := prog_10_method_41_code
def yX8_told : MethodName := ⟨RX8, "told", "(II)I"⟩
abbrev cX8_count : ByteArray := prog_10_method_42_code
def yX8_count : MethodName := ⟨RX8, "count", "(I)I"⟩
def RJ9 : String := "java/lang/Math"
def TJ9 : u_T := fun k => match k with
  | _ => ("", "", "", false)
def tyJ9 : Nat → FieldType := fun k => match k with
  | _ => .int
abbrev wsJ90 : List Cond := u_ws RJ9 TJ9 0
theorem nmJ9 : ∀ a, a < 0 → ∀ b, b < 0 → a ≠ b → (TJ9 a).2.1 ≠ (TJ9 b).2.1 := by decide +kernel
theorem tyJ9_ok : ∀ k, k < 0 → parseFieldDescriptor (TJ9 k).2.2.1 = some (tyJ9 k) := by decide +kernel
abbrev cJ9_max_7cf53 : ByteArray := prog_11_method_65_code
def yJ9_max_7cf53 : MethodName := ⟨RJ9, "max", "(II)I"⟩
abbrev cJ9_min_7cf53 : ByteArray := prog_11_method_69_code
def yJ9_min_7cf53 : MethodName := ⟨RJ9, "min", "(II)I"⟩
def RJ10 : String := "java/lang/System"
def TJ10 : u_T := fun k => match k with
  | _ => ("", "", "", false)
def tyJ10 : Nat → FieldType := fun k => match k with
  | _ => .int
abbrev wsJ100 : List Cond := u_ws RJ10 TJ10 0
theorem nmJ10 : ∀ a, a < 0 → ∀ b, b < 0 → a ≠ b → (TJ10 a).2.1 ≠ (TJ10 b).2.1 := by decide +kernel
theorem tyJ10_ok : ∀ k, k < 0 → parseFieldDescriptor (TJ10 k).2.2.1 = some (tyJ10 k) := by decide +kernel
def RL : String := "FishTinsLaw"
abbrev cL_law : ByteArray := code
def yL_law : MethodName := ⟨RL, "law", "([I)Z"⟩
abbrev vwCl : List vw_C := [(RX0, TX0, 9), (RX1, TX1, 8), (RX2, TX2, 5), (RX3, TX3, 2), (RX4, TX4, 7), (RX5, TX5, 7), (RX6, TX6, 8), (RX7, TX7, 14), (RX8, TX8, 39)]
end
section
def mm_GW : List Cond := lw_tbl.filter goodWord
theorem mm_gw (i : Nat) {w : Cond} (h : lw_tbl[i]? = some w) (g : goodWord w = true) : w ∈ mm_GW := List.mem_filter.mpr ⟨List.mem_of_getElem? h, g⟩
theorem mm_gw_tbl {w : Cond} (h : w ∈ mm_GW) : w ∈ lw_tbl := (List.mem_filter.mp h).1
theorem mm_gw_good {ws : List Cond} (h : ∀ w ∈ ws, w ∈ mm_GW) : GoodIn mm_GW ws := fun w hw => ⟨h w hw, good_of_word (List.mem_filter.mp (h w hw)).2⟩
def mm_R : Nat → String := fun ci => match ci with
  | 0 => RX0
  | 1 => RX1
  | 2 => RX2
  | 3 => RX3
  | 4 => RX4
  | 5 => RX5
  | 6 => RX6
  | 7 => RX7
  | 8 => RX8
  | _ => RL
def mm_T : Nat → u_T := fun ci => match ci with
  | 0 => TX0
  | 1 => TX1
  | 2 => TX2
  | 3 => TX3
  | 4 => TX4
  | 5 => TX5
  | 6 => TX6
  | 7 => TX7
  | _ => TX8
def mm_N : Nat → Nat := fun ci => match ci with
  | 0 => 9
  | 1 => 8
  | 2 => 5
  | 3 => 2
  | 4 => 7
  | 5 => 7
  | 6 => 8
  | 7 => 14
  | _ => 39
def mm_ty : Nat → Nat → FieldType := fun ci => match ci with
  | 0 => tyX0
  | 1 => tyX1
  | 2 => tyX2
  | 3 => tyX3
  | 4 => tyX4
  | 5 => tyX5
  | 6 => tyX6
  | 7 => tyX7
  | _ => tyX8
theorem mm_c9 {P : Nat → Prop} (h0 : P 0) (h1 : P 1) (h2 : P 2) (h3 : P 3) (h4 : P 4) (h5 : P 5) (h6 : P 6) (h7 : P 7) (h8 : P 8) {ci : Nat} (h : ci < 9) : P ci := by
  rcases (show ci = 0 ∨ ci = 1 ∨ ci = 2 ∨ ci = 3 ∨ ci = 4 ∨ ci = 5 ∨ ci = 6 ∨ ci = 7 ∨ ci = 8 by omega) with rfl | rfl | rfl | rfl | rfl | rfl | rfl | rfl | rfl <;> assumption
theorem mm_cl {ci : Nat} (h : ci < 9) : vwCl[ci]? = some (mm_R ci, mm_T ci, mm_N ci) := mm_c9 (P := fun ci => vwCl[ci]? = some (mm_R ci, mm_T ci, mm_N ci)) rfl rfl rfl rfl rfl rfl rfl rfl rfl h
theorem mm_nm {ci : Nat} (h : ci < 9) : ∀ a, a < mm_N ci → ∀ b, b < mm_N ci → a ≠ b → (mm_T ci a).2.1 ≠ (mm_T ci b).2.1 := mm_c9 (P := fun ci => ∀ a, a < mm_N ci → ∀ b, b < mm_N ci → a ≠ b → (mm_T ci a).2.1 ≠ (mm_T ci b).2.1) nmX0 nmX1 nmX2 nmX3 nmX4 nmX5 nmX6 nmX7 nmX8 h
theorem mm_tyok {ci : Nat} (h : ci < 9) : ∀ k, k < mm_N ci → parseFieldDescriptor (mm_T ci k).2.2.1 = some (mm_ty ci k) := mm_c9 (P := fun ci => ∀ k, k < mm_N ci → parseFieldDescriptor (mm_T ci k).2.2.1 = some (mm_ty ci k)) tyX0_ok tyX1_ok tyX2_ok tyX3_ok tyX4_ok tyX5_ok tyX6_ok tyX7_ok tyX8_ok h
set_option maxRecDepth 20000 in
theorem mm_lay0 : ∀ w ∈ u_ws RX0 TX0 9, w ∈ mm_GW := fun w h => by
  have e : u_ws RX0 TX0 9 = ([197, 199, 201, 203, 205, 207, 209, 211, 213] : List Nat).filterMap (fun i => lw_tbl[i]?) := by decide +kernel
  have g : (u_ws RX0 TX0 9).all goodWord = true := by decide +kernel
  refine List.mem_filter.mpr ⟨?_, List.all_eq_true.mp g w h⟩
  rw [e] at h
  obtain ⟨i, -, hi⟩ := List.mem_filterMap.mp h
  exact List.mem_of_getElem? hi
set_option maxRecDepth 20000 in
theorem mm_lay1 : ∀ w ∈ u_ws RX1 TX1 8, w ∈ mm_GW := fun w h => by
  have e : u_ws RX1 TX1 8 = ([236, 238, 240, 242, 244, 246, 248, 250] : List Nat).filterMap (fun i => lw_tbl[i]?) := by decide +kernel
  have g : (u_ws RX1 TX1 8).all goodWord = true := by decide +kernel
  refine List.mem_filter.mpr ⟨?_, List.all_eq_true.mp g w h⟩
  rw [e] at h
  obtain ⟨i, -, hi⟩ := List.mem_filterMap.mp h
  exact List.mem_of_getElem? hi
set_option maxRecDepth 20000 in
theorem mm_lay2 : ∀ w ∈ u_ws RX2 TX2 5, w ∈ mm_GW := fun w h => by
  have e : u_ws RX2 TX2 5 = ([163, 165, 167, 169, 171] : List Nat).filterMap (fun i => lw_tbl[i]?) := by decide +kernel
  have g : (u_ws RX2 TX2 5).all goodWord = true := by decide +kernel
  refine List.mem_filter.mpr ⟨?_, List.all_eq_true.mp g w h⟩
  rw [e] at h
  obtain ⟨i, -, hi⟩ := List.mem_filterMap.mp h
  exact List.mem_of_getElem? hi
set_option maxRecDepth 20000 in
theorem mm_lay3 : ∀ w ∈ u_ws RX3 TX3 2, w ∈ mm_GW := fun w h => by
  have e : u_ws RX3 TX3 2 = ([129, 131] : List Nat).filterMap (fun i => lw_tbl[i]?) := by decide +kernel
  have g : (u_ws RX3 TX3 2).all goodWord = true := by decide +kernel
  refine List.mem_filter.mpr ⟨?_, List.all_eq_true.mp g w h⟩
  rw [e] at h
  obtain ⟨i, -, hi⟩ := List.mem_filterMap.mp h
  exact List.mem_of_getElem? hi
set_option maxRecDepth 20000 in
theorem mm_lay4 : ∀ w ∈ u_ws RX4 TX4 7, w ∈ mm_GW := fun w h => by
  have e : u_ws RX4 TX4 7 = ([104, 106, 108, 110, 112, 114, 116] : List Nat).filterMap (fun i => lw_tbl[i]?) := by decide +kernel
  have g : (u_ws RX4 TX4 7).all goodWord = true := by decide +kernel
  refine List.mem_filter.mpr ⟨?_, List.all_eq_true.mp g w h⟩
  rw [e] at h
  obtain ⟨i, -, hi⟩ := List.mem_filterMap.mp h
  exact List.mem_of_getElem? hi
set_option maxRecDepth 20000 in
theorem mm_lay5 : ∀ w ∈ u_ws RX5 TX5 7, w ∈ mm_GW := fun w h => by
  have e : u_ws RX5 TX5 7 = ([63, 65, 67, 69, 71, 73, 75] : List Nat).filterMap (fun i => lw_tbl[i]?) := by decide +kernel
  have g : (u_ws RX5 TX5 7).all goodWord = true := by decide +kernel
  refine List.mem_filter.mpr ⟨?_, List.all_eq_true.mp g w h⟩
  rw [e] at h
  obtain ⟨i, -, hi⟩ := List.mem_filterMap.mp h
  exact List.mem_of_getElem? hi
set_option maxRecDepth 20000 in
theorem mm_lay6 : ∀ w ∈ u_ws RX6 TX6 8, w ∈ mm_GW := fun w h => by
  have e : u_ws RX6 TX6 8 = ([269, 271, 273, 275, 277, 279, 281, 283] : List Nat).filterMap (fun i => lw_tbl[i]?) := by decide +kernel
  have g : (u_ws RX6 TX6 8).all goodWord = true := by decide +kernel
  refine List.mem_filter.mpr ⟨?_, List.all_eq_true.mp g w h⟩
  rw [e] at h
  obtain ⟨i, -, hi⟩ := List.mem_filterMap.mp h
  exact List.mem_of_getElem? hi
set_option maxRecDepth 20000 in
theorem mm_lay7 : ∀ w ∈ u_ws RX7 TX7 14, w ∈ mm_GW := fun w h => by
  have e : u_ws RX7 TX7 14 = ([300, 302, 304, 306, 308, 310, 312, 314, 316, 318, 320, 322, 324, 326] : List Nat).filterMap (fun i => lw_tbl[i]?) := by decide +kernel
  have g : (u_ws RX7 TX7 14).all goodWord = true := by decide +kernel
  refine List.mem_filter.mpr ⟨?_, List.all_eq_true.mp g w h⟩
  rw [e] at h
  obtain ⟨i, -, hi⟩ := List.mem_filterMap.mp h
  exact List.mem_of_getElem? hi
set_option maxRecDepth 20000 in
theorem mm_lay8 : ∀ w ∈ u_ws RX8 TX8 39, w ∈ mm_GW := fun w h => by
  have e : u_ws RX8 TX8 39 = ([662, 664, 666, 668, 670, 672, 674, 676, 678, 680, 682, 684, 686, 688, 690, 692, 694, 696, 698, 700, 702, 704, 706, 708, 710, 712, 714, 716, 718, 720, 722, 724, 726, 728, 730, 732, 734, 736, 738] : List Nat).filterMap (fun i => lw_tbl[i]?) := by decide +kernel
  have g : (u_ws RX8 TX8 39).all goodWord = true := by decide +kernel
  refine List.mem_filter.mpr ⟨?_, List.all_eq_true.mp g w h⟩
  rw [e] at h
  obtain ⟨i, -, hi⟩ := List.mem_filterMap.mp h
  exact List.mem_of_getElem? hi
theorem mm_lay {ci : Nat} (h : ci < 9) : ∀ w ∈ u_ws (mm_R ci) (mm_T ci) (mm_N ci), w ∈ mm_GW := mm_c9 (P := fun ci => ∀ w ∈ u_ws (mm_R ci) (mm_T ci) (mm_N ci), w ∈ mm_GW) mm_lay0 mm_lay1 mm_lay2 mm_lay3 mm_lay4 mm_lay5 mm_lay6 mm_lay7 mm_lay8 h
abbrev mm_Row : Type := Nat × MethodName × ByteArray × Nat × Option FieldType × Nat × Nat × Bool
def mm_MT : List mm_Row := [(0, yX0_has, cX0_has, 2, (some .boolean), 1, 2, false),
  (0, yX0_add, cX0_add, 4, (some .int), 1, 3, false),
  (0, yX0_isForSale, cX0_isForSale, 3, (some .boolean), 0, 3, false),
  (0, yX0_stock, cX0_stock, 4, (some .int), 1, 2, false),
  (0, yX0_caseWorth, cX0_caseWorth, 5, (some .int), 1, 4, false),
  (0, yX0_deliver, cX0_deliver, 10, (some .int), 2, 6, false),
  (0, yX0_bar, cX0_bar, 4, (some .int), 0, 2, false),
  (1, yX1_has, cX1_has, 2, (some .boolean), 1, 2, false),
  (1, yX1_add, cX1_add, 6, (some .int), 1, 5, false),
  (1, yX1_serve, cX1_serve, 8, none, 1, 4, false),
  (1, yX1_shortOf, cX1_shortOf, 6, (some .int), 1, 3, false),
  (1, yX1_close, cX1_close, 5, (some .int), 0, 3, false),
  (2, yX2_isFree, cX2_isFree, 2, (some .boolean), 0, 2, false),
  (2, yX2_charges, cX2_charges, 3, (some .int), 1, 1, false),
  (2, yX2_allKilograms, cX2_allKilograms, 3, (some .int), 0, 1, false),
  (2, yX2_fill, cX2_fill, 6, none, 0, 6, false),
  (2, yX2_empty, cX2_empty, 3, none, 1, 2, false),
  (3, yX3_isGone, cX3_isGone, 3, (some .boolean), 0, 3, false),
  (3, yX3_there, cX3_there, 4, (some .int), 1, 2, false),
  (4, yX4_canBe, cX4_canBe, 1, (some .boolean), 1, 1, true),
  (4, yX4_takesOf, cX4_takesOf, 1, (some .int), 0, 1, true),
  (4, yX4_sauceOf, cX4_sauceOf, 1, (some .int), 0, 1, true),
  (4, yX4_fishOf, cX4_fishOf, 1, (some .int), 0, 1, true),
  (4, yX4_hoursOf, cX4_hoursOf, 1, (some .int), 0, 1, true),
  (4, yX4_has, cX4_has, 2, (some .boolean), 1, 2, false),
  (4, yX4_add, cX4_add, 4, none, 1, 4, false),
  (5, yX5_has, cX5_has, 2, (some .boolean), 1, 2, false),
  (5, yX5_add, cX5_add, 5, (some .int), 1, 4, false),
  (5, yX5_staleHour, cX5_staleHour, 2, (some .int), 0, 2, false),
  (5, yX5_isFresh, cX5_isFresh, 3, (some .boolean), 1, 3, false),
  (5, yX5_kilograms, cX5_kilograms, 3, (some .int), 0, 1, false),
  (5, yX5_isUsable, cX5_isUsable, 3, (some .boolean), 0, 3, false),
  (5, yX5_usable, cX5_usable, 4, (some .int), 1, 2, false),
  (5, yX5_take, cX5_take, 9, none, 1, 5, false),
  (5, yX5_anyRecalled, cX5_anyRecalled, 4, (some .boolean), 0, 3, false),
  (5, yX5_spoil, cX5_spoil, 4, (some .int), 2, 2, false),
  (6, yX6_update, cX6_update, 7, none, 7, 4, false),
  (6, yX6_prepare, cX6_prepare, 4, none, 2, 2, false),
  (6, yX6_keepTried, cX6_keepTried, 2, none, 1, 2, false),
  (6, yX6_mostCases, cX6_mostCases, 7, (some .int), 1, 3, false),
  (6, yX6_use, cX6_use, 6, none, 0, 4, false),
  (7, yX7_land, cX7_land, 4, (some .int), 2, 4, false),
  (7, yX7_ice, cX7_ice, 2, (some .int), 1, 2, false),
  (7, yX7_iced, cX7_iced, 2, (some .boolean), 2, 2, false),
  (7, yX7_kind, cX7_kind, 4, (some .boolean), 2, 4, false),
  (7, yX7_sauce, cX7_sauce, 3, (some .int), 1, 3, false),
  (7, yX7_call, cX7_call, 2, (some .int), 1, 2, false),
  (7, yX7_pack, cX7_pack, 5, (some .int), 3, 4, false),
  (7, yX7_fail, cX7_fail, 3, (some .int), 2, 2, false),
  (7, yX7_go, cX7_go, 3, (some .int), 4, 2, false),
  (7, yX7_plan, cX7_plan, 2, (some .int), 8, 2, false),
  (7, yX7_worth, cX7_worth, 1, (some .int), 8, 1, false),
  (7, yX7_sell, cX7_sell, 5, (some .int), 3, 4, false),
  (7, yX7_contract, cX7_contract, 5, (some .int), 2, 5, false),
  (7, yX7_lacks, cX7_lacks, 2, (some .int), 2, 2, false),
  (7, yX7_recall, cX7_recall, 2, (some .int), 2, 2, false),
  (7, yX7_lot, cX7_lot, 3, (some .int), 2, 3, false),
  (7, yX7_batch, cX7_batch, 3, (some .int), 2, 3, false),
  (7, yX7_of, cX7_of, 3, (some .int), 2, 3, false),
  (7, yX7_cooker, cX7_cooker, 3, (some .int), 1, 3, false),
  (7, yX7_told, cX7_told, 3, (some .int), 2, 3, false),
  (7, yX7_count, cX7_count, 2, (some .int), 2, 2, false),
  (7, yX7_canPack, cX7_canPack, 4, (some .boolean), 2, 4, false),
  (7, yX7_passHour, cX7_passHour, 1, none, 3, 1, false),
  (7, yX7_finishCharges, cX7_finishCharges, 3, none, 2, 1, false),
  (7, yX7_within, cX7_within, 3, (some .boolean), 0, 3, true),
  (7, yX7_bit, cX7_bit, 1, (some .int), 0, 1, true),
  (7, yX7_putInOrder, cX7_putInOrder, 4, none, 0, 3, true),
  (8, yX8_in, cX8_in, 3, (some .boolean), 0, 3, true),
  (8, yX8_isLot, cX8_isLot, 2, (some .boolean), 1, 2, false),
  (8, yX8_freshTill, cX8_freshTill, 2, (some .int), 0, 2, false),
  (8, yX8_isFresh, cX8_isFresh, 2, (some .boolean), 1, 2, false),
  (8, yX8_land, cX8_land, 4, (some .int), 1, 4, false),
  (8, yX8_ice, cX8_ice, 2, (some .int), 1, 2, false),
  (8, yX8_iced, cX8_iced, 2, (some .boolean), 2, 2, false),
  (8, yX8_isKindNumber, cX8_isKindNumber, 1, (some .boolean), 1, 1, true),
  (8, yX8_kind, cX8_kind, 4, (some .boolean), 2, 4, false),
  (8, yX8_isTold, cX8_isTold, 2, (some .boolean), 2, 2, false),
  (8, yX8_takes, cX8_takes, 3, (some .boolean), 0, 3, false),
  (8, yX8_fishOf, cX8_fishOf, 2, (some .int), 0, 2, false),
  (8, yX8_sauceOf, cX8_sauceOf, 2, (some .int), 0, 2, false),
  (8, yX8_sauce, cX8_sauce, 3, (some .int), 1, 3, false),
  (8, yX8_call, cX8_call, 2, (some .int), 1, 2, false),
  (8, yX8_crewsThere, cX8_crewsThere, 3, (some .int), 1, 1, false),
  (8, yX8_charges, cX8_charges, 3, (some .int), 0, 1, false),
  (8, yX8_first, cX8_first, 4, (some .int), 2, 2, false),
  (8, yX8_there, cX8_there, 4, (some .int), 2, 2, false),
  (8, yX8_pack, cX8_pack, 8, (some .int), 3, 4, false),
  (8, yX8_kilogramsIn, cX8_kilogramsIn, 4, (some .int), 0, 2, false),
  (8, yX8_fail, cX8_fail, 3, (some .int), 1, 2, false),
  (8, yX8_done, cX8_done, 4, none, 0, 2, false),
  (8, yX8_go, cX8_go, 3, (some .int), 2, 2, false),
  (8, yX8_hour, cX8_hour, 2, none, 1, 1, false),
  (8, yX8_canBe, cX8_canBe, 4, (some .boolean), 1, 1, false),
  (8, yX8_plans, cX8_plans, 6, none, 2, 1, false),
  (8, yX8_plan, cX8_plan, 2, (some .int), 3, 2, false),
  (8, yX8_worth, cX8_worth, 1, (some .int), 3, 1, false),
  (8, yX8_worthOf, cX8_worthOf, 4, (some .int), 0, 2, false),
  (8, yX8_casesThere, cX8_casesThere, 4, (some .int), 0, 2, false),
  (8, yX8_sell, cX8_sell, 9, (some .int), 3, 4, false),
  (8, yX8_contract, cX8_contract, 5, (some .int), 3, 5, false),
  (8, yX8_lacks, cX8_lacks, 6, (some .int), 1, 2, false),
  (8, yX8_recall, cX8_recall, 4, (some .int), 2, 2, false),
  (8, yX8_lot, cX8_lot, 3, (some .int), 2, 3, false),
  (8, yX8_batch, cX8_batch, 3, (some .int), 1, 3, false),
  (8, yX8_of, cX8_of, 3, (some .int), 2, 3, false),
  (8, yX8_cooker, cX8_cooker, 4, (some .int), 1, 3, false),
  (8, yX8_told, cX8_told, 3, (some .int), 1, 3, false),
  (8, yX8_count, cX8_count, 4, (some .int), 2, 2, false),
  (6, yX6_search, cX6_search, 8, none, 6, 4, true),
  (6, yX6_search, cX6_search, 8, none, 5, 4, true),
  (6, yX6_search, cX6_search, 8, none, 4, 4, true),
  (6, yX6_search, cX6_search, 8, none, 3, 4, true),
  (6, yX6_search, cX6_search, 8, none, 2, 4, true)]
def mm_m (k : Nat) : mm_Row := (mm_MT[k]?).getD (0, yX0_has, cX0_has, 2, (some .boolean), 1, 2, false)
def mm_MOK (r : mm_Row) : Prop := Cond.code r.2.1 r.2.2.1 r.2.2.2.1 r.2.2.2.2.1 ∈ mm_GW ∧ Cond.initialized r.2.1.cls ∈ mm_GW ∧ (r.2.2.2.2.2.2.2 = true → Cond.static r.2.1 ∈ mm_GW) ∧ (r.2.2.2.2.2.2.2 = false → Cond.instanceMethod r.2.1 ∈ mm_GW ∧ Cond.selects r.2.1.cls r.2.1 r.2.1 ∈ mm_GW ∧ 1 ≤ r.2.2.2.2.2.2.1) ∧ r.2.1.cls = mm_R r.1 ∧ plainName r.2.1.cls = true ∧ (r.2.1.cls ≠ "java/lang/invoke/MethodHandle" ∧ r.2.1.cls ≠ "java/lang/invoke/VarHandle" ∧ (parseMethodDescriptor r.2.1.desc).map (fun d => d.parameters.length) = some (r.2.2.2.2.2.2.1 - (if r.2.2.2.2.2.2.2 then 0 else 1))) ∧ r.2.2.2.2.2.2.1 ≤ r.2.2.2.1 ∧ r.1 < 9 ∧ r.2.2.2.1 ≤ 20 ∧ (r.2.2.2.2.1 = none ∨ r.2.2.2.2.1 = some .int ∨ r.2.2.2.2.1 = some .boolean)
set_option maxRecDepth 20000 in
theorem mo_0 : mm_MOK (0, yX0_has, cX0_has, 2, (some .boolean), 1, 2, false) := ⟨mm_gw 590 rfl rfl, mm_gw 31 rfl rfl, (fun h => by cases h), (fun _ => ⟨mm_gw 588 rfl rfl, mm_gw 589 rfl rfl, by decide⟩), rfl, by decide +kernel, ⟨by decide +kernel, by decide +kernel, by decide +kernel⟩, by decide, by decide, by decide, Or.inr (Or.inr rfl)⟩
set_option maxRecDepth 20000 in
theorem mo_1 : mm_MOK (0, yX0_add, cX0_add, 4, (some .int), 1, 3, false) := ⟨mm_gw 467 rfl rfl, mm_gw 31 rfl rfl, (fun h => by cases h), (fun _ => ⟨mm_gw 465 rfl rfl, mm_gw 466 rfl rfl, by decide⟩), rfl, by decide +kernel, ⟨by decide +kernel, by decide +kernel, by decide +kernel⟩, by decide, by decide, by decide, Or.inr (Or.inl rfl)⟩
set_option maxRecDepth 20000 in
theorem mo_2 : mm_MOK (0, yX0_isForSale, cX0_isForSale, 3, (some .boolean), 0, 3, false) := ⟨mm_gw 529 rfl rfl, mm_gw 31 rfl rfl, (fun h => by cases h), (fun _ => ⟨mm_gw 527 rfl rfl, mm_gw 528 rfl rfl, by decide⟩), rfl, by decide +kernel, ⟨by decide +kernel, by decide +kernel, by decide +kernel⟩, by decide, by decide, by decide, Or.inr (Or.inr rfl)⟩
set_option maxRecDepth 20000 in
theorem mo_3 : mm_MOK (0, yX0_stock, cX0_stock, 4, (some .int), 1, 2, false) := ⟨mm_gw 525 rfl rfl, mm_gw 31 rfl rfl, (fun h => by cases h), (fun _ => ⟨mm_gw 523 rfl rfl, mm_gw 524 rfl rfl, by decide⟩), rfl, by decide +kernel, ⟨by decide +kernel, by decide +kernel, by decide +kernel⟩, by decide, by decide, by decide, Or.inr (Or.inl rfl)⟩
set_option maxRecDepth 20000 in
theorem mo_4 : mm_MOK (0, yX0_caseWorth, cX0_caseWorth, 5, (some .int), 1, 4, false) := ⟨mm_gw 538 rfl rfl, mm_gw 31 rfl rfl, (fun h => by cases h), (fun _ => ⟨mm_gw 536 rfl rfl, mm_gw 537 rfl rfl, by decide⟩), rfl, by decide +kernel, ⟨by decide +kernel, by decide +kernel, by decide +kernel⟩, by decide, by decide, by decide, Or.inr (Or.inl rfl)⟩
set_option maxRecDepth 20000 in
theorem mo_5 : mm_MOK (0, yX0_deliver, cX0_deliver, 10, (some .int), 2, 6, false) := ⟨mm_gw 533 rfl rfl, mm_gw 31 rfl rfl, (fun h => by cases h), (fun _ => ⟨mm_gw 531 rfl rfl, mm_gw 532 rfl rfl, by decide⟩), rfl, by decide +kernel, ⟨by decide +kernel, by decide +kernel, by decide +kernel⟩, by decide, by decide, by decide, Or.inr (Or.inl rfl)⟩
set_option maxRecDepth 20000 in
theorem mo_6 : mm_MOK (0, yX0_bar, cX0_bar, 4, (some .int), 0, 2, false) := ⟨mm_gw 576 rfl rfl, mm_gw 31 rfl rfl, (fun h => by cases h), (fun _ => ⟨mm_gw 574 rfl rfl, mm_gw 575 rfl rfl, by decide⟩), rfl, by decide +kernel, ⟨by decide +kernel, by decide +kernel, by decide +kernel⟩, by decide, by decide, by decide, Or.inr (Or.inl rfl)⟩
set_option maxRecDepth 20000 in
theorem mo_7 : mm_MOK (1, yX1_has, cX1_has, 2, (some .boolean), 1, 2, false) := ⟨mm_gw 560 rfl rfl, mm_gw 32 rfl rfl, (fun h => by cases h), (fun _ => ⟨mm_gw 558 rfl rfl, mm_gw 559 rfl rfl, by decide⟩), rfl, by decide +kernel, ⟨by decide +kernel, by decide +kernel, by decide +kernel⟩, by decide, by decide, by decide, Or.inr (Or.inr rfl)⟩
set_option maxRecDepth 20000 in
theorem mo_8 : mm_MOK (1, yX1_add, cX1_add, 6, (some .int), 1, 5, false) := ⟨mm_gw 551 rfl rfl, mm_gw 32 rfl rfl, (fun h => by cases h), (fun _ => ⟨mm_gw 549 rfl rfl, mm_gw 550 rfl rfl, by decide⟩), rfl, by decide +kernel, ⟨by decide +kernel, by decide +kernel, by decide +kernel⟩, by decide, by decide, by decide, Or.inr (Or.inl rfl)⟩
set_option maxRecDepth 20000 in
theorem mo_9 : mm_MOK (1, yX1_serve, cX1_serve, 8, none, 1, 4, false) := ⟨mm_gw 542 rfl rfl, mm_gw 32 rfl rfl, (fun h => by cases h), (fun _ => ⟨mm_gw 540 rfl rfl, mm_gw 541 rfl rfl, by decide⟩), rfl, by decide +kernel, ⟨by decide +kernel, by decide +kernel, by decide +kernel⟩, by decide, by decide, by decide, Or.inl rfl⟩
set_option maxRecDepth 20000 in
theorem mo_10 : mm_MOK (1, yX1_shortOf, cX1_shortOf, 6, (some .int), 1, 3, false) := ⟨mm_gw 565 rfl rfl, mm_gw 32 rfl rfl, (fun h => by cases h), (fun _ => ⟨mm_gw 563 rfl rfl, mm_gw 564 rfl rfl, by decide⟩), rfl, by decide +kernel, ⟨by decide +kernel, by decide +kernel, by decide +kernel⟩, by decide, by decide, by decide, Or.inr (Or.inl rfl)⟩
set_option maxRecDepth 20000 in
theorem mo_11 : mm_MOK (1, yX1_close, cX1_close, 5, (some .int), 0, 3, false) := ⟨mm_gw 483 rfl rfl, mm_gw 32 rfl rfl, (fun h => by cases h), (fun _ => ⟨mm_gw 481 rfl rfl, mm_gw 482 rfl rfl, by decide⟩), rfl, by decide +kernel, ⟨by decide +kernel, by decide +kernel, by decide +kernel⟩, by decide, by decide, by decide, Or.inr (Or.inl rfl)⟩
set_option maxRecDepth 20000 in
theorem mo_12 : mm_MOK (2, yX2_isFree, cX2_isFree, 2, (some .boolean), 0, 2, false) := ⟨mm_gw 409 rfl rfl, mm_gw 30 rfl rfl, (fun h => by cases h), (fun _ => ⟨mm_gw 407 rfl rfl, mm_gw 408 rfl rfl, by decide⟩), rfl, by decide +kernel, ⟨by decide +kernel, by decide +kernel, by decide +kernel⟩, by decide, by decide, by decide, Or.inr (Or.inr rfl)⟩
set_option maxRecDepth 20000 in
theorem mo_13 : mm_MOK (2, yX2_charges, cX2_charges, 3, (some .int), 1, 1, false) := ⟨mm_gw 417 rfl rfl, mm_gw 30 rfl rfl, (fun h => by cases h), (fun _ => ⟨mm_gw 415 rfl rfl, mm_gw 416 rfl rfl, by decide⟩), rfl, by decide +kernel, ⟨by decide +kernel, by decide +kernel, by decide +kernel⟩, by decide, by decide, by decide, Or.inr (Or.inl rfl)⟩
set_option maxRecDepth 20000 in
theorem mo_14 : mm_MOK (2, yX2_allKilograms, cX2_allKilograms, 3, (some .int), 0, 1, false) := ⟨mm_gw 616 rfl rfl, mm_gw 30 rfl rfl, (fun h => by cases h), (fun _ => ⟨mm_gw 614 rfl rfl, mm_gw 615 rfl rfl, by decide⟩), rfl, by decide +kernel, ⟨by decide +kernel, by decide +kernel, by decide +kernel⟩, by decide, by decide, by decide, Or.inr (Or.inl rfl)⟩
set_option maxRecDepth 20000 in
theorem mo_15 : mm_MOK (2, yX2_fill, cX2_fill, 6, none, 0, 6, false) := ⟨mm_gw 147 rfl rfl, mm_gw 30 rfl rfl, (fun h => by cases h), (fun _ => ⟨mm_gw 145 rfl rfl, mm_gw 146 rfl rfl, by decide⟩), rfl, by decide +kernel, ⟨by decide +kernel, by decide +kernel, by decide +kernel⟩, by decide, by decide, by decide, Or.inl rfl⟩
set_option maxRecDepth 20000 in
theorem mo_16 : mm_MOK (2, yX2_empty, cX2_empty, 3, none, 1, 2, false) := ⟨mm_gw 143 rfl rfl, mm_gw 30 rfl rfl, (fun h => by cases h), (fun _ => ⟨mm_gw 141 rfl rfl, mm_gw 142 rfl rfl, by decide⟩), rfl, by decide +kernel, ⟨by decide +kernel, by decide +kernel, by decide +kernel⟩, by decide, by decide, by decide, Or.inl rfl⟩
set_option maxRecDepth 20000 in
theorem mo_17 : mm_MOK (3, yX3_isGone, cX3_isGone, 3, (some .boolean), 0, 3, false) := ⟨mm_gw 401 rfl rfl, mm_gw 29 rfl rfl, (fun h => by cases h), (fun _ => ⟨mm_gw 399 rfl rfl, mm_gw 400 rfl rfl, by decide⟩), rfl, by decide +kernel, ⟨by decide +kernel, by decide +kernel, by decide +kernel⟩, by decide, by decide, by decide, Or.inr (Or.inr rfl)⟩
set_option maxRecDepth 20000 in
theorem mo_18 : mm_MOK (3, yX3_there, cX3_there, 4, (some .int), 1, 2, false) := ⟨mm_gw 437 rfl rfl, mm_gw 29 rfl rfl, (fun h => by cases h), (fun _ => ⟨mm_gw 435 rfl rfl, mm_gw 436 rfl rfl, by decide⟩), rfl, by decide +kernel, ⟨by decide +kernel, by decide +kernel, by decide +kernel⟩, by decide, by decide, by decide, Or.inr (Or.inl rfl)⟩
set_option maxRecDepth 20000 in
theorem mo_19 : mm_MOK (4, yX4_canBe, cX4_canBe, 1, (some .boolean), 1, 1, true) := ⟨mm_gw 372 rfl rfl, mm_gw 28 rfl rfl, (fun _ => mm_gw 371 rfl rfl), (fun h => by cases h), rfl, by decide +kernel, ⟨by decide +kernel, by decide +kernel, by decide +kernel⟩, by decide, by decide, by decide, Or.inr (Or.inr rfl)⟩
set_option maxRecDepth 20000 in
theorem mo_20 : mm_MOK (4, yX4_takesOf, cX4_takesOf, 1, (some .int), 0, 1, true) := ⟨mm_gw 375 rfl rfl, mm_gw 28 rfl rfl, (fun _ => mm_gw 374 rfl rfl), (fun h => by cases h), rfl, by decide +kernel, ⟨by decide +kernel, by decide +kernel, by decide +kernel⟩, by decide, by decide, by decide, Or.inr (Or.inl rfl)⟩
set_option maxRecDepth 20000 in
theorem mo_21 : mm_MOK (4, yX4_sauceOf, cX4_sauceOf, 1, (some .int), 0, 1, true) := ⟨mm_gw 379 rfl rfl, mm_gw 28 rfl rfl, (fun _ => mm_gw 378 rfl rfl), (fun h => by cases h), rfl, by decide +kernel, ⟨by decide +kernel, by decide +kernel, by decide +kernel⟩, by decide, by decide, by decide, Or.inr (Or.inl rfl)⟩
set_option maxRecDepth 20000 in
theorem mo_22 : mm_MOK (4, yX4_fishOf, cX4_fishOf, 1, (some .int), 0, 1, true) := ⟨mm_gw 382 rfl rfl, mm_gw 28 rfl rfl, (fun _ => mm_gw 381 rfl rfl), (fun h => by cases h), rfl, by decide +kernel, ⟨by decide +kernel, by decide +kernel, by decide +kernel⟩, by decide, by decide, by decide, Or.inr (Or.inl rfl)⟩
set_option maxRecDepth 20000 in
theorem mo_23 : mm_MOK (4, yX4_hoursOf, cX4_hoursOf, 1, (some .int), 0, 1, true) := ⟨mm_gw 385 rfl rfl, mm_gw 28 rfl rfl, (fun _ => mm_gw 384 rfl rfl), (fun h => by cases h), rfl, by decide +kernel, ⟨by decide +kernel, by decide +kernel, by decide +kernel⟩, by decide, by decide, by decide, Or.inr (Or.inl rfl)⟩
set_option maxRecDepth 20000 in
theorem mo_24 : mm_MOK (4, yX4_has, cX4_has, 2, (some .boolean), 1, 2, false) := ⟨mm_gw 413 rfl rfl, mm_gw 28 rfl rfl, (fun h => by cases h), (fun _ => ⟨mm_gw 411 rfl rfl, mm_gw 412 rfl rfl, by decide⟩), rfl, by decide +kernel, ⟨by decide +kernel, by decide +kernel, by decide +kernel⟩, by decide, by decide, by decide, Or.inr (Or.inr rfl)⟩
set_option maxRecDepth 20000 in
theorem mo_25 : mm_MOK (4, yX4_add, cX4_add, 4, none, 1, 4, false) := ⟨mm_gw 389 rfl rfl, mm_gw 28 rfl rfl, (fun h => by cases h), (fun _ => ⟨mm_gw 387 rfl rfl, mm_gw 388 rfl rfl, by decide⟩), rfl, by decide +kernel, ⟨by decide +kernel, by decide +kernel, by decide +kernel⟩, by decide, by decide, by decide, Or.inl rfl⟩
set_option maxRecDepth 20000 in
theorem mo_26 : mm_MOK (5, yX5_has, cX5_has, 2, (some .boolean), 1, 2, false) := ⟨mm_gw 356 rfl rfl, mm_gw 27 rfl rfl, (fun h => by cases h), (fun _ => ⟨mm_gw 354 rfl rfl, mm_gw 355 rfl rfl, by decide⟩), rfl, by decide +kernel, ⟨by decide +kernel, by decide +kernel, by decide +kernel⟩, by decide, by decide, by decide, Or.inr (Or.inr rfl)⟩
set_option maxRecDepth 20000 in
theorem mo_27 : mm_MOK (5, yX5_add, cX5_add, 5, (some .int), 1, 4, false) := ⟨mm_gw 339 rfl rfl, mm_gw 27 rfl rfl, (fun h => by cases h), (fun _ => ⟨mm_gw 337 rfl rfl, mm_gw 338 rfl rfl, by decide⟩), rfl, by decide +kernel, ⟨by decide +kernel, by decide +kernel, by decide +kernel⟩, by decide, by decide, by decide, Or.inr (Or.inl rfl)⟩
set_option maxRecDepth 20000 in
theorem mo_28 : mm_MOK (5, yX5_staleHour, cX5_staleHour, 2, (some .int), 0, 2, false) := ⟨mm_gw 365 rfl rfl, mm_gw 27 rfl rfl, (fun h => by cases h), (fun _ => ⟨mm_gw 363 rfl rfl, mm_gw 364 rfl rfl, by decide⟩), rfl, by decide +kernel, ⟨by decide +kernel, by decide +kernel, by decide +kernel⟩, by decide, by decide, by decide, Or.inr (Or.inl rfl)⟩
set_option maxRecDepth 20000 in
theorem mo_29 : mm_MOK (5, yX5_isFresh, cX5_isFresh, 3, (some .boolean), 1, 3, false) := ⟨mm_gw 361 rfl rfl, mm_gw 27 rfl rfl, (fun h => by cases h), (fun _ => ⟨mm_gw 359 rfl rfl, mm_gw 360 rfl rfl, by decide⟩), rfl, by decide +kernel, ⟨by decide +kernel, by decide +kernel, by decide +kernel⟩, by decide, by decide, by decide, Or.inr (Or.inr rfl)⟩
set_option maxRecDepth 20000 in
theorem mo_30 : mm_MOK (5, yX5_kilograms, cX5_kilograms, 3, (some .int), 0, 1, false) := ⟨mm_gw 612 rfl rfl, mm_gw 27 rfl rfl, (fun h => by cases h), (fun _ => ⟨mm_gw 610 rfl rfl, mm_gw 611 rfl rfl, by decide⟩), rfl, by decide +kernel, ⟨by decide +kernel, by decide +kernel, by decide +kernel⟩, by decide, by decide, by decide, Or.inr (Or.inl rfl)⟩
set_option maxRecDepth 20000 in
theorem mo_31 : mm_MOK (5, yX5_isUsable, cX5_isUsable, 3, (some .boolean), 0, 3, false) := ⟨mm_gw 433 rfl rfl, mm_gw 27 rfl rfl, (fun h => by cases h), (fun _ => ⟨mm_gw 431 rfl rfl, mm_gw 432 rfl rfl, by decide⟩), rfl, by decide +kernel, ⟨by decide +kernel, by decide +kernel, by decide +kernel⟩, by decide, by decide, by decide, Or.inr (Or.inr rfl)⟩
set_option maxRecDepth 20000 in
theorem mo_32 : mm_MOK (5, yX5_usable, cX5_usable, 4, (some .int), 1, 2, false) := ⟨mm_gw 429 rfl rfl, mm_gw 27 rfl rfl, (fun h => by cases h), (fun _ => ⟨mm_gw 427 rfl rfl, mm_gw 428 rfl rfl, by decide⟩), rfl, by decide +kernel, ⟨by decide +kernel, by decide +kernel, by decide +kernel⟩, by decide, by decide, by decide, Or.inr (Or.inl rfl)⟩
set_option maxRecDepth 20000 in
theorem mo_33 : mm_MOK (5, yX5_take, cX5_take, 9, none, 1, 5, false) := ⟨mm_gw 443 rfl rfl, mm_gw 27 rfl rfl, (fun h => by cases h), (fun _ => ⟨mm_gw 441 rfl rfl, mm_gw 442 rfl rfl, by decide⟩), rfl, by decide +kernel, ⟨by decide +kernel, by decide +kernel, by decide +kernel⟩, by decide, by decide, by decide, Or.inl rfl⟩
set_option maxRecDepth 20000 in
theorem mo_34 : mm_MOK (5, yX5_anyRecalled, cX5_anyRecalled, 4, (some .boolean), 0, 3, false) := ⟨mm_gw 474 rfl rfl, mm_gw 27 rfl rfl, (fun h => by cases h), (fun _ => ⟨mm_gw 472 rfl rfl, mm_gw 473 rfl rfl, by decide⟩), rfl, by decide +kernel, ⟨by decide +kernel, by decide +kernel, by decide +kernel⟩, by decide, by decide, by decide, Or.inr (Or.inr rfl)⟩
set_option maxRecDepth 20000 in
theorem mo_35 : mm_MOK (5, yX5_spoil, cX5_spoil, 4, (some .int), 2, 2, false) := ⟨mm_gw 478 rfl rfl, mm_gw 27 rfl rfl, (fun h => by cases h), (fun _ => ⟨mm_gw 476 rfl rfl, mm_gw 477 rfl rfl, by decide⟩), rfl, by decide +kernel, ⟨by decide +kernel, by decide +kernel, by decide +kernel⟩, by decide, by decide, by decide, Or.inr (Or.inl rfl)⟩
set_option maxRecDepth 20000 in
theorem mo_36 : mm_MOK (6, yX6_update, cX6_update, 7, none, 7, 4, false) := ⟨mm_gw 491 rfl rfl, mm_gw 33 rfl rfl, (fun h => by cases h), (fun _ => ⟨mm_gw 489 rfl rfl, mm_gw 490 rfl rfl, by decide⟩), rfl, by decide +kernel, ⟨by decide +kernel, by decide +kernel, by decide +kernel⟩, by decide, by decide, by decide, Or.inl rfl⟩
set_option maxRecDepth 20000 in
theorem mo_37 : mm_MOK (6, yX6_prepare, cX6_prepare, 4, none, 2, 2, false) := ⟨mm_gw 496 rfl rfl, mm_gw 33 rfl rfl, (fun h => by cases h), (fun _ => ⟨mm_gw 495 rfl rfl, mm_gw 3 rfl rfl, by decide⟩), rfl, by decide +kernel, ⟨by decide +kernel, by decide +kernel, by decide +kernel⟩, by decide, by decide, by decide, Or.inl rfl⟩
set_option maxRecDepth 20000 in
theorem mo_38 : mm_MOK (6, yX6_keepTried, cX6_keepTried, 2, none, 1, 2, false) := ⟨mm_gw 508 rfl rfl, mm_gw 33 rfl rfl, (fun h => by cases h), (fun _ => ⟨mm_gw 507 rfl rfl, mm_gw 5 rfl rfl, by decide⟩), rfl, by decide +kernel, ⟨by decide +kernel, by decide +kernel, by decide +kernel⟩, by decide, by decide, by decide, Or.inl rfl⟩
set_option maxRecDepth 20000 in
theorem mo_39 : mm_MOK (6, yX6_mostCases, cX6_mostCases, 7, (some .int), 1, 3, false) := ⟨mm_gw 500 rfl rfl, mm_gw 33 rfl rfl, (fun h => by cases h), (fun _ => ⟨mm_gw 499 rfl rfl, mm_gw 4 rfl rfl, by decide⟩), rfl, by decide +kernel, ⟨by decide +kernel, by decide +kernel, by decide +kernel⟩, by decide, by decide, by decide, Or.inr (Or.inl rfl)⟩
set_option maxRecDepth 20000 in
theorem mo_40 : mm_MOK (6, yX6_use, cX6_use, 6, none, 0, 4, false) := ⟨mm_gw 513 rfl rfl, mm_gw 33 rfl rfl, (fun h => by cases h), (fun _ => ⟨mm_gw 512 rfl rfl, mm_gw 6 rfl rfl, by decide⟩), rfl, by decide +kernel, ⟨by decide +kernel, by decide +kernel, by decide +kernel⟩, by decide, by decide, by decide, Or.inl rfl⟩
set_option maxRecDepth 20000 in
theorem mo_41 : mm_MOK (7, yX7_land, cX7_land, 4, (some .int), 2, 4, false) := ⟨mm_gw 332 rfl rfl, mm_gw 26 rfl rfl, (fun h => by cases h), (fun _ => ⟨mm_gw 330 rfl rfl, mm_gw 331 rfl rfl, by decide⟩), rfl, by decide +kernel, ⟨by decide +kernel, by decide +kernel, by decide +kernel⟩, by decide, by decide, by decide, Or.inr (Or.inl rfl)⟩
set_option maxRecDepth 20000 in
theorem mo_42 : mm_MOK (7, yX7_ice, cX7_ice, 2, (some .int), 1, 2, false) := ⟨mm_gw 346 rfl rfl, mm_gw 26 rfl rfl, (fun h => by cases h), (fun _ => ⟨mm_gw 344 rfl rfl, mm_gw 345 rfl rfl, by decide⟩), rfl, by decide +kernel, ⟨by decide +kernel, by decide +kernel, by decide +kernel⟩, by decide, by decide, by decide, Or.inr (Or.inl rfl)⟩
set_option maxRecDepth 20000 in
theorem mo_43 : mm_MOK (7, yX7_iced, cX7_iced, 2, (some .boolean), 2, 2, false) := ⟨mm_gw 352 rfl rfl, mm_gw 26 rfl rfl, (fun h => by cases h), (fun _ => ⟨mm_gw 350 rfl rfl, mm_gw 351 rfl rfl, by decide⟩), rfl, by decide +kernel, ⟨by decide +kernel, by decide +kernel, by decide +kernel⟩, by decide, by decide, by decide, Or.inr (Or.inr rfl)⟩
set_option maxRecDepth 20000 in
theorem mo_44 : mm_MOK (7, yX7_kind, cX7_kind, 4, (some .boolean), 2, 4, false) := ⟨mm_gw 369 rfl rfl, mm_gw 26 rfl rfl, (fun h => by cases h), (fun _ => ⟨mm_gw 367 rfl rfl, mm_gw 368 rfl rfl, by decide⟩), rfl, by decide +kernel, ⟨by decide +kernel, by decide +kernel, by decide +kernel⟩, by decide, by decide, by decide, Or.inr (Or.inr rfl)⟩
set_option maxRecDepth 20000 in
theorem mo_45 : mm_MOK (7, yX7_sauce, cX7_sauce, 3, (some .int), 1, 3, false) := ⟨mm_gw 393 rfl rfl, mm_gw 26 rfl rfl, (fun h => by cases h), (fun _ => ⟨mm_gw 391 rfl rfl, mm_gw 392 rfl rfl, by decide⟩), rfl, by decide +kernel, ⟨by decide +kernel, by decide +kernel, by decide +kernel⟩, by decide, by decide, by decide, Or.inr (Or.inl rfl)⟩
set_option maxRecDepth 20000 in
theorem mo_46 : mm_MOK (7, yX7_call, cX7_call, 2, (some .int), 1, 2, false) := ⟨mm_gw 397 rfl rfl, mm_gw 26 rfl rfl, (fun h => by cases h), (fun _ => ⟨mm_gw 395 rfl rfl, mm_gw 396 rfl rfl, by decide⟩), rfl, by decide +kernel, ⟨by decide +kernel, by decide +kernel, by decide +kernel⟩, by decide, by decide, by decide, Or.inr (Or.inl rfl)⟩
set_option maxRecDepth 20000 in
theorem mo_47 : mm_MOK (7, yX7_pack, cX7_pack, 5, (some .int), 3, 4, false) := ⟨mm_gw 405 rfl rfl, mm_gw 26 rfl rfl, (fun h => by cases h), (fun _ => ⟨mm_gw 403 rfl rfl, mm_gw 404 rfl rfl, by decide⟩), rfl, by decide +kernel, ⟨by decide +kernel, by decide +kernel, by decide +kernel⟩, by decide, by decide, by decide, Or.inr (Or.inl rfl)⟩
set_option maxRecDepth 20000 in
theorem mo_48 : mm_MOK (7, yX7_fail, cX7_fail, 3, (some .int), 2, 2, false) := ⟨mm_gw 450 rfl rfl, mm_gw 26 rfl rfl, (fun h => by cases h), (fun _ => ⟨mm_gw 448 rfl rfl, mm_gw 449 rfl rfl, by decide⟩), rfl, by decide +kernel, ⟨by decide +kernel, by decide +kernel, by decide +kernel⟩, by decide, by decide, by decide, Or.inr (Or.inl rfl)⟩
set_option maxRecDepth 20000 in
theorem mo_49 : mm_MOK (7, yX7_go, cX7_go, 3, (some .int), 4, 2, false) := ⟨mm_gw 455 rfl rfl, mm_gw 26 rfl rfl, (fun h => by cases h), (fun _ => ⟨mm_gw 453 rfl rfl, mm_gw 454 rfl rfl, by decide⟩), rfl, by decide +kernel, ⟨by decide +kernel, by decide +kernel, by decide +kernel⟩, by decide, by decide, by decide, Or.inr (Or.inl rfl)⟩
set_option maxRecDepth 20000 in
theorem mo_50 : mm_MOK (7, yX7_plan, cX7_plan, 2, (some .int), 8, 2, false) := ⟨mm_gw 487 rfl rfl, mm_gw 26 rfl rfl, (fun h => by cases h), (fun _ => ⟨mm_gw 485 rfl rfl, mm_gw 486 rfl rfl, by decide⟩), rfl, by decide +kernel, ⟨by decide +kernel, by decide +kernel, by decide +kernel⟩, by decide, by decide, by decide, Or.inr (Or.inl rfl)⟩
set_option maxRecDepth 20000 in
theorem mo_51 : mm_MOK (7, yX7_worth, cX7_worth, 1, (some .int), 8, 1, false) := ⟨mm_gw 517 rfl rfl, mm_gw 26 rfl rfl, (fun h => by cases h), (fun _ => ⟨mm_gw 515 rfl rfl, mm_gw 516 rfl rfl, by decide⟩), rfl, by decide +kernel, ⟨by decide +kernel, by decide +kernel, by decide +kernel⟩, by decide, by decide, by decide, Or.inr (Or.inl rfl)⟩
set_option maxRecDepth 20000 in
theorem mo_52 : mm_MOK (7, yX7_sell, cX7_sell, 5, (some .int), 3, 4, false) := ⟨mm_gw 521 rfl rfl, mm_gw 26 rfl rfl, (fun h => by cases h), (fun _ => ⟨mm_gw 519 rfl rfl, mm_gw 520 rfl rfl, by decide⟩), rfl, by decide +kernel, ⟨by decide +kernel, by decide +kernel, by decide +kernel⟩, by decide, by decide, by decide, Or.inr (Or.inl rfl)⟩
set_option maxRecDepth 20000 in
theorem mo_53 : mm_MOK (7, yX7_contract, cX7_contract, 5, (some .int), 2, 5, false) := ⟨mm_gw 547 rfl rfl, mm_gw 26 rfl rfl, (fun h => by cases h), (fun _ => ⟨mm_gw 545 rfl rfl, mm_gw 546 rfl rfl, by decide⟩), rfl, by decide +kernel, ⟨by decide +kernel, by decide +kernel, by decide +kernel⟩, by decide, by decide, by decide, Or.inr (Or.inl rfl)⟩
set_option maxRecDepth 20000 in
theorem mo_54 : mm_MOK (7, yX7_lacks, cX7_lacks, 2, (some .int), 2, 2, false) := ⟨mm_gw 556 rfl rfl, mm_gw 26 rfl rfl, (fun h => by cases h), (fun _ => ⟨mm_gw 554 rfl rfl, mm_gw 555 rfl rfl, by decide⟩), rfl, by decide +kernel, ⟨by decide +kernel, by decide +kernel, by decide +kernel⟩, by decide, by decide, by decide, Or.inr (Or.inl rfl)⟩
set_option maxRecDepth 20000 in
theorem mo_55 : mm_MOK (7, yX7_recall, cX7_recall, 2, (some .int), 2, 2, false) := ⟨mm_gw 572 rfl rfl, mm_gw 26 rfl rfl, (fun h => by cases h), (fun _ => ⟨mm_gw 570 rfl rfl, mm_gw 571 rfl rfl, by decide⟩), rfl, by decide +kernel, ⟨by decide +kernel, by decide +kernel, by decide +kernel⟩, by decide, by decide, by decide, Or.inr (Or.inl rfl)⟩
set_option maxRecDepth 20000 in
theorem mo_56 : mm_MOK (7, yX7_lot, cX7_lot, 3, (some .int), 2, 3, false) := ⟨mm_gw 580 rfl rfl, mm_gw 26 rfl rfl, (fun h => by cases h), (fun _ => ⟨mm_gw 578 rfl rfl, mm_gw 579 rfl rfl, by decide⟩), rfl, by decide +kernel, ⟨by decide +kernel, by decide +kernel, by decide +kernel⟩, by decide, by decide, by decide, Or.inr (Or.inl rfl)⟩
set_option maxRecDepth 20000 in
theorem mo_57 : mm_MOK (7, yX7_batch, cX7_batch, 3, (some .int), 2, 3, false) := ⟨mm_gw 586 rfl rfl, mm_gw 26 rfl rfl, (fun h => by cases h), (fun _ => ⟨mm_gw 584 rfl rfl, mm_gw 585 rfl rfl, by decide⟩), rfl, by decide +kernel, ⟨by decide +kernel, by decide +kernel, by decide +kernel⟩, by decide, by decide, by decide, Or.inr (Or.inl rfl)⟩
set_option maxRecDepth 20000 in
theorem mo_58 : mm_MOK (7, yX7_of, cX7_of, 3, (some .int), 2, 3, false) := ⟨mm_gw 596 rfl rfl, mm_gw 26 rfl rfl, (fun h => by cases h), (fun _ => ⟨mm_gw 594 rfl rfl, mm_gw 595 rfl rfl, by decide⟩), rfl, by decide +kernel, ⟨by decide +kernel, by decide +kernel, by decide +kernel⟩, by decide, by decide, by decide, Or.inr (Or.inl rfl)⟩
set_option maxRecDepth 20000 in
theorem mo_59 : mm_MOK (7, yX7_cooker, cX7_cooker, 3, (some .int), 1, 3, false) := ⟨mm_gw 600 rfl rfl, mm_gw 26 rfl rfl, (fun h => by cases h), (fun _ => ⟨mm_gw 598 rfl rfl, mm_gw 599 rfl rfl, by decide⟩), rfl, by decide +kernel, ⟨by decide +kernel, by decide +kernel, by decide +kernel⟩, by decide, by decide, by decide, Or.inr (Or.inl rfl)⟩
set_option maxRecDepth 20000 in
theorem mo_60 : mm_MOK (7, yX7_told, cX7_told, 3, (some .int), 2, 3, false) := ⟨mm_gw 604 rfl rfl, mm_gw 26 rfl rfl, (fun h => by cases h), (fun _ => ⟨mm_gw 602 rfl rfl, mm_gw 603 rfl rfl, by decide⟩), rfl, by decide +kernel, ⟨by decide +kernel, by decide +kernel, by decide +kernel⟩, by decide, by decide, by decide, Or.inr (Or.inl rfl)⟩
set_option maxRecDepth 20000 in
theorem mo_61 : mm_MOK (7, yX7_count, cX7_count, 2, (some .int), 2, 2, false) := ⟨mm_gw 608 rfl rfl, mm_gw 26 rfl rfl, (fun h => by cases h), (fun _ => ⟨mm_gw 606 rfl rfl, mm_gw 607 rfl rfl, by decide⟩), rfl, by decide +kernel, ⟨by decide +kernel, by decide +kernel, by decide +kernel⟩, by decide, by decide, by decide, Or.inr (Or.inl rfl)⟩
set_option maxRecDepth 20000 in
theorem mo_62 : mm_MOK (7, yX7_canPack, cX7_canPack, 4, (some .boolean), 2, 4, false) := ⟨mm_gw 425 rfl rfl, mm_gw 26 rfl rfl, (fun h => by cases h), (fun _ => ⟨mm_gw 424 rfl rfl, mm_gw 0 rfl rfl, by decide⟩), rfl, by decide +kernel, ⟨by decide +kernel, by decide +kernel, by decide +kernel⟩, by decide, by decide, by decide, Or.inr (Or.inr rfl)⟩
set_option maxRecDepth 20000 in
theorem mo_63 : mm_MOK (7, yX7_passHour, cX7_passHour, 1, none, 3, 1, false) := ⟨mm_gw 459 rfl rfl, mm_gw 26 rfl rfl, (fun h => by cases h), (fun _ => ⟨mm_gw 458 rfl rfl, mm_gw 1 rfl rfl, by decide⟩), rfl, by decide +kernel, ⟨by decide +kernel, by decide +kernel, by decide +kernel⟩, by decide, by decide, by decide, Or.inl rfl⟩
set_option maxRecDepth 20000 in
theorem mo_64 : mm_MOK (7, yX7_finishCharges, cX7_finishCharges, 3, none, 2, 1, false) := ⟨mm_gw 463 rfl rfl, mm_gw 26 rfl rfl, (fun h => by cases h), (fun _ => ⟨mm_gw 462 rfl rfl, mm_gw 2 rfl rfl, by decide⟩), rfl, by decide +kernel, ⟨by decide +kernel, by decide +kernel, by decide +kernel⟩, by decide, by decide, by decide, Or.inl rfl⟩
set_option maxRecDepth 20000 in
theorem mo_65 : mm_MOK (7, yX7_within, cX7_within, 3, (some .boolean), 0, 3, true) := ⟨mm_gw 335 rfl rfl, mm_gw 26 rfl rfl, (fun _ => mm_gw 334 rfl rfl), (fun h => by cases h), rfl, by decide +kernel, ⟨by decide +kernel, by decide +kernel, by decide +kernel⟩, by decide, by decide, by decide, Or.inr (Or.inr rfl)⟩
set_option maxRecDepth 20000 in
theorem mo_66 : mm_MOK (7, yX7_bit, cX7_bit, 1, (some .int), 0, 1, true) := ⟨mm_gw 421 rfl rfl, mm_gw 26 rfl rfl, (fun _ => mm_gw 420 rfl rfl), (fun h => by cases h), rfl, by decide +kernel, ⟨by decide +kernel, by decide +kernel, by decide +kernel⟩, by decide, by decide, by decide, Or.inr (Or.inl rfl)⟩
set_option maxRecDepth 20000 in
theorem mo_67 : mm_MOK (7, yX7_putInOrder, cX7_putInOrder, 4, none, 0, 3, true) := ⟨mm_gw 342 rfl rfl, mm_gw 26 rfl rfl, (fun _ => mm_gw 341 rfl rfl), (fun h => by cases h), rfl, by decide +kernel, ⟨by decide +kernel, by decide +kernel, by decide +kernel⟩, by decide, by decide, by decide, Or.inl rfl⟩
set_option maxRecDepth 20000 in
theorem mo_68 : mm_MOK (8, yX8_in, cX8_in, 3, (some .boolean), 0, 3, true) := ⟨mm_gw 747 rfl rfl, mm_gw 34 rfl rfl, (fun _ => mm_gw 746 rfl rfl), (fun h => by cases h), rfl, by decide +kernel, ⟨by decide +kernel, by decide +kernel, by decide +kernel⟩, by decide, by decide, by decide, Or.inr (Or.inr rfl)⟩
set_option maxRecDepth 20000 in
theorem mo_69 : mm_MOK (8, yX8_isLot, cX8_isLot, 2, (some .boolean), 1, 2, false) := ⟨mm_gw 761 rfl rfl, mm_gw 34 rfl rfl, (fun h => by cases h), (fun _ => ⟨mm_gw 760 rfl rfl, mm_gw 7 rfl rfl, by decide⟩), rfl, by decide +kernel, ⟨by decide +kernel, by decide +kernel, by decide +kernel⟩, by decide, by decide, by decide, Or.inr (Or.inr rfl)⟩
set_option maxRecDepth 20000 in
theorem mo_70 : mm_MOK (8, yX8_freshTill, cX8_freshTill, 2, (some .int), 0, 2, false) := ⟨mm_gw 769 rfl rfl, mm_gw 34 rfl rfl, (fun h => by cases h), (fun _ => ⟨mm_gw 768 rfl rfl, mm_gw 9 rfl rfl, by decide⟩), rfl, by decide +kernel, ⟨by decide +kernel, by decide +kernel, by decide +kernel⟩, by decide, by decide, by decide, Or.inr (Or.inl rfl)⟩
set_option maxRecDepth 20000 in
theorem mo_71 : mm_MOK (8, yX8_isFresh, cX8_isFresh, 2, (some .boolean), 1, 2, false) := ⟨mm_gw 765 rfl rfl, mm_gw 34 rfl rfl, (fun h => by cases h), (fun _ => ⟨mm_gw 764 rfl rfl, mm_gw 8 rfl rfl, by decide⟩), rfl, by decide +kernel, ⟨by decide +kernel, by decide +kernel, by decide +kernel⟩, by decide, by decide, by decide, Or.inr (Or.inr rfl)⟩
set_option maxRecDepth 20000 in
theorem mo_72 : mm_MOK (8, yX8_land, cX8_land, 4, (some .int), 1, 4, false) := ⟨mm_gw 744 rfl rfl, mm_gw 34 rfl rfl, (fun h => by cases h), (fun _ => ⟨mm_gw 742 rfl rfl, mm_gw 743 rfl rfl, by decide⟩), rfl, by decide +kernel, ⟨by decide +kernel, by decide +kernel, by decide +kernel⟩, by decide, by decide, by decide, Or.inr (Or.inl rfl)⟩
set_option maxRecDepth 20000 in
theorem mo_73 : mm_MOK (8, yX8_ice, cX8_ice, 2, (some .int), 1, 2, false) := ⟨mm_gw 751 rfl rfl, mm_gw 34 rfl rfl, (fun h => by cases h), (fun _ => ⟨mm_gw 749 rfl rfl, mm_gw 750 rfl rfl, by decide⟩), rfl, by decide +kernel, ⟨by decide +kernel, by decide +kernel, by decide +kernel⟩, by decide, by decide, by decide, Or.inr (Or.inl rfl)⟩
set_option maxRecDepth 20000 in
theorem mo_74 : mm_MOK (8, yX8_iced, cX8_iced, 2, (some .boolean), 2, 2, false) := ⟨mm_gw 757 rfl rfl, mm_gw 34 rfl rfl, (fun h => by cases h), (fun _ => ⟨mm_gw 755 rfl rfl, mm_gw 756 rfl rfl, by decide⟩), rfl, by decide +kernel, ⟨by decide +kernel, by decide +kernel, by decide +kernel⟩, by decide, by decide, by decide, Or.inr (Or.inr rfl)⟩
set_option maxRecDepth 20000 in
theorem mo_75 : mm_MOK (8, yX8_isKindNumber, cX8_isKindNumber, 1, (some .boolean), 1, 1, true) := ⟨mm_gw 776 rfl rfl, mm_gw 34 rfl rfl, (fun _ => mm_gw 775 rfl rfl), (fun h => by cases h), rfl, by decide +kernel, ⟨by decide +kernel, by decide +kernel, by decide +kernel⟩, by decide, by decide, by decide, Or.inr (Or.inr rfl)⟩
set_option maxRecDepth 20000 in
theorem mo_76 : mm_MOK (8, yX8_kind, cX8_kind, 4, (some .boolean), 2, 4, false) := ⟨mm_gw 773 rfl rfl, mm_gw 34 rfl rfl, (fun h => by cases h), (fun _ => ⟨mm_gw 771 rfl rfl, mm_gw 772 rfl rfl, by decide⟩), rfl, by decide +kernel, ⟨by decide +kernel, by decide +kernel, by decide +kernel⟩, by decide, by decide, by decide, Or.inr (Or.inr rfl)⟩
set_option maxRecDepth 20000 in
theorem mo_77 : mm_MOK (8, yX8_isTold, cX8_isTold, 2, (some .boolean), 2, 2, false) := ⟨mm_gw 792 rfl rfl, mm_gw 34 rfl rfl, (fun h => by cases h), (fun _ => ⟨mm_gw 791 rfl rfl, mm_gw 10 rfl rfl, by decide⟩), rfl, by decide +kernel, ⟨by decide +kernel, by decide +kernel, by decide +kernel⟩, by decide, by decide, by decide, Or.inr (Or.inr rfl)⟩
set_option maxRecDepth 20000 in
theorem mo_78 : mm_MOK (8, yX8_takes, cX8_takes, 3, (some .boolean), 0, 3, false) := ⟨mm_gw 808 rfl rfl, mm_gw 34 rfl rfl, (fun h => by cases h), (fun _ => ⟨mm_gw 807 rfl rfl, mm_gw 14 rfl rfl, by decide⟩), rfl, by decide +kernel, ⟨by decide +kernel, by decide +kernel, by decide +kernel⟩, by decide, by decide, by decide, Or.inr (Or.inr rfl)⟩
set_option maxRecDepth 20000 in
theorem mo_79 : mm_MOK (8, yX8_fishOf, cX8_fishOf, 2, (some .int), 0, 2, false) := ⟨mm_gw 800 rfl rfl, mm_gw 34 rfl rfl, (fun h => by cases h), (fun _ => ⟨mm_gw 799 rfl rfl, mm_gw 12 rfl rfl, by decide⟩), rfl, by decide +kernel, ⟨by decide +kernel, by decide +kernel, by decide +kernel⟩, by decide, by decide, by decide, Or.inr (Or.inl rfl)⟩
set_option maxRecDepth 20000 in
theorem mo_80 : mm_MOK (8, yX8_sauceOf, cX8_sauceOf, 2, (some .int), 0, 2, false) := ⟨mm_gw 812 rfl rfl, mm_gw 34 rfl rfl, (fun h => by cases h), (fun _ => ⟨mm_gw 811 rfl rfl, mm_gw 15 rfl rfl, by decide⟩), rfl, by decide +kernel, ⟨by decide +kernel, by decide +kernel, by decide +kernel⟩, by decide, by decide, by decide, Or.inr (Or.inl rfl)⟩
set_option maxRecDepth 20000 in
theorem mo_81 : mm_MOK (8, yX8_sauce, cX8_sauce, 3, (some .int), 1, 3, false) := ⟨mm_gw 780 rfl rfl, mm_gw 34 rfl rfl, (fun h => by cases h), (fun _ => ⟨mm_gw 778 rfl rfl, mm_gw 779 rfl rfl, by decide⟩), rfl, by decide +kernel, ⟨by decide +kernel, by decide +kernel, by decide +kernel⟩, by decide, by decide, by decide, Or.inr (Or.inl rfl)⟩
set_option maxRecDepth 20000 in
theorem mo_82 : mm_MOK (8, yX8_call, cX8_call, 2, (some .int), 1, 2, false) := ⟨mm_gw 784 rfl rfl, mm_gw 34 rfl rfl, (fun h => by cases h), (fun _ => ⟨mm_gw 782 rfl rfl, mm_gw 783 rfl rfl, by decide⟩), rfl, by decide +kernel, ⟨by decide +kernel, by decide +kernel, by decide +kernel⟩, by decide, by decide, by decide, Or.inr (Or.inl rfl)⟩
set_option maxRecDepth 20000 in
theorem mo_83 : mm_MOK (8, yX8_crewsThere, cX8_crewsThere, 3, (some .int), 1, 1, false) := ⟨mm_gw 816 rfl rfl, mm_gw 34 rfl rfl, (fun h => by cases h), (fun _ => ⟨mm_gw 815 rfl rfl, mm_gw 16 rfl rfl, by decide⟩), rfl, by decide +kernel, ⟨by decide +kernel, by decide +kernel, by decide +kernel⟩, by decide, by decide, by decide, Or.inr (Or.inl rfl)⟩
set_option maxRecDepth 20000 in
theorem mo_84 : mm_MOK (8, yX8_charges, cX8_charges, 3, (some .int), 0, 1, false) := ⟨mm_gw 796 rfl rfl, mm_gw 34 rfl rfl, (fun h => by cases h), (fun _ => ⟨mm_gw 795 rfl rfl, mm_gw 11 rfl rfl, by decide⟩), rfl, by decide +kernel, ⟨by decide +kernel, by decide +kernel, by decide +kernel⟩, by decide, by decide, by decide, Or.inr (Or.inl rfl)⟩
set_option maxRecDepth 20000 in
theorem mo_85 : mm_MOK (8, yX8_first, cX8_first, 4, (some .int), 2, 2, false) := ⟨mm_gw 820 rfl rfl, mm_gw 34 rfl rfl, (fun h => by cases h), (fun _ => ⟨mm_gw 819 rfl rfl, mm_gw 17 rfl rfl, by decide⟩), rfl, by decide +kernel, ⟨by decide +kernel, by decide +kernel, by decide +kernel⟩, by decide, by decide, by decide, Or.inr (Or.inl rfl)⟩
set_option maxRecDepth 20000 in
theorem mo_86 : mm_MOK (8, yX8_there, cX8_there, 4, (some .int), 2, 2, false) := ⟨mm_gw 804 rfl rfl, mm_gw 34 rfl rfl, (fun h => by cases h), (fun _ => ⟨mm_gw 803 rfl rfl, mm_gw 13 rfl rfl, by decide⟩), rfl, by decide +kernel, ⟨by decide +kernel, by decide +kernel, by decide +kernel⟩, by decide, by decide, by decide, Or.inr (Or.inl rfl)⟩
set_option maxRecDepth 20000 in
theorem mo_87 : mm_MOK (8, yX8_pack, cX8_pack, 8, (some .int), 3, 4, false) := ⟨mm_gw 788 rfl rfl, mm_gw 34 rfl rfl, (fun h => by cases h), (fun _ => ⟨mm_gw 786 rfl rfl, mm_gw 787 rfl rfl, by decide⟩), rfl, by decide +kernel, ⟨by decide +kernel, by decide +kernel, by decide +kernel⟩, by decide, by decide, by decide, Or.inr (Or.inl rfl)⟩
set_option maxRecDepth 20000 in
theorem mo_88 : mm_MOK (8, yX8_kilogramsIn, cX8_kilogramsIn, 4, (some .int), 0, 2, false) := ⟨mm_gw 828 rfl rfl, mm_gw 34 rfl rfl, (fun h => by cases h), (fun _ => ⟨mm_gw 827 rfl rfl, mm_gw 18 rfl rfl, by decide⟩), rfl, by decide +kernel, ⟨by decide +kernel, by decide +kernel, by decide +kernel⟩, by decide, by decide, by decide, Or.inr (Or.inl rfl)⟩
set_option maxRecDepth 20000 in
theorem mo_89 : mm_MOK (8, yX8_fail, cX8_fail, 3, (some .int), 1, 2, false) := ⟨mm_gw 824 rfl rfl, mm_gw 34 rfl rfl, (fun h => by cases h), (fun _ => ⟨mm_gw 822 rfl rfl, mm_gw 823 rfl rfl, by decide⟩), rfl, by decide +kernel, ⟨by decide +kernel, by decide +kernel, by decide +kernel⟩, by decide, by decide, by decide, Or.inr (Or.inl rfl)⟩
set_option maxRecDepth 20000 in
theorem mo_90 : mm_MOK (8, yX8_done, cX8_done, 4, none, 0, 2, false) := ⟨mm_gw 840 rfl rfl, mm_gw 34 rfl rfl, (fun h => by cases h), (fun _ => ⟨mm_gw 839 rfl rfl, mm_gw 20 rfl rfl, by decide⟩), rfl, by decide +kernel, ⟨by decide +kernel, by decide +kernel, by decide +kernel⟩, by decide, by decide, by decide, Or.inl rfl⟩
set_option maxRecDepth 20000 in
theorem mo_91 : mm_MOK (8, yX8_go, cX8_go, 3, (some .int), 2, 2, false) := ⟨mm_gw 832 rfl rfl, mm_gw 34 rfl rfl, (fun h => by cases h), (fun _ => ⟨mm_gw 830 rfl rfl, mm_gw 831 rfl rfl, by decide⟩), rfl, by decide +kernel, ⟨by decide +kernel, by decide +kernel, by decide +kernel⟩, by decide, by decide, by decide, Or.inr (Or.inl rfl)⟩
set_option maxRecDepth 20000 in
theorem mo_92 : mm_MOK (8, yX8_hour, cX8_hour, 2, none, 1, 1, false) := ⟨mm_gw 836 rfl rfl, mm_gw 34 rfl rfl, (fun h => by cases h), (fun _ => ⟨mm_gw 835 rfl rfl, mm_gw 19 rfl rfl, by decide⟩), rfl, by decide +kernel, ⟨by decide +kernel, by decide +kernel, by decide +kernel⟩, by decide, by decide, by decide, Or.inl rfl⟩
set_option maxRecDepth 20000 in
theorem mo_93 : mm_MOK (8, yX8_canBe, cX8_canBe, 4, (some .boolean), 1, 1, false) := ⟨mm_gw 852 rfl rfl, mm_gw 34 rfl rfl, (fun h => by cases h), (fun _ => ⟨mm_gw 851 rfl rfl, mm_gw 22 rfl rfl, by decide⟩), rfl, by decide +kernel, ⟨by decide +kernel, by decide +kernel, by decide +kernel⟩, by decide, by decide, by decide, Or.inr (Or.inr rfl)⟩
set_option maxRecDepth 20000 in
theorem mo_94 : mm_MOK (8, yX8_plans, cX8_plans, 6, none, 2, 1, false) := ⟨mm_gw 848 rfl rfl, mm_gw 34 rfl rfl, (fun h => by cases h), (fun _ => ⟨mm_gw 847 rfl rfl, mm_gw 21 rfl rfl, by decide⟩), rfl, by decide +kernel, ⟨by decide +kernel, by decide +kernel, by decide +kernel⟩, by decide, by decide, by decide, Or.inl rfl⟩
set_option maxRecDepth 20000 in
theorem mo_95 : mm_MOK (8, yX8_plan, cX8_plan, 2, (some .int), 3, 2, false) := ⟨mm_gw 844 rfl rfl, mm_gw 34 rfl rfl, (fun h => by cases h), (fun _ => ⟨mm_gw 842 rfl rfl, mm_gw 843 rfl rfl, by decide⟩), rfl, by decide +kernel, ⟨by decide +kernel, by decide +kernel, by decide +kernel⟩, by decide, by decide, by decide, Or.inr (Or.inl rfl)⟩
set_option maxRecDepth 20000 in
theorem mo_96 : mm_MOK (8, yX8_worth, cX8_worth, 1, (some .int), 3, 1, false) := ⟨mm_gw 856 rfl rfl, mm_gw 34 rfl rfl, (fun h => by cases h), (fun _ => ⟨mm_gw 854 rfl rfl, mm_gw 855 rfl rfl, by decide⟩), rfl, by decide +kernel, ⟨by decide +kernel, by decide +kernel, by decide +kernel⟩, by decide, by decide, by decide, Or.inr (Or.inl rfl)⟩
set_option maxRecDepth 20000 in
theorem mo_97 : mm_MOK (8, yX8_worthOf, cX8_worthOf, 4, (some .int), 0, 2, false) := ⟨mm_gw 868 rfl rfl, mm_gw 34 rfl rfl, (fun h => by cases h), (fun _ => ⟨mm_gw 867 rfl rfl, mm_gw 24 rfl rfl, by decide⟩), rfl, by decide +kernel, ⟨by decide +kernel, by decide +kernel, by decide +kernel⟩, by decide, by decide, by decide, Or.inr (Or.inl rfl)⟩
set_option maxRecDepth 20000 in
theorem mo_98 : mm_MOK (8, yX8_casesThere, cX8_casesThere, 4, (some .int), 0, 2, false) := ⟨mm_gw 864 rfl rfl, mm_gw 34 rfl rfl, (fun h => by cases h), (fun _ => ⟨mm_gw 863 rfl rfl, mm_gw 23 rfl rfl, by decide⟩), rfl, by decide +kernel, ⟨by decide +kernel, by decide +kernel, by decide +kernel⟩, by decide, by decide, by decide, Or.inr (Or.inl rfl)⟩
set_option maxRecDepth 20000 in
theorem mo_99 : mm_MOK (8, yX8_sell, cX8_sell, 9, (some .int), 3, 4, false) := ⟨mm_gw 860 rfl rfl, mm_gw 34 rfl rfl, (fun h => by cases h), (fun _ => ⟨mm_gw 858 rfl rfl, mm_gw 859 rfl rfl, by decide⟩), rfl, by decide +kernel, ⟨by decide +kernel, by decide +kernel, by decide +kernel⟩, by decide, by decide, by decide, Or.inr (Or.inl rfl)⟩
set_option maxRecDepth 20000 in
theorem mo_100 : mm_MOK (8, yX8_contract, cX8_contract, 5, (some .int), 3, 5, false) := ⟨mm_gw 872 rfl rfl, mm_gw 34 rfl rfl, (fun h => by cases h), (fun _ => ⟨mm_gw 870 rfl rfl, mm_gw 871 rfl rfl, by decide⟩), rfl, by decide +kernel, ⟨by decide +kernel, by decide +kernel, by decide +kernel⟩, by decide, by decide, by decide, Or.inr (Or.inl rfl)⟩
set_option maxRecDepth 20000 in
theorem mo_101 : mm_MOK (8, yX8_lacks, cX8_lacks, 6, (some .int), 1, 2, false) := ⟨mm_gw 876 rfl rfl, mm_gw 34 rfl rfl, (fun h => by cases h), (fun _ => ⟨mm_gw 874 rfl rfl, mm_gw 875 rfl rfl, by decide⟩), rfl, by decide +kernel, ⟨by decide +kernel, by decide +kernel, by decide +kernel⟩, by decide, by decide, by decide, Or.inr (Or.inl rfl)⟩
set_option maxRecDepth 20000 in
theorem mo_102 : mm_MOK (8, yX8_recall, cX8_recall, 4, (some .int), 2, 2, false) := ⟨mm_gw 880 rfl rfl, mm_gw 34 rfl rfl, (fun h => by cases h), (fun _ => ⟨mm_gw 878 rfl rfl, mm_gw 879 rfl rfl, by decide⟩), rfl, by decide +kernel, ⟨by decide +kernel, by decide +kernel, by decide +kernel⟩, by decide, by decide, by decide, Or.inr (Or.inl rfl)⟩
set_option maxRecDepth 20000 in
theorem mo_103 : mm_MOK (8, yX8_lot, cX8_lot, 3, (some .int), 2, 3, false) := ⟨mm_gw 884 rfl rfl, mm_gw 34 rfl rfl, (fun h => by cases h), (fun _ => ⟨mm_gw 882 rfl rfl, mm_gw 883 rfl rfl, by decide⟩), rfl, by decide +kernel, ⟨by decide +kernel, by decide +kernel, by decide +kernel⟩, by decide, by decide, by decide, Or.inr (Or.inl rfl)⟩
set_option maxRecDepth 20000 in
theorem mo_104 : mm_MOK (8, yX8_batch, cX8_batch, 3, (some .int), 1, 3, false) := ⟨mm_gw 888 rfl rfl, mm_gw 34 rfl rfl, (fun h => by cases h), (fun _ => ⟨mm_gw 886 rfl rfl, mm_gw 887 rfl rfl, by decide⟩), rfl, by decide +kernel, ⟨by decide +kernel, by decide +kernel, by decide +kernel⟩, by decide, by decide, by decide, Or.inr (Or.inl rfl)⟩
set_option maxRecDepth 20000 in
theorem mo_105 : mm_MOK (8, yX8_of, cX8_of, 3, (some .int), 2, 3, false) := ⟨mm_gw 892 rfl rfl, mm_gw 34 rfl rfl, (fun h => by cases h), (fun _ => ⟨mm_gw 890 rfl rfl, mm_gw 891 rfl rfl, by decide⟩), rfl, by decide +kernel, ⟨by decide +kernel, by decide +kernel, by decide +kernel⟩, by decide, by decide, by decide, Or.inr (Or.inl rfl)⟩
set_option maxRecDepth 20000 in
theorem mo_106 : mm_MOK (8, yX8_cooker, cX8_cooker, 4, (some .int), 1, 3, false) := ⟨mm_gw 896 rfl rfl, mm_gw 34 rfl rfl, (fun h => by cases h), (fun _ => ⟨mm_gw 894 rfl rfl, mm_gw 895 rfl rfl, by decide⟩), rfl, by decide +kernel, ⟨by decide +kernel, by decide +kernel, by decide +kernel⟩, by decide, by decide, by decide, Or.inr (Or.inl rfl)⟩
set_option maxRecDepth 20000 in
theorem mo_107 : mm_MOK (8, yX8_told, cX8_told, 3, (some .int), 1, 3, false) := ⟨mm_gw 900 rfl rfl, mm_gw 34 rfl rfl, (fun h => by cases h), (fun _ => ⟨mm_gw 898 rfl rfl, mm_gw 899 rfl rfl, by decide⟩), rfl, by decide +kernel, ⟨by decide +kernel, by decide +kernel, by decide +kernel⟩, by decide, by decide, by decide, Or.inr (Or.inl rfl)⟩
set_option maxRecDepth 20000 in
theorem mo_108 : mm_MOK (8, yX8_count, cX8_count, 4, (some .int), 2, 2, false) := ⟨mm_gw 904 rfl rfl, mm_gw 34 rfl rfl, (fun h => by cases h), (fun _ => ⟨mm_gw 902 rfl rfl, mm_gw 903 rfl rfl, by decide⟩), rfl, by decide +kernel, ⟨by decide +kernel, by decide +kernel, by decide +kernel⟩, by decide, by decide, by decide, Or.inr (Or.inl rfl)⟩
set_option maxRecDepth 20000 in
theorem mo_109 : mm_MOK (6, yX6_search, cX6_search, 8, none, 6, 4, true) := ⟨mm_gw 504 rfl rfl, mm_gw 33 rfl rfl, (fun _ => mm_gw 503 rfl rfl), (fun h => by cases h), rfl, by decide +kernel, ⟨by decide +kernel, by decide +kernel, by decide +kernel⟩, by decide, by decide, by decide, Or.inl rfl⟩
set_option maxRecDepth 20000 in
theorem mo_110 : mm_MOK (6, yX6_search, cX6_search, 8, none, 5, 4, true) := ⟨mm_gw 504 rfl rfl, mm_gw 33 rfl rfl, (fun _ => mm_gw 503 rfl rfl), (fun h => by cases h), rfl, by decide +kernel, ⟨by decide +kernel, by decide +kernel, by decide +kernel⟩, by decide, by decide, by decide, Or.inl rfl⟩
set_option maxRecDepth 20000 in
theorem mo_111 : mm_MOK (6, yX6_search, cX6_search, 8, none, 4, 4, true) := ⟨mm_gw 504 rfl rfl, mm_gw 33 rfl rfl, (fun _ => mm_gw 503 rfl rfl), (fun h => by cases h), rfl, by decide +kernel, ⟨by decide +kernel, by decide +kernel, by decide +kernel⟩, by decide, by decide, by decide, Or.inl rfl⟩
set_option maxRecDepth 20000 in
theorem mo_112 : mm_MOK (6, yX6_search, cX6_search, 8, none, 3, 4, true) := ⟨mm_gw 504 rfl rfl, mm_gw 33 rfl rfl, (fun _ => mm_gw 503 rfl rfl), (fun h => by cases h), rfl, by decide +kernel, ⟨by decide +kernel, by decide +kernel, by decide +kernel⟩, by decide, by decide, by decide, Or.inl rfl⟩
set_option maxRecDepth 20000 in
theorem mo_113 : mm_MOK (6, yX6_search, cX6_search, 8, none, 2, 4, true) := ⟨mm_gw 504 rfl rfl, mm_gw 33 rfl rfl, (fun _ => mm_gw 503 rfl rfl), (fun h => by cases h), rfl, by decide +kernel, ⟨by decide +kernel, by decide +kernel, by decide +kernel⟩, by decide, by decide, by decide, Or.inl rfl⟩
theorem mm_mtok : ∀ r ∈ mm_MT, mm_MOK r := List.forall_mem_cons.mpr ⟨mo_0, List.forall_mem_cons.mpr ⟨mo_1, List.forall_mem_cons.mpr ⟨mo_2, List.forall_mem_cons.mpr ⟨mo_3, List.forall_mem_cons.mpr ⟨mo_4, List.forall_mem_cons.mpr ⟨mo_5, List.forall_mem_cons.mpr ⟨mo_6, List.forall_mem_cons.mpr ⟨mo_7, List.forall_mem_cons.mpr ⟨mo_8, List.forall_mem_cons.mpr ⟨mo_9, List.forall_mem_cons.mpr ⟨mo_10, List.forall_mem_cons.mpr ⟨mo_11, List.forall_mem_cons.mpr ⟨mo_12, List.forall_mem_cons.mpr ⟨mo_13, List.forall_mem_cons.mpr ⟨mo_14, List.forall_mem_cons.mpr ⟨mo_15, List.forall_mem_cons.mpr ⟨mo_16, List.forall_mem_cons.mpr ⟨mo_17, List.forall_mem_cons.mpr ⟨mo_18, List.forall_mem_cons.mpr ⟨mo_19, List.forall_mem_cons.mpr ⟨mo_20, List.forall_mem_cons.mpr ⟨mo_21, List.forall_mem_cons.mpr ⟨mo_22, List.forall_mem_cons.mpr ⟨mo_23, List.forall_mem_cons.mpr ⟨mo_24, List.forall_mem_cons.mpr ⟨mo_25, List.forall_mem_cons.mpr ⟨mo_26, List.forall_mem_cons.mpr ⟨mo_27, List.forall_mem_cons.mpr ⟨mo_28, List.forall_mem_cons.mpr ⟨mo_29, List.forall_mem_cons.mpr ⟨mo_30, List.forall_mem_cons.mpr ⟨mo_31, List.forall_mem_cons.mpr ⟨mo_32, List.forall_mem_cons.mpr ⟨mo_33, List.forall_mem_cons.mpr ⟨mo_34, List.forall_mem_cons.mpr ⟨mo_35, List.forall_mem_cons.mpr ⟨mo_36, List.forall_mem_cons.mpr ⟨mo_37, List.forall_mem_cons.mpr ⟨mo_38, List.forall_mem_cons.mpr ⟨mo_39, List.forall_mem_cons.mpr ⟨mo_40, List.forall_mem_cons.mpr ⟨mo_41, List.forall_mem_cons.mpr ⟨mo_42, List.forall_mem_cons.mpr ⟨mo_43, List.forall_mem_cons.mpr ⟨mo_44, List.forall_mem_cons.mpr ⟨mo_45, List.forall_mem_cons.mpr ⟨mo_46, List.forall_mem_cons.mpr ⟨mo_47, List.forall_mem_cons.mpr ⟨mo_48, List.forall_mem_cons.mpr ⟨mo_49, List.forall_mem_cons.mpr ⟨mo_50, List.forall_mem_cons.mpr ⟨mo_51, List.forall_mem_cons.mpr ⟨mo_52, List.forall_mem_cons.mpr ⟨mo_53, List.forall_mem_cons.mpr ⟨mo_54, List.forall_mem_cons.mpr ⟨mo_55, List.forall_mem_cons.mpr ⟨mo_56, List.forall_mem_cons.mpr ⟨mo_57, List.forall_mem_cons.mpr ⟨mo_58, List.forall_mem_cons.mpr ⟨mo_59, List.forall_mem_cons.mpr ⟨mo_60, List.forall_mem_cons.mpr ⟨mo_61, List.forall_mem_cons.mpr ⟨mo_62, List.forall_mem_cons.mpr ⟨mo_63, List.forall_mem_cons.mpr ⟨mo_64, List.forall_mem_cons.mpr ⟨mo_65, List.forall_mem_cons.mpr ⟨mo_66, List.forall_mem_cons.mpr ⟨mo_67, List.forall_mem_cons.mpr ⟨mo_68, List.forall_mem_cons.mpr ⟨mo_69, List.forall_mem_cons.mpr ⟨mo_70, List.forall_mem_cons.mpr ⟨mo_71, List.forall_mem_cons.mpr ⟨mo_72, List.forall_mem_cons.mpr ⟨mo_73, List.forall_mem_cons.mpr ⟨mo_74, List.forall_mem_cons.mpr ⟨mo_75, List.forall_mem_cons.mpr ⟨mo_76, List.forall_mem_cons.mpr ⟨mo_77, List.forall_mem_cons.mpr ⟨mo_78, List.forall_mem_cons.mpr ⟨mo_79, List.forall_mem_cons.mpr ⟨mo_80, List.forall_mem_cons.mpr ⟨mo_81, List.forall_mem_cons.mpr ⟨mo_82, List.forall_mem_cons.mpr ⟨mo_83, List.forall_mem_cons.mpr ⟨mo_84, List.forall_mem_cons.mpr ⟨mo_85, List.forall_mem_cons.mpr ⟨mo_86, List.forall_mem_cons.mpr ⟨mo_87, List.forall_mem_cons.mpr ⟨mo_88, List.forall_mem_cons.mpr ⟨mo_89, List.forall_mem_cons.mpr ⟨mo_90, List.forall_mem_cons.mpr ⟨mo_91, List.forall_mem_cons.mpr ⟨mo_92, List.forall_mem_cons.mpr ⟨mo_93, List.forall_mem_cons.mpr ⟨mo_94, List.forall_mem_cons.mpr ⟨mo_95, List.forall_mem_cons.mpr ⟨mo_96, List.forall_mem_cons.mpr ⟨mo_97, List.forall_mem_cons.mpr ⟨mo_98, List.forall_mem_cons.mpr ⟨mo_99, List.forall_mem_cons.mpr ⟨mo_100, List.forall_mem_cons.mpr ⟨mo_101, List.forall_mem_cons.mpr ⟨mo_102, List.forall_mem_cons.mpr ⟨mo_103, List.forall_mem_cons.mpr ⟨mo_104, List.forall_mem_cons.mpr ⟨mo_105, List.forall_mem_cons.mpr ⟨mo_106, List.forall_mem_cons.mpr ⟨mo_107, List.forall_mem_cons.mpr ⟨mo_108, List.forall_mem_cons.mpr ⟨mo_109, List.forall_mem_cons.mpr ⟨mo_110, List.forall_mem_cons.mpr ⟨mo_111, List.forall_mem_cons.mpr ⟨mo_112, List.forall_mem_cons.mpr ⟨mo_113, fun _ h => absurd h List.not_mem_nil⟩⟩⟩⟩⟩⟩⟩⟩⟩⟩⟩⟩⟩⟩⟩⟩⟩⟩⟩⟩⟩⟩⟩⟩⟩⟩⟩⟩⟩⟩⟩⟩⟩⟩⟩⟩⟩⟩⟩⟩⟩⟩⟩⟩⟩⟩⟩⟩⟩⟩⟩⟩⟩⟩⟩⟩⟩⟩⟩⟩⟩⟩⟩⟩⟩⟩⟩⟩⟩⟩⟩⟩⟩⟩⟩⟩⟩⟩⟩⟩⟩⟩⟩⟩⟩⟩⟩⟩⟩⟩⟩⟩⟩⟩⟩⟩⟩⟩⟩⟩⟩⟩⟩⟩⟩⟩⟩⟩⟩⟩⟩⟩⟩⟩
theorem mm_mok (k : Nat) : mm_MOK (mm_m k) := by
  unfold mm_m
  cases h : mm_MT[k]? with
  | none => exact mo_0
  | some r => exact mm_mtok r (List.mem_of_getElem? h)
def mm_FT : List (Nat × Nat × Nat × Nat) := [(0, 9, 0, 0), (0, 15, 0, 1), (0, 18, 0, 2), (0, 21, 0, 3), (0, 24, 0, 4), (0, 27, 0, 5), (0, 31, 0, 6), (0, 34, 0, 7), (0, 42, 2, 0), (0, 45, 2, 1), (0, 46, 2, 2), (0, 47, 2, 4), (0, 54, 0, 8), (0, 57, 2, 3), (1, 9, 1, 0), (1, 15, 1, 1), (1, 18, 1, 2), (1, 21, 1, 3), (1, 24, 1, 4), (1, 27, 1, 5), (1, 31, 1, 6), (1, 34, 1, 7), (2, 9, 2, 0), (2, 15, 2, 1), (2, 18, 2, 2), (2, 21, 2, 3), (2, 24, 2, 4), (3, 9, 3, 0), (3, 15, 3, 1), (4, 9, 4, 0), (4, 15, 4, 1), (4, 19, 4, 2), (4, 22, 4, 3), (4, 25, 4, 4), (4, 28, 4, 5), (4, 48, 4, 6), (5, 9, 5, 0), (5, 15, 5, 1), (5, 18, 5, 2), (5, 21, 5, 3), (5, 25, 5, 4), (5, 28, 5, 5), (5, 31, 5, 6), (6, 9, 6, 0), (6, 15, 6, 1), (6, 18, 6, 2), (6, 21, 6, 3), (6, 24, 6, 4), (6, 27, 6, 5), (6, 30, 6, 6), (6, 34, 4, 6), (6, 53, 4, 5), (6, 60, 6, 7), (6, 77, 4, 3), (6, 80, 4, 1), (6, 83, 4, 2), (7, 10, 7, 0), (7, 19, 7, 1), (7, 26, 7, 2), (7, 33, 7, 3), (7, 40, 7, 4), (7, 47, 7, 5), (7, 54, 7, 6), (7, 58, 7, 7), (7, 66, 7, 8), (7, 75, 7, 9), (7, 87, 5, 1), (7, 90, 5, 3), (7, 94, 4, 0), (7, 106, 3, 1), (7, 109, 3, 0), (7, 116, 4, 3), (7, 119, 0, 7), (7, 129, 4, 2), (7, 132, 7, 10), (7, 135, 4, 4), (7, 142, 4, 1), (7, 145, 2, 4), (7, 150, 2, 3), (7, 153, 7, 11), (7, 167, 6, 5), (7, 170, 6, 7), (7, 177, 4, 5), (7, 187, 7, 12), (7, 194, 1, 5), (7, 197, 1, 1), (7, 204, 5, 4), (7, 210, 5, 0), (7, 221, 0, 0), (7, 222, 0, 2), (7, 223, 0, 3), (7, 226, 0, 5), (7, 229, 0, 1), (7, 235, 0, 6), (7, 236, 2, 0), (7, 237, 2, 1), (7, 238, 2, 2), (7, 239, 1, 0), (7, 242, 1, 2), (7, 245, 1, 3), (7, 248, 1, 4), (7, 251, 5, 6), (7, 257, 0, 8), (7, 262, 7, 13), (8, 9, 8, 2), (8, 13, 8, 3), (8, 16, 8, 4), (8, 19, 8, 5), (8, 23, 8, 6), (8, 26, 8, 8), (8, 29, 8, 9), (8, 32, 8, 10), (8, 35, 8, 11), (8, 38, 8, 13), (8, 41, 8, 14), (8, 44, 8, 15), (8, 47, 8, 16), (8, 50, 8, 19), (8, 53, 8, 20), (8, 56, 8, 21), (8, 59, 8, 22), (8, 62, 8, 23), (8, 65, 8, 24), (8, 68, 8, 25), (8, 71, 8, 28), (8, 74, 8, 29), (8, 77, 8, 30), (8, 80, 8, 31), (8, 83, 8, 32), (8, 86, 8, 33), (8, 89, 8, 35), (8, 92, 8, 36), (8, 95, 8, 37), (8, 98, 8, 1), (8, 106, 8, 0), (8, 114, 8, 7), (8, 135, 8, 18), (8, 151, 8, 12), (8, 163, 8, 17), (8, 173, 8, 27), (8, 176, 8, 34), (8, 179, 8, 38), (8, 195, 8, 26)]
def mm_FTp : List Nat := [180, 182, 184, 186, 188, 189, 191, 193, 149, 152, 155, 161, 195, 158, 222, 224, 226, 228, 230, 232, 234, 235, 148, 151, 154, 157, 160, 125, 127, 86, 88, 91, 94, 97, 99, 103, 51, 53, 55, 56, 58, 60, 61, 259, 260, 261, 262, 263, 264, 266, 102, 100, 267, 95, 89, 92, 286, 287, 288, 289, 290, 291, 292, 293, 294, 295, 54, 57, 87, 128, 126, 96, 194, 93, 296, 98, 90, 162, 159, 297, 265, 268, 101, 298, 233, 225, 59, 52, 181, 185, 187, 190, 183, 192, 150, 153, 156, 223, 227, 229, 231, 62, 196, 299, 625, 626, 627, 628, 629, 631, 632, 633, 634, 636, 637, 638, 639, 642, 643, 644, 645, 646, 647, 648, 651, 652, 653, 654, 655, 656, 658, 659, 660, 624, 623, 630, 641, 635, 640, 650, 657, 661, 649]
abbrev mm_fl (q : Nat × Nat × Nat × Nat) : Cond := .fieldLink (mm_R q.1) q.2.1 (mm_T q.2.2.1 q.2.2.2).1 (mm_T q.2.2.1 q.2.2.2).2.1 (mm_T q.2.2.1 q.2.2.2).2.2.1
theorem mm_ft_all : (mm_FT.zip mm_FTp).all (fun q => decide (lw_tbl[q.2]? = some (mm_fl q.1)) && goodWord (mm_fl q.1) && decide (q.1.2.2.1 < 9) && decide (q.1.2.2.2 < mm_N q.1.2.2.1)) = true := by decide +kernel
theorem mm_zip_mem {α β : Type} {a : α} : ∀ {l : List α} {l2 : List β}, l.length = l2.length → a ∈ l → ∃ b, (a, b) ∈ l.zip l2
  | [], _, _, h => absurd h List.not_mem_nil
  | x :: l, [], h, _ => by simp at h
  | x :: l, y :: l2, h, hm => by
    rcases List.mem_cons.mp hm with rfl | hm
    · exact ⟨y, by simp⟩
    · obtain ⟨b, hb⟩ := mm_zip_mem (l := l) (l2 := l2) (by simpa using h) hm
      exact ⟨b, by simp [hb]⟩
theorem mm_ft_ok {q : Nat × Nat × Nat × Nat} (h : q ∈ mm_FT) : mm_fl q ∈ mm_GW ∧ q.2.2.1 < 9 ∧ q.2.2.2 < mm_N q.2.2.1 := by
  obtain ⟨b, hb⟩ := mm_zip_mem (l2 := mm_FTp) (by decide +kernel) h
  have := List.all_eq_true.mp mm_ft_all _ hb
  simp only [Bool.and_eq_true, decide_eq_true_eq] at this
  exact ⟨mm_gw b this.1.1.1 this.1.1.2, this.1.2, this.2⟩
def mm_CT : List (Nat × Nat × Nat) := [(0, 59, 2), (0, 69, 4), (2, 31, 12), (2, 39, 15), (3, 19, 17), (4, 31, 20), (4, 39, 21), (4, 42, 22), (4, 45, 23), (5, 43, 28), (5, 47, 31), (5, 57, 29), (6, 39, 32), (6, 45, 37), (6, 49, 109), (6, 49, 110), (6, 49, 111), (6, 49, 112), (6, 49, 113), (6, 56, 39), (6, 63, 38), (6, 67, 40), (7, 62, 65), (7, 70, 27), (7, 79, 26), (7, 83, 29), (7, 97, 19), (7, 100, 25), (7, 103, 17), (7, 112, 12), (7, 115, 24), (7, 122, 13), (7, 126, 62), (7, 138, 15), (7, 146, 33), (7, 156, 16), (7, 160, 63), (7, 163, 36), (7, 173, 3), (7, 180, 5), (7, 184, 9), (7, 190, 8), (7, 193, 7), (7, 200, 10), (7, 207, 6), (7, 213, 28), (7, 216, 66), (7, 220, 0), (7, 232, 4), (7, 252, 30), (7, 254, 14), (7, 259, 18), (7, 265, 32), (7, 268, 64), (7, 271, 35), (7, 274, 11), (7, 278, 1), (7, 281, 34), (8, 102, 68), (8, 109, 70), (8, 118, 69), (8, 122, 71), (8, 125, 75), (8, 128, 78), (8, 132, 77), (8, 138, 84), (8, 142, 79), (8, 145, 86), (8, 148, 80), (8, 154, 83), (8, 157, 85), (8, 160, 88), (8, 166, 92), (8, 169, 90), (8, 182, 93), (8, 186, 94), (8, 189, 98), (8, 192, 97), (9, 13, 41), (9, 17, 72), (9, 18, 42), (9, 22, 73), (9, 23, 43), (9, 27, 74), (9, 28, 44), (9, 32, 76), (9, 33, 45), (9, 37, 81), (9, 38, 46), (9, 41, 82), (9, 42, 47), (9, 45, 87), (9, 46, 48), (9, 49, 89), (9, 50, 49), (9, 53, 91), (9, 54, 50), (9, 57, 95), (9, 58, 51), (9, 62, 96), (9, 63, 52), (9, 66, 99), (9, 67, 53), (9, 71, 100), (9, 72, 54), (9, 75, 101), (9, 76, 55), (9, 79, 102), (9, 80, 56), (9, 83, 103), (9, 84, 57), (9, 87, 104), (9, 88, 58), (9, 91, 105), (9, 92, 59), (9, 95, 106), (9, 96, 60), (9, 99, 107), (9, 100, 61), (9, 103, 108)]
def mm_CTp : List Nat := [526, 535, 418, 144, 438, 373, 377, 380, 383, 362, 430, 479, 492, 493, 502, 502, 502, 502, 502, 497, 505, 510, 333, 336, 353, 358, 370, 386, 398, 406, 410, 414, 422, 439, 440, 451, 456, 488, 522, 530, 539, 548, 557, 562, 573, 581, 582, 587, 592, 609, 613, 434, 426, 460, 475, 480, 464, 471, 745, 766, 758, 762, 774, 805, 789, 793, 797, 801, 809, 813, 817, 825, 833, 837, 849, 845, 861, 865, 329, 741, 343, 748, 349, 754, 366, 770, 390, 777, 394, 781, 402, 785, 447, 821, 452, 829, 484, 841, 514, 853, 518, 857, 544, 869, 553, 873, 569, 877, 577, 881, 583, 885, 593, 889, 597, 893, 601, 897, 605, 901]
abbrev mm_cl1 (q : Nat × Nat × Nat) : Cond := .methodLink (mm_R q.1) q.2.1 (mm_m q.2.2).2.1
theorem mm_ct_all : (mm_CT.zip mm_CTp).all (fun q => decide (lw_tbl[q.2]? = some (mm_cl1 q.1)) && goodWord (mm_cl1 q.1)) = true := by decide +kernel
theorem mm_ct_ok {q : Nat × Nat × Nat} (h : q ∈ mm_CT) : mm_cl1 q ∈ mm_GW := by
  obtain ⟨b, hb⟩ := mm_zip_mem (l2 := mm_CTp) (by decide +kernel) h
  have := List.all_eq_true.mp mm_ct_all _ hb
  simp only [Bool.and_eq_true, decide_eq_true_eq] at this
  exact mm_gw b this.1 this.2
/-- calls of a nest mate's private method -/
def mm_NT : List (Nat × Nat × Nat) := [(0, 38, 65), (1, 38, 65), (1, 42, 67), (2, 35, 66), (4, 35, 65), (5, 35, 65), (5, 39, 67)]
abbrev mm_nl (q : Nat × Nat × Nat) : Cond := .methodLinkNest (mm_R q.1) q.2.1 (mm_m q.2.2).2.1 "FishTins"
set_option maxRecDepth 20000 in
theorem mm_nt_tbl : ∀ q ∈ mm_NT, mm_nl q ∈ lw_tbl := List.forall_mem_cons.mpr ⟨List.mem_of_getElem? (i := 591) rfl, List.forall_mem_cons.mpr ⟨List.mem_of_getElem? (i := 561) rfl, List.forall_mem_cons.mpr ⟨List.mem_of_getElem? (i := 552) rfl, List.forall_mem_cons.mpr ⟨List.mem_of_getElem? (i := 419) rfl, List.forall_mem_cons.mpr ⟨List.mem_of_getElem? (i := 376) rfl, List.forall_mem_cons.mpr ⟨List.mem_of_getElem? (i := 357) rfl, List.forall_mem_cons.mpr ⟨List.mem_of_getElem? (i := 340) rfl, fun _ h => absurd h List.not_mem_nil⟩⟩⟩⟩⟩⟩⟩
/-- calls of Math.min (1000), Math.max (1001), System.arraycopy (1002) -/
def mm_SP : List (Nat × Nat × Nat) := [(0, 48, 1002), (0, 63, 1000), (1, 46, 1000), (1, 52, 1001), (5, 51, 1000), (6, 71, 1002), (6, 86, 1000)]
abbrev mm_sy (t : Nat) : MethodName := if t = 1000 then Lib.Math.min.name else if t = 1001 then Lib.Math.max.name else arraycopyName
set_option maxRecDepth 20000 in
theorem mm_sp_ok : ∀ q ∈ mm_SP, Cond.methodLink (mm_R q.1) q.2.1 (mm_sy q.2.2) ∈ mm_GW := List.forall_mem_cons.mpr ⟨mm_gw 468 rfl rfl, List.forall_mem_cons.mpr ⟨mm_gw 534 rfl rfl, List.forall_mem_cons.mpr ⟨mm_gw 543 rfl rfl, List.forall_mem_cons.mpr ⟨mm_gw 566 rfl rfl, List.forall_mem_cons.mpr ⟨mm_gw 444 rfl rfl, List.forall_mem_cons.mpr ⟨mm_gw 509 rfl rfl, List.forall_mem_cons.mpr ⟨mm_gw 501 rfl rfl, fun _ h => absurd h List.not_mem_nil⟩⟩⟩⟩⟩⟩⟩
set_option maxRecDepth 20000 in
theorem mm_min_w : Cond.static Lib.Math.min.name ∈ mm_GW ∧ Cond.initialized "java/lang/Math" ∈ mm_GW ∧ Cond.code Lib.Math.min.name Lib.Math.min.code 2 (some .int) ∈ mm_GW := ⟨mm_gw 445 rfl rfl, mm_gw 35 rfl rfl, mm_gw 446 rfl rfl⟩
set_option maxRecDepth 20000 in
theorem mm_max_w : Cond.static Lib.Math.max.name ∈ mm_GW ∧ Cond.initialized "java/lang/Math" ∈ mm_GW ∧ Cond.code Lib.Math.max.name Lib.Math.max.code 2 (some .int) ∈ mm_GW := ⟨mm_gw 567 rfl rfl, mm_gw 35 rfl rfl, mm_gw 568 rfl rfl⟩
set_option maxRecDepth 20000 in
theorem mm_cpy_w : Cond.native arraycopyName ∈ mm_GW ∧ Cond.static arraycopyName ∈ mm_GW ∧ Cond.initialized "java/lang/System" ∈ mm_GW := ⟨mm_gw 470 rfl rfl, mm_gw 469 rfl rfl, mm_gw 36 rfl rfl⟩
def mm_CK : List (Nat × Nat × Int32) := [(7, 74, 100000), (7, 78, 1000000), (8, 113, 100000), (8, 117, 1000000)]
set_option maxRecDepth 20000 in
theorem mm_ck_ok : ∀ q ∈ mm_CK, Cond.constant (mm_R q.1) q.2.1 q.2.2 ∈ mm_GW := List.forall_mem_cons.mpr ⟨mm_gw 347 rfl rfl, List.forall_mem_cons.mpr ⟨mm_gw 348 rfl rfl, List.forall_mem_cons.mpr ⟨mm_gw 752 rfl rfl, List.forall_mem_cons.mpr ⟨mm_gw 753 rfl rfl, fun _ h => absurd h List.not_mem_nil⟩⟩⟩⟩
end
section
/-! THE SMALL MACHINE: a memory is a number for each place of each cell; references stand in fixed places of a fixed shape; an instruction is a predicate transformer; one theorem says that it is sound for the machine. -/
abbrev mm_M : Type := Nat → Nat → Int32
abbrev mm_C : Type := (Bool × Nat) ⊕ (Nat × List (Option Nat))
abbrev mm_G : Type := (Nat → ClassId) × (Nat → Nat → Nat) × (Nat → Nat) × ClassId × ClassId
abbrev mm_L : Type := List (Option Value)
abbrev mm_E : Type := Option Instr × Nat × Nat × List Nat × Int32
def mm_wr (μ : mm_M) (c i : Nat) (x : Int32) : mm_M := fun k => if k = c then upd (μ c) i x else μ k
def mm_cp (μ : mm_M) (a b sp dp n : Nat) : mm_M := fun k => if k = b then va_cpy (μ a) (μ b) sp dp n else μ k
def mm_v (ad : Nat → Nat) (v : Value) : Value := match v with
  | .ref a => .ref (ad a)
  | v => v
def mm_fv (ad : Nat → Nat) (row : Nat → Int32) (j : Nat) (f : Option Nat) : Value := match f with
  | none => .int (row j)
  | some r => .ref (ad r)
def mm_cell (G : mm_G) (μ : mm_M) (k : Nat) (q : mm_C) : Nat × va_E := match q with
  | .inl q => (G.2.2.1 k, .inl (if q.1 then G.2.2.2.2 else G.2.2.2.1, q.2, .inl (μ k)))
  | .inr q => (G.2.2.1 k, .inr (q.1, q.2.mapIdx (mm_fv G.2.2.1 (μ k))))
def mm_cells (G : mm_G) (Sh : List mm_C) (μ : mm_M) : va_W := Sh.mapIdx (mm_cell G μ)
def mm_tys (G : mm_G) : List (ClassId × FieldType) := [(G.2.2.2.1, .int), (G.2.2.2.2, .boolean)]
def mm_c1 (v : Value) : Bool := match v with
  | .int _ => true
  | .ref _ => true
  | _ => false
/-- what a call wants of the stack: so many values, all of one word, not too many -/
def mm_cb (n : Nat) (st : List Value) : Bool := decide (n ≤ st.length) && st.all mm_c1 && decide (st.length ≤ 8)
def mm_rc (Sh : List mm_C) (ci : Nat) (av : List Value) : Prop := match av with
  | .ref c :: _ => (match Sh[c]? with
    | some (.inr q) => q.1 = ci
    | _ => False)
  | _ => False
def mm_s1 (st : List Value) (F : Int32 → List Value → Prop) : Prop := match st with
  | .int x :: s => F x s
  | _ => False
def mm_s2 (st : List Value) (F : Int32 → Int32 → List Value → Prop) : Prop := match st with
  | .int y :: .int x :: s => F x y s
  | _ => False
def mm_li (loc : mm_L) (i : Nat) (F : Int32 → Prop) : Prop := match loc[i]? with
  | some (some (.int x)) => F x
  | _ => False
def mm_lr (loc : mm_L) (i : Nat) (F : Nat → Prop) : Prop := match loc[i]? with
  | some (some (.ref a)) => F a
  | _ => False
def mm_gf (Sh : List mm_C) (μ : mm_M) (c ci k : Nat) (F : Value → Prop) : Prop := match Sh[c]? with
  | some (.inr q) => q.1 = ci ∧ (match q.2[k]? with
    | some none => F (.int (μ c k))
    | some (some r) => F (.ref r)
    | none => False)
  | _ => False
def mm_gv (μ : mm_M) (c k : Nat) (f : Option Nat) : Value := match f with
  | none => .int (μ c k)
  | some r => .ref r
def mm_pf (Sh : List mm_C) (c ci k : Nat) (F : Prop) : Prop := match Sh[c]? with
  | some (.inr q) => q.1 = ci ∧ q.2[k]? = some none ∧ F
  | _ => False
/-- a cell is an array of that kind: the index is in range, and on -/
def mm_ar (Sh : List mm_C) (c : Nat) (b : Bool) (i : Int32) (F : Prop) : Prop := match Sh[c]? with
  | some (.inl q) => q.1 = b ∧ vp_in i q.2 ∧ F
  | _ => False
def mm_al2 (Sh : List mm_C) (c : Nat) (F : Nat → Prop) : Prop := match Sh[c]? with
  | some (.inl q) => q.1 = false ∧ F q.2
  | _ => False
def mm_sw (x : Int32) (F : Nat → Prop) : Nat → List Nat → Prop
  | _, [] => True
  | j, t :: ts => (x = Int32.ofNat j → F t) ∧ mm_sw x F (j + 1) ts
def mm_cond (c : ClassFile.Cond) (x y : Int32) (A B : Prop) : Prop := match c with
  | .eq => (x = y → A) ∧ (¬ x = y → B)
  | .ne => (¬ x = y → A) ∧ (x = y → B)
  | .lt => (x < y → A) ∧ (¬ x < y → B)
  | .ge => (y ≤ x → A) ∧ (¬ y ≤ x → B)
  | .gt => (y < x → A) ∧ (¬ y < x → B)
  | .le => (x ≤ y → A) ∧ (¬ x ≤ y → B)
def mm_i (Sh : List mm_C) (scr : Option (Nat × (Nat → Int32))) (rb : Bool) (Cs : Nat → List Value → mm_M → (Int32 → mm_M → Prop) → (mm_M → Prop) → Prop) (K : Nat → mm_L → List Value → mm_M → Prop) (RI : Int32 → mm_M → Prop) (RV : mm_M → Prop) (i : Instr) (r1 r2 : Nat) (tg : List Nat) (im : Int32) (N : mm_L → List Value → mm_M → Prop) (loc : mm_L) (st : List Value) (μ : mm_M) : Prop := match i with
  | .iconst _ => N loc (.int im :: st) μ
  | .bipush _ => N loc (.int im :: st) μ
  | .sipush _ => N loc (.int im :: st) μ
  | .ldc _ => N loc (.int im :: st) μ
  | .iload_n n => mm_li loc n.val (fun x => N loc (.int x :: st) μ)
  | .iload n => mm_li loc n (fun x => N loc (.int x :: st) μ)
  | .aload_n n => mm_lr loc n.val (fun a => N loc (.ref a :: st) μ)
  | .istore_n n => mm_s1 st (fun x s => N (loc.set n.val (some (.int x))) s μ)
  | .istore n => mm_s1 st (fun x s => N (loc.set n (some (.int x))) s μ)
  | .iinc n _ => mm_li loc n (fun x => N (loc.set n (some (.int (x + im)))) st μ)
  | .iadd => mm_s2 st (fun x y s => N loc (.int (x + y) :: s) μ)
  | .isub => mm_s2 st (fun x y s => N loc (.int (x - y) :: s) μ)
  | .imul => mm_s2 st (fun x y s => N loc (.int (x * y) :: s) μ)
  | .iand => mm_s2 st (fun x y s => N loc (.int (x &&& y) :: s) μ)
  | .ior => mm_s2 st (fun x y s => N loc (.int (x ||| y) :: s) μ)
  | .ixor => mm_s2 st (fun x y s => N loc (.int (x ^^^ y) :: s) μ)
  | .ishl => mm_s2 st (fun x y s => N loc (.int (x <<< (y &&& 31)) :: s) μ)
  | .ishr => mm_s2 st (fun x y s => N loc (.int (x >>> (y &&& 31)) :: s) μ)
  | .idiv => mm_s2 st (fun x y s => ¬ y = 0 ∧ N loc (.int (x / y) :: s) μ)
  | .irem => mm_s2 st (fun x y s => ¬ y = 0 ∧ N loc (.int (x - x / y * y) :: s) μ)
  | .ineg => mm_s1 st (fun x s => N loc (.int (-x) :: s) μ)
  | .dup => (match st with
    | v :: s => mm_c1 v = true ∧ N loc (v :: v :: s) μ
    | _ => False)
  | .dup2 => (match st with
    | v :: w :: s => mm_c1 v = true ∧ mm_c1 w = true ∧ N loc (v :: w :: v :: w :: s) μ
    | _ => False)
  | .goto _ => K r1 loc st μ
  | .ifCond c _ => mm_s1 st (fun x s => mm_cond c x 0 (K r1 loc s μ) (N loc s μ))
  | .if_icmp c _ => mm_s2 st (fun x y s => mm_cond c x y (K r1 loc s μ) (N loc s μ))
  | .tableswitch _ _ _ _ => mm_s1 st (fun x s => (x.toInt < 0 ∨ (tg.length : Int) ≤ x.toInt → K r1 loc s μ) ∧ mm_sw x (fun t => K t loc s μ) 0 tg)
  | .getfield _ => (match st with
    | .ref c :: s => mm_gf Sh μ c r1 r2 (fun v => N loc (v :: s) μ)
    | _ => False)
  | .putfield _ => (match st with
    | .int x :: .ref c :: s => mm_pf Sh c r1 r2 (N loc s (mm_wr μ c r2 x))
    | _ => False)
  | .iaload => (match st with
    | .int i :: .ref c :: s => (match scr, decide (c = 999) with
      | some q, true => Sh.length ≤ 999 ∧ vp_in i q.1 ∧ N loc (.int (q.2 i.toNatClampNeg) :: s) μ
      | _, _ => mm_ar Sh c false i (N loc (.int (μ c i.toNatClampNeg) :: s) μ))
    | _ => False)
  | .arraylength => (match st with
    | .ref c :: s => (match scr with
      | some q => c = 999 ∧ Sh.length ≤ 999 ∧ N loc (.int (Int32.ofNat q.1) :: s) μ
      | none => False)
    | _ => False)
  | .baload => (match st with
    | .int i :: .ref c :: s => mm_ar Sh c true i (N loc (.int (μ c i.toNatClampNeg) :: s) μ)
    | _ => False)
  | .iastore => (match st with
    | .int x :: .int i :: .ref c :: s => mm_ar Sh c false i (N loc s (mm_wr μ c i.toNatClampNeg x))
    | _ => False)
  | .bastore => (match st with
    | .int x :: .int i :: .ref c :: s => mm_ar Sh c true i (x &&& 1 = x ∧ N loc s (mm_wr μ c i.toNatClampNeg x))
    | _ => False)
  | .ireturn => (match st with
    | [.int x] => (rb = true → x &&& 1 = x) ∧ RI x μ
    | _ => False)
  | .return_ => (match st with
    | [] => RV μ
    | _ => False)
  | .invokestatic _ => (match r1 with
    | 1000 => mm_s2 st (fun x y s => mm_cb 0 s = true ∧ N loc (.int (if y < x then y else x) :: s) μ)
    | 1001 => mm_s2 st (fun x y s => mm_cb 0 s = true ∧ N loc (.int (if x < y then y else x) :: s) μ)
    | 1002 => (match st with
      | .int n :: .int dp :: .ref d :: .int sp :: .ref a :: s => mm_cb 0 s = true ∧ mm_al2 Sh a (fun na => mm_al2 Sh d (fun nd => ¬ sp < 0 ∧ ¬ dp < 0 ∧ ¬ n < 0 ∧ sp.toNatClampNeg + n.toNatClampNeg ≤ na ∧ dp.toNatClampNeg + n.toNatClampNeg ≤ nd ∧ N loc s (mm_cp μ a d sp.toNatClampNeg dp.toNatClampNeg n.toNatClampNeg)))
      | _ => False)
    | k => mm_cb r2 st = true ∧ Cs k (st.take r2).reverse μ (fun r μ' => N loc (.int r :: st.drop r2) μ') (fun μ' => N loc (st.drop r2) μ'))
  | .invokevirtual _ => mm_cb r2 st = true ∧ mm_rc Sh (mm_m r1).1 (st.take r2).reverse ∧ Cs r1 (st.take r2).reverse μ (fun r μ' => N loc (.int r :: st.drop r2) μ') (fun μ' => N loc (st.drop r2) μ')
  | _ => False
def mm_e (Sh : List mm_C) (scr : Option (Nat × (Nat → Int32))) (rb : Bool) (Cs : Nat → List Value → mm_M → (Int32 → mm_M → Prop) → (mm_M → Prop) → Prop) (K : Nat → mm_L → List Value → mm_M → Prop) (RI : Int32 → mm_M → Prop) (RV : mm_M → Prop) (q : mm_E) (N : mm_L → List Value → mm_M → Prop) : mm_L → List Value → mm_M → Prop := match q with
  | (none, t, _) => fun loc st μ => K t loc st μ
  | (some i, r1, r2, tg, im) => fun loc st μ => mm_i Sh scr rb Cs K RI RV i r1 r2 tg im N loc st μ
/-- a stretch of code, up to the next labels -/
def mm_wpB (Sh : List mm_C) (scr : Option (Nat × (Nat → Int32))) (rb : Bool) (Cs : Nat → List Value → mm_M → (Int32 → mm_M → Prop) → (mm_M → Prop) → Prop) (K : Nat → mm_L → List Value → mm_M → Prop) (RI : Int32 → mm_M → Prop) (RV : mm_M → Prop) (cd : List mm_E) : mm_L → List Value → mm_M → Prop := cd.foldr (mm_e Sh scr rb Cs K RI RV) (fun _ _ _ => False)
/-- code from a label, over at most n labels, not beyond the cuts -/
def mm_wp (Sh : List mm_C) (scr : Option (Nat × (Nat → Int32))) (rb : Bool) (Cs : Nat → List Value → mm_M → (Int32 → mm_M → Prop) → (mm_M → Prop) → Prop) (K : Nat → mm_L → List Value → mm_M → Prop) (RI : Int32 → mm_M → Prop) (RV : mm_M → Prop) (lab : Nat → List mm_E) (cut : Nat → Bool) : Nat → Nat → mm_L → List Value → mm_M → Prop
  | 0, t => K t
  | n + 1, t => if cut t = true then K t else mm_wpB Sh scr rb Cs (mm_wp Sh scr rb Cs K RI RV lab cut n) RI RV (lab t)
/-! the code is what the machine decodes -/
def mm_len (i : Instr) (r2 : Nat) : Nat := match i with
  | .bipush _ => 2
  | .sipush _ => 3
  | .ldc _ => 2
  | .iload _ => 2
  | .istore _ => 2
  | .iinc _ _ => 3
  | .goto _ => 3
  | .ifCond _ _ => 3
  | .if_icmp _ _ => 3
  | .tableswitch _ _ _ _ => r2
  | .getfield _ => 3
  | .putfield _ => 3
  | .invokestatic _ => 3
  | .invokevirtual _ => 3
  | _ => 1
def mm_okI (ρ : mm_Row) (pc : Nat) (i : Instr) (r1 r2 : Nat) (tg : List Nat) (im : Int32) : Bool := match i with
  | .iconst n => decide (Int32.ofInt n = im)
  | .bipush n => decide ((Int8.ofInt n).toInt32 = im)
  | .sipush n => decide ((Int16.ofInt n).toInt32 = im)
  | .ldc x => decide ((ρ.1, x, im) ∈ mm_CK)
  | .istore_n n => decide (n.val < ρ.2.2.2.1)
  | .istore n => decide (n < ρ.2.2.2.1)
  | .iinc j n => decide (Int32.ofInt n = im) && decide (j < ρ.2.2.2.1)
  | .goto off => decide ((pc : Int) + off = (r1 : Int))
  | .ifCond _ off => decide ((pc : Int) + off = (r1 : Int))
  | .if_icmp _ off => decide ((pc : Int) + off = (r1 : Int))
  | .tableswitch d lo hi offs => decide ((pc : Int) + d = (r1 : Int)) && decide (lo = 0) && decide (hi + 1 = (tg.length : Int)) && decide (offs.toList.map (fun o => (pc : Int) + o) = tg.map Int.ofNat) && decide (tg.length ≤ 100)
  | .ireturn => decide (¬ ρ.2.2.2.2.1 = none)
  | .return_ => decide (ρ.2.2.2.2.1 = none)
  | .getfield x => decide ((ρ.1, x, r1, r2) ∈ mm_FT)
  | .putfield x => decide ((ρ.1, x, r1, r2) ∈ mm_FT) && decide ((mm_T r1 r2).2.2.2 = false) && decide (parseFieldDescriptor (mm_T r1 r2).2.2.1 = some .int)
  | .invokestatic x => (match r1 with
    | 1000 => decide ((ρ.1, x, 1000) ∈ mm_SP) && decide (1 ≤ ρ.2.2.2.2.2.1)
    | 1001 => decide ((ρ.1, x, 1001) ∈ mm_SP) && decide (1 ≤ ρ.2.2.2.2.2.1)
    | 1002 => decide ((ρ.1, x, 1002) ∈ mm_SP) && decide (1 ≤ ρ.2.2.2.2.2.1)
    | k => (decide ((ρ.1, x, k) ∈ mm_CT) || decide ((ρ.1, x, k) ∈ mm_NT)) && decide ((mm_m k).2.2.2.2.2.1 < ρ.2.2.2.2.2.1) && decide ((mm_m k).2.2.2.2.2.2.1 = r2) && (mm_m k).2.2.2.2.2.2.2)
  | .invokevirtual x => decide ((ρ.1, x, r1) ∈ mm_CT) && decide ((mm_m r1).2.2.2.2.2.1 < ρ.2.2.2.2.2.1) && decide ((mm_m r1).2.2.2.2.2.2.1 = r2) && !(mm_m r1).2.2.2.2.2.2.2
  | _ => true
def mm_okc (ρ : mm_Row) : Nat → List mm_E → Bool
  | _, [] => true
  | pc, (none, t, _) :: _ => decide (t = pc)
  | pc, (some i, r1, r2, tg, im) :: cd => decide (decode ρ.2.2.1 pc = .ok (i, mm_len i r2)) && mm_okI ρ pc i r1 r2 tg im && mm_okc ρ (pc + mm_len i r2) cd
/-! the machine's side -/
def mm_lh (ad : Nat → Nat) (ls : Array Slot) (nL : Nat) (loc : mm_L) : Prop := ls.size = nL ∧ lv_wf ls ∧ ∀ (i : Nat) (v : Value), loc[i]? = some (some v) → ls[i]? = some (.val (mm_v ad v)) ∧ mm_c1 v = true
def mm_rm (ρ : mm_Row) : Room := { frames := ρ.2.2.2.2.2.1, cells := 0, slots := 0, locals := 48 * ρ.2.2.2.2.2.1 }
def mm_ws (ρ : mm_Row) : List Cond := .code ρ.2.1 ρ.2.2.1 ρ.2.2.2.1 ρ.2.2.2.2.1 :: mm_GW
def mm_Pre (Sh : List mm_C) (G : mm_G) (sz : Nat) (μ : mm_M) (U : State) : Prop := U.heap.size = sz ∧ va_P (G.1, G.2.1) vwCl (mm_cells G Sh μ) U.heap ∧ va_K (G.1, G.2.1) vwCl (mm_tys G) U ∧ va_D (fun _ => True) (mm_cells G Sh μ) ∧ ∀ q ∈ mm_NT, va_Nw (mm_nl q) U
def mm_B (Sh : List mm_C) (G : mm_G) (u : mm_M) (t : State) : Prop := va_P (G.1, G.2.1) vwCl (mm_cells G Sh u) t.heap
def mm_Qc (Sh : List mm_C) (G : mm_G) (ret : Option FieldType) (RI : Int32 → mm_M → Prop) (RV : mm_M → Prop) (A : Nat → Prop) : Array Value → State → Outcome → State → Prop := if ret = none then va_Qv RV (mm_B Sh G) A else va_Qi RI (mm_B Sh G) A
/-- a method's contract: called with these arguments over this memory it returns, with an answer and a memory of that kind -/
def mm_Cs (Sh : List mm_C) (k : Nat) (av : List Value) (μ : mm_M) (RI : Int32 → mm_M → Prop) (RV : mm_M → Prop) : Prop := ∀ (l : Launch) (G : mm_G) (sz : Nat), Met l (mm_m k).2.1 (mm_ws (mm_m k)) (mm_rm (mm_m k)) (va_Pc (av.map (mm_v G.2.2.1)) (mm_Pre Sh G sz μ)) (mm_Qc Sh G (mm_m k).2.2.2.2.1 RI RV (va_A (mm_cells G Sh μ) sz)) 0 0 (va_A (mm_cells G Sh μ) sz)
def mm_WX (Sh : List mm_C) (G : mm_G) (A : Nat → Prop) (nL : Nat) (p : Program) (l : Launch) (e : Env) (R : Room) (s : State) (m : MethodId) (args : Array Value) (below : List Frame) (meth : Method) (c : Code) (cells slots : Nat) (Q : State → Prop) (pc : Nat) (loc : mm_L) (st : List Value) (μ : mm_M) : Prop :=
  ∀ (H : Heap) (locs : List Loc) (ls : Array Slot), va_P (G.1, G.2.1) vwCl (mm_cells G Sh μ) H → va_S A s.heap H locs → mm_lh G.2.2.1 ls nL loc → W p l e R s m args below meth c H locs cells slots Q (F0 m pc ls (st.map (mm_v G.2.2.1)))
def mm_Cx (ρ : mm_Row) (Sh : List mm_C) (G : mm_G) (scr : Option (Nat × (Nat → Int32))) (A : Nat → Prop) (p : Program) (R : Room) (s : State) (m : MethodId) (args : Array Value) (c : Code) (cells slots : Nat) : Prop :=
  p.tables.exec = Jvm.exec ∧ c.code = ρ.2.2.1 ∧ c.maxLocals = ρ.2.2.2.1 ∧ s.vm.findClass (mm_R ρ.1) = some m.cls ∧ (∀ w ∈ mm_GW, w.before args s = true) ∧ (∀ q ∈ mm_NT, va_Nw (mm_nl q) s) ∧ va_K (G.1, G.2.1) vwCl (mm_tys G) s ∧ (∀ μ, va_D A (mm_cells G Sh μ)) ∧ (∀ q, s.heap.size ≤ q → A q) ∧ (ρ.2.2.2.2.2.1 ≤ R.frames ∧ 48 * ρ.2.2.2.2.2.1 ≤ R.locals) ∧ (cells ≤ R.cells ∧ slots ≤ R.slots) ∧ (∀ L xs, scr = some (L, xs) → va_X (G.2.2.1 999) L xs s s.heap ∧ G.2.2.1 999 < s.heap.size ∧ ¬ A (G.2.2.1 999))
/-! pure rows of the small machine -/
theorem mm_cells_get {G : mm_G} {Sh : List mm_C} {μ : mm_M} {k : Nat} {q : mm_C} (h : Sh[k]? = some q) : (mm_cells G Sh μ)[k]? = some (mm_cell G μ k q) := by
  unfold mm_cells
  rw [List.getElem?_mapIdx, h]
  rfl
theorem mm_cells_inv {G : mm_G} {Sh : List mm_C} {μ : mm_M} {k : Nat} {z : Nat × va_E} (h : (mm_cells G Sh μ)[k]? = some z) : ∃ q, Sh[k]? = some q ∧ z = mm_cell G μ k q := by
  unfold mm_cells at h
  rw [List.getElem?_mapIdx] at h
  cases hq : Sh[k]? with
  | none => rw [hq] at h; cases h
  | some q => rw [hq] at h; exact ⟨q, rfl, (Option.some.inj h).symm⟩
theorem mm_cell_ad {G : mm_G} {μ : mm_M} {k : Nat} {q : mm_C} : (mm_cell G μ k q).1 = G.2.2.1 k := by
  cases q <;> rfl
theorem mm_cells_set {G : mm_G} {Sh : List mm_C} {μ μ' : mm_M} {k : Nat} {q : mm_C} {z : Nat × va_E} (h : Sh[k]? = some q) (hz : z = mm_cell G μ' k q) (ho : ∀ j, j ≠ k → μ' j = μ j) : (mm_cells G Sh μ).set k z = mm_cells G Sh μ' := by
  apply List.ext_getElem?
  intro j
  rw [List.getElem?_set]
  by_cases hj : k = j
  · subst hj
    have hl : k < (mm_cells G Sh μ).length := (List.getElem?_eq_some_iff.mp (mm_cells_get (G := G) (μ := μ) h)).1
    rw [if_pos rfl, if_pos hl, mm_cells_get h, hz]
  · rw [if_neg hj]
    unfold mm_cells
    rw [List.getElem?_mapIdx, List.getElem?_mapIdx]
    cases hq : Sh[j]? with
    | none => rfl
    | some q =>
      show some _ = some _
      have e := ho j (fun h => hj h.symm)
      cases q with
      | inl q => simp only [mm_cell, e]
      | inr q => simp only [mm_cell, e]
theorem mm_wr_o {μ : mm_M} {c i : Nat} {x : Int32} : ∀ j, j ≠ c → mm_wr μ c i x j = μ j := fun j h => if_neg h
theorem mm_wr_s {μ : mm_M} {c i : Nat} {x : Int32} : mm_wr μ c i x c = upd (μ c) i x := if_pos rfl
theorem mm_cp_o {μ : mm_M} {a b sp dp n : Nat} : ∀ j, j ≠ b → mm_cp μ a b sp dp n j = μ j := fun j h => if_neg h
theorem mm_cp_s {μ : mm_M} {a b sp dp n : Nat} : mm_cp μ a b sp dp n b = va_cpy (μ a) (μ b) sp dp n := if_pos rfl
theorem mm_fs_set {ad : Nat → Nat} {row : Nat → Int32} {fs : List (Option Nat)} {k : Nat} {x : Int32} (h : fs[k]? = some none) : (fs.mapIdx (mm_fv ad row)).set k (.int x) = fs.mapIdx (mm_fv ad (upd row k x)) := by
  apply List.ext_getElem?
  intro j
  rw [List.getElem?_set]
  by_cases hj : k = j
  · subst hj
    have hl : k < (fs.mapIdx (mm_fv ad row)).length := by
      rw [List.length_mapIdx]; exact (List.getElem?_eq_some_iff.mp h).1
    rw [if_pos rfl, if_pos hl, List.getElem?_mapIdx, h]
    simp [mm_fv, upd]
  · rw [if_neg hj, List.getElem?_mapIdx, List.getElem?_mapIdx]
    cases hq : fs[j]? with
    | none => rfl
    | some f =>
      show some _ = some _
      cases f with
      | none =>
        have hj2 : ¬ j = k := fun h => hj h.symm
        simp [mm_fv, upd, hj2]
      | some r => rfl
theorem mm_v_cat {ad : Nat → Nat} {v : Value} (h : mm_c1 v = true) : (mm_v ad v).category = 1 := by
  cases v <;> first | rfl | cases h
theorem mm_s1_inv {st : List Value} {F : Int32 → List Value → Prop} (h : mm_s1 st F) : ∃ x s, st = .int x :: s ∧ F x s := by
  unfold mm_s1 at h
  split at h
  · exact ⟨_, _, rfl, h⟩
  · exact h.elim
theorem mm_s2_inv {st : List Value} {F : Int32 → Int32 → List Value → Prop} (h : mm_s2 st F) : ∃ x y s, st = .int y :: .int x :: s ∧ F x y s := by
  unfold mm_s2 at h
  split at h
  · exact ⟨_, _, _, rfl, h⟩
  · exact h.elim
theorem mm_li_inv {loc : mm_L} {i : Nat} {F : Int32 → Prop} (h : mm_li loc i F) : ∃ x, loc[i]? = some (some (.int x)) ∧ F x := by
  unfold mm_li at h
  split at h
  · next x hx => exact ⟨_, hx, h⟩
  · exact h.elim
theorem mm_lr_inv {loc : mm_L} {i : Nat} {F : Nat → Prop} (h : mm_lr loc i F) : ∃ x, loc[i]? = some (some (.ref x)) ∧ F x := by
  unfold mm_lr at h
  split at h
  · next x hx => exact ⟨_, hx, h⟩
  · exact h.elim
theorem mm_ar_inv {Sh : List mm_C} {c : Nat} {b : Bool} {i : Int32} {F : Prop} (h : mm_ar Sh c b i F) : ∃ n, Sh[c]? = some (.inl (b, n)) ∧ vp_in i n ∧ F := by
  unfold mm_ar at h
  split at h
  · next q hq => obtain ⟨rfl, h1, h2⟩ := h; exact ⟨q.2, hq, h1, h2⟩
  · exact h.elim
theorem mm_al2_inv {Sh : List mm_C} {c : Nat} {F : Nat → Prop} (h : mm_al2 Sh c F) : ∃ n, Sh[c]? = some (.inl (false, n)) ∧ F n := by
  unfold mm_al2 at h
  split at h
  · next q hq =>
    obtain ⟨h1, h2⟩ := h
    refine ⟨q.2, ?_, h2⟩
    rw [hq, ← h1]
  · exact h.elim
theorem mm_pf_inv {Sh : List mm_C} {c ci k : Nat} {F : Prop} (h : mm_pf Sh c ci k F) : ∃ fs, Sh[c]? = some (.inr (ci, fs)) ∧ fs[k]? = some none ∧ F := by
  unfold mm_pf at h
  split at h
  · next q hq => obtain ⟨rfl, h1, h2⟩ := h; exact ⟨q.2, hq, h1, h2⟩
  · exact h.elim
theorem mm_gf_inv {Sh : List mm_C} {μ : mm_M} {c ci k : Nat} {F : Value → Prop} (h : mm_gf Sh μ c ci k F) : ∃ fs, Sh[c]? = some (.inr (ci, fs)) ∧ ((fs[k]? = some none ∧ F (.int (μ c k))) ∨ ∃ r, fs[k]? = some (some r) ∧ F (.ref r)) := by
  unfold mm_gf at h
  split at h
  · next q hq =>
    obtain ⟨rfl, h⟩ := h
    refine ⟨q.2, hq, ?_⟩
    split at h
    · next hk => exact Or.inl ⟨hk, h⟩
    · next r hk => exact Or.inr ⟨r, hk, h⟩
    · exact h.elim
  · exact h.elim
theorem mm_rc_inv {Sh : List mm_C} {ci : Nat} {av : List Value} (h : mm_rc Sh ci av) : ∃ c as fs, av = .ref c :: as ∧ Sh[c]? = some (.inr (ci, fs)) := by
  unfold mm_rc at h
  split at h
  · next c as =>
    split at h
    · next q hq => subst h; exact ⟨c, as, q.2, rfl, hq⟩
    · exact h.elim
  · exact h.elim
end
section
/-! locals -/
def mm_al (ad : Nat → Nat) (loc : mm_L) : List (Nat × Value) := (List.range loc.length).filterMap (fun i => match loc[i]? with
  | some (some v) => some (i, mm_v ad v)
  | _ => none)
theorem mm_al_in {ad : Nat → Nat} {loc : mm_L} {i : Nat} {v : Value} (h : loc[i]? = some (some v)) : (i, mm_v ad v) ∈ mm_al ad loc := by
  refine List.mem_filterMap.mpr ⟨i, List.mem_range.mpr (List.getElem?_eq_some_iff.mp h).1, ?_⟩
  rw [h]
theorem mm_al_inv {ad : Nat → Nat} {loc : mm_L} {q : Nat × Value} (h : q ∈ mm_al ad loc) : ∃ v, loc[q.1]? = some (some v) ∧ q.2 = mm_v ad v := by
  obtain ⟨i, -, hi⟩ := List.mem_filterMap.mp h
  split at hi
  · next v hv => obtain rfl := Option.some.inj hi; exact ⟨v, hv, rfl⟩
  · cases hi
theorem mm_lh_has {ad : Nat → Nat} {ls : Array Slot} {nL : Nat} {loc : mm_L} (h : mm_lh ad ls nL loc) : lv_has ls nL (mm_al ad loc) := ⟨h.1, h.2.1, fun q hq => by
  obtain ⟨v, h1, h2⟩ := mm_al_inv hq
  rw [h2]
  exact (h.2.2 _ _ h1).1⟩
theorem mm_lh_set {ad : Nat → Nat} {ls ls' : Array Slot} {nL i : Nat} {loc : mm_L} {w : Int32} (h : mm_lh ad ls nL loc) (h' : lv_has ls' nL ((i, Value.int w) :: (mm_al ad loc).filter (fun q => !(q.1 == i) && !(q.1 + 1 == i && q.2.category == 2)))) : mm_lh ad ls' nL (loc.set i (some (.int w))) := by
  refine ⟨h'.1, h'.2.1, fun j v hj => ?_⟩
  rw [List.getElem?_set] at hj
  by_cases hij : i = j
  · subst hij
    rw [if_pos rfl] at hj
    split at hj
    · obtain rfl := Option.some.inj (Option.some.inj hj)
      exact ⟨h'.2.2 (i, .int w) List.mem_cons_self, rfl⟩
    · cases hj
  · rw [if_neg hij] at hj
    have hc := (h.2.2 j v hj).2
    refine ⟨h'.2.2 (j, mm_v ad v) (List.mem_cons_of_mem _ (List.mem_filter.mpr ⟨mm_al_in hj, ?_⟩)), hc⟩
    have h1 : (mm_v ad v).category = 1 := mm_v_cat hc
    have h2 : (j == i) = false := beq_eq_false_iff_ne.mpr (fun h => hij h.symm)
    show (!(j == i) && !(j + 1 == i && (mm_v ad v).category == 2)) = true
    rw [h1, h2]
    simp
theorem mm_narb {x : Int32} (h : x &&& 1 = x) : narrow .boolean (.int x) = .int x := by
  show Value.int (x &&& 1) = .int x
  rw [h]
theorem mm_map_rev {ad : Nat → Nat} (st : List Value) (n : Nat) : st.map (mm_v ad) = ((st.take n).reverse.map (mm_v ad)).reverse ++ (st.drop n).map (mm_v ad) := by
  rw [List.map_reverse, List.reverse_reverse, ← List.map_append, List.take_append_drop]
theorem mm_cat_le {ad : Nat → Nat} : ∀ (st : List Value), st.all mm_c1 = true → ((st.map (mm_v ad)).map fun v => v.category).sum = st.length
  | [], _ => rfl
  | v :: st, h => by
    simp only [List.all_cons, Bool.and_eq_true] at h
    simp only [List.map_cons, List.sum_cons, List.length_cons, mm_v_cat h.1, mm_cat_le st h.2]
    omega
theorem mm_cb_inv {n : Nat} {st : List Value} (h : mm_cb n st = true) : n ≤ st.length ∧ st.all mm_c1 = true ∧ st.length ≤ 8 := by
  simp only [mm_cb, Bool.and_eq_true, decide_eq_true_eq] at h
  exact ⟨h.1.1, h.1.2, h.2⟩
theorem mm_drop_all {n : Nat} {st : List Value} (h : st.all mm_c1 = true) : (st.drop n).all mm_c1 = true := by
  rw [List.all_eq_true] at h ⊢
  exact fun v hv => h v (List.mem_of_mem_drop hv)
section SND
variable {ρ : mm_Row} {Sh : List mm_C} {G : mm_G} {scr : Option (Nat × (Nat → Int32))} {A : Nat → Prop} {p : Program} {l : Launch} {e : Env} {R : Room} {s : State} {m : MethodId} {args : Array Value} {below : List Frame} {meth : Method} {c : Code} {cells slots : Nat} {Q : State → Prop}
variable {pc : Nat} {loc : mm_L} {st : List Value} {μ : mm_M}
/-- storing a number -/
theorem ms_istore_n (C0 : mm_Cx ρ Sh G scr A p R s m args c cells slots) {n : Fin 4} {x : Int32} (hd : decode ρ.2.2.1 pc = .ok (.istore_n n, 1)) (hn : n.val < ρ.2.2.2.1) (k : mm_WX Sh G A ρ.2.2.2.1 p l e R s m args below meth c cells slots Q (pc + 1) (loc.set n.val (some (.int x))) st μ) : mm_WX Sh G A ρ.2.2.2.1 p l e R s m args below meth c cells slots Q pc loc (.int x :: st) μ := by
  obtain ⟨hx, hb, -⟩ := C0
  intro H locs ls hP hS hl
  exact lv_istore_n hx hb hd rfl (mm_lh_has hl) hn rfl (fun ls' hl' => k H locs ls' hP hS (mm_lh_set hl hl'))
theorem ms_istore (C0 : mm_Cx ρ Sh G scr A p R s m args c cells slots) {n : Nat} {x : Int32} (hd : decode ρ.2.2.1 pc = .ok (.istore n, 2)) (hn : n < ρ.2.2.2.1) (k : mm_WX Sh G A ρ.2.2.2.1 p l e R s m args below meth c cells slots Q (pc + 2) (loc.set n (some (.int x))) st μ) : mm_WX Sh G A ρ.2.2.2.1 p l e R s m args below meth c cells slots Q pc loc (.int x :: st) μ := by
  obtain ⟨hx, hb, -⟩ := C0
  intro H locs ls hP hS hl
  exact lv_istore hx hb hd (mm_lh_has hl) hn rfl (fun ls' hl' => k H locs ls' hP hS (mm_lh_set hl hl'))
theorem ms_iinc (C0 : mm_Cx ρ Sh G scr A p R s m args c cells slots) {n : Nat} {z : Int} {x im : Int32} (hd : decode ρ.2.2.1 pc = .ok (.iinc n z, 3)) (hz : Int32.ofInt z = im) (hn : n < ρ.2.2.2.1) (hx0 : loc[n]? = some (some (.int x))) (k : mm_WX Sh G A ρ.2.2.2.1 p l e R s m args below meth c cells slots Q (pc + 3) (loc.set n (some (.int (x + im)))) st μ) : mm_WX Sh G A ρ.2.2.2.1 p l e R s m args below meth c cells slots Q pc loc st μ := by
  obtain ⟨hx, hb, -⟩ := C0
  intro H locs ls hP hS hl
  obtain ⟨j, hj⟩ := List.getElem?_of_mem (mm_al_in (ad := G.2.2.1) hx0)
  exact lv_iinc (v := x + im) hx hb hd (mm_lh_has hl) (k := j) hj (by rw [hz]) hn rfl (fun ls' hl' => k H locs ls' hP hS (mm_lh_set hl hl'))
/-- reading and writing fields -/
theorem ms_get (C0 : mm_Cx ρ Sh G scr A p R s m args c cells slots) {x r1 r2 a : Nat} {fs : List (Option Nat)} {f : Option Nat} (hd : decode ρ.2.2.1 pc = .ok (.getfield x, 3)) (hf : (ρ.1, x, r1, r2) ∈ mm_FT) (ha : Sh[a]? = some (.inr (r1, fs))) (hv : fs[r2]? = some f) (k : mm_WX Sh G A ρ.2.2.2.1 p l e R s m args below meth c cells slots Q (pc + 3) loc (mm_gv μ a r2 f :: st) μ) : mm_WX Sh G A ρ.2.2.2.1 p l e R s m args below meth c cells slots Q pc loc (.ref a :: st) μ := by
  obtain ⟨hx, hb, hml, hown, hts, hN, hK, hD, hA, hR, hcs, hX⟩ := C0
  obtain ⟨hw, h9, hk⟩ := mm_ft_ok hf
  intro H locs ls hP hS hl
  refine va_get (D := (G.1, G.2.1)) (ci := r1) (v := mm_fv G.2.2.1 (μ a) r2 f) (C := mm_R r1) (T := mm_T r1) (N := mm_N r1) hx hb hts (mm_lay h9) hown hK hP a (fs := fs.mapIdx (mm_fv G.2.2.1 (μ a))) (mm_cells_get ha) (mm_cl h9) r2 hk (hts _ hw) (fun _ h => h) (by rw [List.getElem?_mapIdx, hv]; rfl) hd ?_
  have := k H locs ls hP hS hl
  cases f <;> exact this
theorem ms_put (C0 : mm_Cx ρ Sh G scr A p R s m args c cells slots) {x r1 r2 a : Nat} {fs : List (Option Nat)} {z : Int32} (hd : decode ρ.2.2.1 pc = .ok (.putfield x, 3)) (hf : (ρ.1, x, r1, r2) ∈ mm_FT) (hfin : (mm_T r1 r2).2.2.2 = false) (hty : parseFieldDescriptor (mm_T r1 r2).2.2.1 = some .int) (ha : Sh[a]? = some (.inr (r1, fs))) (hv : fs[r2]? = some none) (k : mm_WX Sh G A ρ.2.2.2.1 p l e R s m args below meth c cells slots Q (pc + 3) loc st (mm_wr μ a r2 z)) : mm_WX Sh G A ρ.2.2.2.1 p l e R s m args below meth c cells slots Q pc loc (.int z :: .ref a :: st) μ := by
  obtain ⟨hx, hb, hml, hown, hts, hN, hK, hD, hA, hR, hcs, hX⟩ := C0
  obtain ⟨hw, h9, hk⟩ := mm_ft_ok hf
  intro H locs ls hP hS hl
  have hset : (mm_cells G Sh μ).set a (G.2.2.1 a, .inr (r1, (fs.mapIdx (mm_fv G.2.2.1 (μ a))).set r2 (.int z))) = mm_cells G Sh (mm_wr μ a r2 z) := mm_cells_set ha (by rw [mm_fs_set hv]; simp only [mm_cell, mm_wr_s]) mm_wr_o
  refine va_put (D := (G.1, G.2.1)) (ci := r1) (v := .int z) (ty := .int) (C := mm_R r1) (T := mm_T r1) (N := mm_N r1) hx hb hts (mm_lay h9) (mm_ty r1) (mm_tyok h9) (mm_nm h9) hown hK hP (hD μ) hS a (fs := fs.mapIdx (mm_fv G.2.2.1 (μ a))) (mm_cells_get ha) (mm_cl h9) r2 hk (hts _ hw) (fun _ h => h) hfin hty rfl rfl (by rw [List.length_mapIdx]; exact (List.getElem?_eq_some_iff.mp hv).1) hd (fun H1 locs1 hP1 hD1 hS1 => ?_)
  rw [hset] at hP1
  exact k H1 locs1 ls hP1 hS1 hl
/-- arrays -/
theorem ms_iald (C0 : mm_Cx ρ Sh G scr A p R s m args c cells slots) {a n : Nat} {i : Int32} (hd : decode ρ.2.2.1 pc = .ok (.iaload, 1)) (ha : Sh[a]? = some (.inl (false, n))) (hi : vp_in i n) (k : mm_WX Sh G A ρ.2.2.2.1 p l e R s m args below meth c cells slots Q (pc + 1) loc (.int (μ a i.toNatClampNeg) :: st) μ) : mm_WX Sh G A ρ.2.2.2.1 p l e R s m args below meth c cells slots Q pc loc (.int i :: .ref a :: st) μ := by
  obtain ⟨hx, hb, hml, hown, hts, hN, hK, hD, hA, hR, hcs, hX⟩ := C0
  intro H locs ls hP hS hl
  exact va_iald hx hb hK hP a 0 (cA := G.2.2.2.1) (n := n) (f := μ a) (mm_cells_get ha) rfl hi hd (k H locs ls hP hS hl)
theorem ms_zald (C0 : mm_Cx ρ Sh G scr A p R s m args c cells slots) {a n : Nat} {i : Int32} (hd : decode ρ.2.2.1 pc = .ok (.baload, 1)) (ha : Sh[a]? = some (.inl (true, n))) (hi : vp_in i n) (k : mm_WX Sh G A ρ.2.2.2.1 p l e R s m args below meth c cells slots Q (pc + 1) loc (.int (μ a i.toNatClampNeg) :: st) μ) : mm_WX Sh G A ρ.2.2.2.1 p l e R s m args below meth c cells slots Q pc loc (.int i :: .ref a :: st) μ := by
  obtain ⟨hx, hb, hml, hown, hts, hN, hK, hD, hA, hR, hcs, hX⟩ := C0
  intro H locs ls hP hS hl
  exact va_zald hx hb hK hP a 1 (cA := G.2.2.2.2) (n := n) (f := μ a) (mm_cells_get ha) rfl hi hd (k H locs ls hP hS hl)
theorem ms_iast (C0 : mm_Cx ρ Sh G scr A p R s m args c cells slots) {a n : Nat} {i x : Int32} (hd : decode ρ.2.2.1 pc = .ok (.iastore, 1)) (ha : Sh[a]? = some (.inl (false, n))) (hi : vp_in i n) (k : mm_WX Sh G A ρ.2.2.2.1 p l e R s m args below meth c cells slots Q (pc + 1) loc st (mm_wr μ a i.toNatClampNeg x)) : mm_WX Sh G A ρ.2.2.2.1 p l e R s m args below meth c cells slots Q pc loc (.int x :: .int i :: .ref a :: st) μ := by
  obtain ⟨hx, hb, hml, hown, hts, hN, hK, hD, hA, hR, hcs, hX⟩ := C0
  intro H locs ls hP hS hl
  have hset : (mm_cells G Sh μ).set a (G.2.2.1 a, .inl (G.2.2.2.1, n, .inl (upd (μ a) i.toNatClampNeg x))) = mm_cells G Sh (mm_wr μ a i.toNatClampNeg x) := mm_cells_set ha (by simp only [mm_cell, mm_wr_s]; rfl) mm_wr_o
  refine va_iast hx hb hK hP (hD μ) hS a 0 (cA := G.2.2.2.1) (n := n) (f := μ a) (mm_cells_get ha) rfl hi hd (fun H1 locs1 hP1 hD1 hS1 => ?_)
  rw [hset] at hP1
  exact k H1 locs1 ls hP1 hS1 hl
theorem ms_zast (C0 : mm_Cx ρ Sh G scr A p R s m args c cells slots) {a n : Nat} {i x : Int32} (hd : decode ρ.2.2.1 pc = .ok (.bastore, 1)) (ha : Sh[a]? = some (.inl (true, n))) (hi : vp_in i n) (hxx : x &&& 1 = x) (k : mm_WX Sh G A ρ.2.2.2.1 p l e R s m args below meth c cells slots Q (pc + 1) loc st (mm_wr μ a i.toNatClampNeg x)) : mm_WX Sh G A ρ.2.2.2.1 p l e R s m args below meth c cells slots Q pc loc (.int x :: .int i :: .ref a :: st) μ := by
  obtain ⟨hx, hb, hml, hown, hts, hN, hK, hD, hA, hR, hcs, hX⟩ := C0
  intro H locs ls hP hS hl
  have hset : (mm_cells G Sh μ).set a (G.2.2.1 a, .inl (G.2.2.2.2, n, .inl (upd (μ a) i.toNatClampNeg x))) = mm_cells G Sh (mm_wr μ a i.toNatClampNeg x) := mm_cells_set ha (by simp only [mm_cell, mm_wr_s]; rfl) mm_wr_o
  have hnar : vp_nar .boolean x = x := by
    show (x &&& 1) = x
    exact hxx
  refine va_zast hx hb hK hP (hD μ) hS a 1 (cA := G.2.2.2.2) (n := n) (f := μ a) (mm_cells_get ha) rfl hi hd (fun H1 locs1 hP1 hD1 hS1 => ?_)
  rw [hnar, hset] at hP1
  exact k H1 locs1 ls hP1 hS1 hl
theorem ms_cpy (C0 : mm_Cx ρ Sh G scr A p R s m args c cells slots) {x a d na nd : Nat} {sp dp n : Int32} (hd : decode ρ.2.2.1 pc = .ok (.invokestatic x, 3)) (hsp : (ρ.1, x, 1002) ∈ mm_SP) (hdep : 1 ≤ ρ.2.2.2.2.2.1) (hcb : mm_cb 0 st = true) (ha : Sh[a]? = some (.inl (false, na))) (hb1 : Sh[d]? = some (.inl (false, nd))) (h1 : ¬ sp < 0) (h2 : ¬ dp < 0) (h3 : ¬ n < 0) (h4 : sp.toNatClampNeg + n.toNatClampNeg ≤ na) (h5 : dp.toNatClampNeg + n.toNatClampNeg ≤ nd)
    (k : mm_WX Sh G A ρ.2.2.2.1 p l e R s m args below meth c cells slots Q (pc + 3) loc st (mm_cp μ a d sp.toNatClampNeg dp.toNatClampNeg n.toNatClampNeg)) : mm_WX Sh G A ρ.2.2.2.1 p l e R s m args below meth c cells slots Q pc loc (.int n :: .int dp :: .ref d :: .int sp :: .ref a :: st) μ := by
  obtain ⟨hx, hb, hml, hown, hts, hN, hK, hD, hA, hR, hcs, hX⟩ := C0
  obtain ⟨-, hc1, hc8⟩ := mm_cb_inv hcb
  intro H locs ls hP hS hl
  have hlink := mm_sp_ok _ hsp
  have hset : (mm_cells G Sh μ).set d (G.2.2.1 d, .inl (G.2.2.2.1, nd, .inl (va_cpy (μ a) (μ d) sp.toNatClampNeg dp.toNatClampNeg n.toNatClampNeg))) = mm_cells G Sh (mm_cp μ a d sp.toNatClampNeg dp.toNatClampNeg n.toNatClampNeg) := mm_cells_set hb1 (by simp only [mm_cell, mm_cp_s]; rfl) mm_cp_o
  refine va_copyi hx hb (by rw [hml, hl.1]) hown (hts _ hlink) (hts _ mm_cpy_w.1) (hts _ mm_cpy_w.2.1) (hts _ mm_cpy_w.2.2) hK hP (hD μ) hS a d 0 0 (a0 := G.2.2.1 a) (c0 := G.2.2.2.1) (c1 := G.2.2.2.1) (n0 := na) (n1 := nd) (f := μ a) (g := μ d) (ty := .int) (mm_cells_get ha) (mm_cells_get hb1) rfl rfl rfl h1 h2 h3 h4 h5 (fun _ _ => rfl) (by have := hR.1; omega) ?_ hd (fun H1 locs1 hP1 hD1 hS1 => ?_)
  · rw [mm_cat_le _ hc1]
    have h48 := hR.2
    have : nativeFrameWords "java/lang/System" "arraycopy" 5 = 7 := by decide +kernel
    rw [this]
    omega
  · rw [hset] at hP1
    exact k H1 locs1 ls hP1 hS1 hl
theorem ms_min (C0 : mm_Cx ρ Sh G scr A p R s m args c cells slots) {q : Nat} {x y : Int32} (hd : decode ρ.2.2.1 pc = .ok (.invokestatic q, 3)) (hsp : (ρ.1, q, 1000) ∈ mm_SP) (hdep : 1 ≤ ρ.2.2.2.2.2.1) (hcb : mm_cb 0 st = true)
    (k : mm_WX Sh G A ρ.2.2.2.1 p l e R s m args below meth c cells slots Q (pc + 3) loc (.int (if y < x then y else x) :: st) μ) : mm_WX Sh G A ρ.2.2.2.1 p l e R s m args below meth c cells slots Q pc loc (.int y :: .int x :: st) μ := by
  obtain ⟨hx, hb, hml, hown, hts, hN, hK, hD, hA, hR, hcs, hX⟩ := C0
  obtain ⟨-, hc1, hc8⟩ := mm_cb_inv hcb
  intro H locs ls hP hS hl
  have hlink := mm_sp_ok _ hsp
  refine va_mmin hx hb (by rw [hml, hl.1]) hown (hts _ hlink) (hts _ mm_min_w.1) (hts _ mm_min_w.2.1) (hts _ mm_min_w.2.2) (by have := hR.1; omega) ?_ hcs.1 hcs.2 hd (k H locs ls hP hS hl)
  rw [mm_cat_le _ hc1]
  have h48 := hR.2
  omega
theorem ms_max (C0 : mm_Cx ρ Sh G scr A p R s m args c cells slots) {q : Nat} {x y : Int32} (hd : decode ρ.2.2.1 pc = .ok (.invokestatic q, 3)) (hsp : (ρ.1, q, 1001) ∈ mm_SP) (hdep : 1 ≤ ρ.2.2.2.2.2.1) (hcb : mm_cb 0 st = true)
    (k : mm_WX Sh G A ρ.2.2.2.1 p l e R s m args below meth c cells slots Q (pc + 3) loc (.int (if x < y then y else x) :: st) μ) : mm_WX Sh G A ρ.2.2.2.1 p l e R s m args below meth c cells slots Q pc loc (.int y :: .int x :: st) μ := by
  obtain ⟨hx, hb, hml, hown, hts, hN, hK, hD, hA, hR, hcs, hX⟩ := C0
  obtain ⟨-, hc1, hc8⟩ := mm_cb_inv hcb
  intro H locs ls hP hS hl
  have hlink := mm_sp_ok _ hsp
  refine va_mmax hx hb (by rw [hml, hl.1]) hown (hts _ hlink) (hts _ mm_max_w.1) (hts _ mm_max_w.2.1) (hts _ mm_max_w.2.2) (by have := hR.1; omega) ?_ hcs.1 hcs.2 hd (k H locs ls hP hS hl)
  rw [mm_cat_le _ hc1]
  have h48 := hR.2
  omega
/-- the script -/
theorem ms_sld (C0 : mm_Cx ρ Sh G scr A p R s m args c cells slots) {L : Nat} {xs : Nat → Int32} {i : Int32} (hd : decode ρ.2.2.1 pc = .ok (.iaload, 1)) (hs : scr = some (L, xs)) (hi : vp_in i L) (k : mm_WX Sh G A ρ.2.2.2.1 p l e R s m args below meth c cells slots Q (pc + 1) loc (.int (xs i.toNatClampNeg) :: st) μ) : mm_WX Sh G A ρ.2.2.2.1 p l e R s m args below meth c cells slots Q pc loc (.int i :: .ref 999 :: st) μ := by
  obtain ⟨hx, hb, hml, hown, hts, hN, hK, hD, hA, hR, hcs, hX⟩ := C0
  obtain ⟨h1, h2, h3⟩ := hX L xs hs
  intro H locs ls hP hS hl
  exact va_sld hx hb h1 h2 h3 hS hi hd (k H locs ls hP hS hl)
theorem ms_slen (C0 : mm_Cx ρ Sh G scr A p R s m args c cells slots) {L : Nat} {xs : Nat → Int32} (hd : decode ρ.2.2.1 pc = .ok (.arraylength, 1)) (hs : scr = some (L, xs)) (k : mm_WX Sh G A ρ.2.2.2.1 p l e R s m args below meth c cells slots Q (pc + 1) loc (.int (Int32.ofNat L) :: st) μ) : mm_WX Sh G A ρ.2.2.2.1 p l e R s m args below meth c cells slots Q pc loc (.ref 999 :: st) μ := by
  obtain ⟨hx, hb, hml, hown, hts, hN, hK, hD, hA, hR, hcs, hX⟩ := C0
  obtain ⟨h1, h2, h3⟩ := hX L xs hs
  intro H locs ls hP hS hl
  exact va_slen hx hb h1 h2 h3 hS hd (k H locs ls hP hS hl)
end SND
end
section
theorem mm_blind {av : List Value} {Sh : List mm_C} {G : mm_G} {sz : Nat} {μ : mm_M} : FrameBlind (va_Pc av (mm_Pre Sh G sz μ)) := fun a U g mk q => by
  obtain ⟨q0, q1, qP, qK, qD, qN⟩ := q
  exact ⟨q0, q1, qP, va_K.moved (u := U) (U := U.calling g mk a) (Vm.Alike.refl U.vm) qK, qD, fun w hw => va_Nw.same rfl rfl (qN w hw)⟩
section SND
variable {ρ : mm_Row} {Sh : List mm_C} {G : mm_G} {scr : Option (Nat × (Nat → Int32))} {A : Nat → Prop} {p : Program} {l : Launch} {e : Env} {R : Room} {s : State} {m : MethodId} {args : Array Value} {below : List Frame} {meth : Method} {c : Code} {cells slots : Nat} {Q : State → Prop}
variable {pc : Nat} {loc : mm_L} {st : List Value} {μ : mm_M}
theorem ms_pre (C0 : mm_Cx ρ Sh G scr A p R s m args c cells slots) {H : Heap} (hP : va_P (G.1, G.2.1) vwCl (mm_cells G Sh μ) H) : ∀ U : State, U.heap = H → s.WarmedH U.vm → mm_Pre Sh G H.size μ U := by
  obtain ⟨hx, hb, hml, hown, hts, hN, hK, hD, hA, hR, hcs, hX⟩ := C0
  intro U hU hW
  exact ⟨by rw [hU], by rw [hU]; exact hP, va_K.moved hW.alike hK, (hD μ).weaken (fun _ _ _ _ => trivial), fun q hq => va_Nw.warmM hW (hN q hq)⟩
theorem ms_free (C0 : mm_Cx ρ Sh G scr A p R s m args c cells slots) {H : Heap} {locs : List Loc} (hS : va_S A s.heap H locs) : ∀ q, va_A (mm_cells G Sh μ) H.size q → A q := by
  obtain ⟨hx, hb, hml, hown, hts, hN, hK, hD, hA, hR, hcs, hX⟩ := C0
  intro q h
  rcases h with ⟨k, z, h⟩ | h
  · exact (hD μ).2 k (q, z) h
  · exact hA q (Nat.le_trans hS.1 h)
theorem ms_after (C0 : mm_Cx ρ Sh G scr A p R s m args c cells slots) {H : Heap} {locs : List Loc} {ls : Array Slot} {rest : List Value} {ret : Option FieldType} {RI : Int32 → mm_M → Prop} {RV : mm_M → Prop} {a : Array Value} {st0 : List Value} (hS : va_S A s.heap H locs) (hl : mm_lh G.2.2.1 ls ρ.2.2.2.1 loc)
    (run : va_Run p l e R s m args below meth c H locs cells slots 0 0 (F0 m pc ls st0) (rest.map (mm_v G.2.2.1)) (mm_Qc Sh G ret RI RV (va_A (mm_cells G Sh μ) H.size) a) (va_A (mm_cells G Sh μ) H.size))
    (kI : ∀ r μ', RI r μ' → mm_WX Sh G A ρ.2.2.2.1 p l e R s m args below meth c cells slots Q (pc + 3) loc (.int r :: rest) μ') (kV : ∀ μ', RV μ' → mm_WX Sh G A ρ.2.2.2.1 p l e R s m args below meth c cells slots Q (pc + 3) loc rest μ') : W p l e R s m args below meth c H locs cells slots Q (F0 m pc ls st0) := by
  have hF := ms_free (μ := μ) C0 hS
  by_cases hr : ret = none
  · rw [mm_Qc, if_pos hr] at run
    exact va_callv run hS (fun q _ h => hF q h) hF (fun u t H1 locs1 ht hvm hw hB hz1 hk1 hS1 => kV u hw H1 locs1 ls (by rw [← ht]; exact hB) hS1 hl)
  · rw [mm_Qc, if_neg hr] at run
    exact va_calli run hS (fun q _ h => hF q h) hF (fun r u t H1 locs1 ht hvm hw hB hz1 hk1 hS1 => kI r u hw H1 locs1 ls (by rw [← ht]; exact hB) hS1 hl)
theorem ms_callS (C0 : mm_Cx ρ Sh G scr A p R s m args c cells slots) {x k n : Nat} {RI : Int32 → mm_M → Prop} {RV : mm_M → Prop} (hd : decode ρ.2.2.1 pc = .ok (.invokestatic x, 3)) (hct : (ρ.1, x, k) ∈ mm_CT ∨ (ρ.1, x, k) ∈ mm_NT) (hdep : (mm_m k).2.2.2.2.2.1 < ρ.2.2.2.2.2.1) (hn : (mm_m k).2.2.2.2.2.2.1 = n) (hst : (mm_m k).2.2.2.2.2.2.2 = true) (hcb : mm_cb n st = true) (hC : mm_Cs Sh k (st.take n).reverse μ RI RV)
    (kI : ∀ r μ', RI r μ' → mm_WX Sh G A ρ.2.2.2.1 p l e R s m args below meth c cells slots Q (pc + 3) loc (.int r :: st.drop n) μ') (kV : ∀ μ', RV μ' → mm_WX Sh G A ρ.2.2.2.1 p l e R s m args below meth c cells slots Q (pc + 3) loc (st.drop n) μ') : mm_WX Sh G A ρ.2.2.2.1 p l e R s m args below meth c cells slots Q pc loc st μ := by
  intro H locs ls hP hS hl
  have hpre := ms_pre C0 hP
  have C1 := C0
  obtain ⟨hx, hb, hml, hown, hts, hN, hK, hD, hA, hR, hcs, hX⟩ := C0
  obtain ⟨o1, o2, o3, o4, o5, o6, o7, o8, o9, o10, o11⟩ := mm_mok k
  rw [hst, hn] at o7
  obtain ⟨hc0, hc1, hc8⟩ := mm_cb_inv hcb
  have hM := hC l G H.size
  have hG : GoodIn mm_GW (mm_ws (mm_m k)) := mm_gw_good (fun w hw => (List.mem_cons.mp hw).elim (fun h => h ▸ o1) (fun h => h))
  have hRm : (mm_rm (mm_m k)).frames + 1 ≤ R.frames ∧ 8 + ((mm_m k).2.2.2.1 + 11) + (mm_rm (mm_m k)).locals ≤ R.locals := by
    have h1 := hR.1
    have h2 := hR.2
    constructor
    · show (mm_m k).2.2.2.2.2.1 + 1 ≤ R.frames
      omega
    · show 8 + ((mm_m k).2.2.2.1 + 11) + 48 * (mm_m k).2.2.2.2.2.1 ≤ R.locals
      omega
  have hlen : ((st.take n).reverse.map (mm_v G.2.2.1)).length = n := by
    simp; omega
  have hW8 : 2 * (F0 m pc ls (st.map (mm_v G.2.2.1))).monitorRoom + (((st.drop n).map (mm_v G.2.2.1)).map fun v => v.category).sum ≤ 8 := by
    rw [mm_cat_le _ (mm_drop_all hc1), List.length_drop]
    show 2 * 0 + _ ≤ 8
    omega
  refine ms_after (μ := μ) (ret := (mm_m k).2.2.2.2.1) (a := ((st.take n).reverse.map (mm_v G.2.2.1)).toArray) C1 hS hl ?_ kI kV
  · rcases hct with h | h
    · exact va_runS (Ts := mm_GW) (own := mm_R ρ.1) ⟨hx, hb, hml, hown, hts⟩ hM ⟨callB_of n hts hG rfl rfl rfl (hts _ o2) (hts _ (mm_ct_ok h)) o7 hRm, hts _ (o3 hst)⟩ ⟨mm_blind, fun U hU hW => ⟨rfl, hpre U hU hW⟩⟩ rfl hlen hl.1 (mm_map_rev st n) hW8 hd ⟨hcs.1, hcs.2⟩
    · exact va_runSN (Ts := mm_GW) (own := mm_R ρ.1) (host := "FishTins") ⟨hx, hb, hml, hown, hts⟩ hM ⟨va_cnB n hts hG rfl rfl rfl (hN _ h) (hts _ o2) o7 hRm, hts _ (o3 hst), trivial⟩ ⟨mm_blind, fun U hU hW => ⟨rfl, hpre U hU hW⟩⟩ rfl hlen hl.1 (mm_map_rev st n) hW8 hd ⟨hcs.1, hcs.2⟩
theorem ms_callV (C0 : mm_Cx ρ Sh G scr A p R s m args c cells slots) {x k n : Nat} {RI : Int32 → mm_M → Prop} {RV : mm_M → Prop} (hd : decode ρ.2.2.1 pc = .ok (.invokevirtual x, 3)) (hct : (ρ.1, x, k) ∈ mm_CT) (hdep : (mm_m k).2.2.2.2.2.1 < ρ.2.2.2.2.2.1) (hn : (mm_m k).2.2.2.2.2.2.1 = n) (hst : (mm_m k).2.2.2.2.2.2.2 = false) (hcb : mm_cb n st = true) (hrc : mm_rc Sh (mm_m k).1 (st.take n).reverse) (hC : mm_Cs Sh k (st.take n).reverse μ RI RV)
    (kI : ∀ r μ', RI r μ' → mm_WX Sh G A ρ.2.2.2.1 p l e R s m args below meth c cells slots Q (pc + 3) loc (.int r :: st.drop n) μ') (kV : ∀ μ', RV μ' → mm_WX Sh G A ρ.2.2.2.1 p l e R s m args below meth c cells slots Q (pc + 3) loc (st.drop n) μ') : mm_WX Sh G A ρ.2.2.2.1 p l e R s m args below meth c cells slots Q pc loc st μ := by
  intro H locs ls hP hS hl
  have hpre := ms_pre C0 hP
  have C1 := C0
  obtain ⟨hx, hb, hml, hown, hts, hN, hK, hD, hA, hR, hcs, hX⟩ := C0
  obtain ⟨o1, o2, o3, o4, o5, o6, o7, o8, o9, o10, o11⟩ := mm_mok k
  obtain ⟨o4a, o4b, o4c⟩ := o4 hst
  rw [hst, hn] at o7
  rw [hn] at o4c
  obtain ⟨hc0, hc1, hc8⟩ := mm_cb_inv hcb
  have hM := hC l G H.size
  have hG : GoodIn mm_GW (wsV (mm_R ρ.1) x (mm_m k).2.1.cls (mm_m k).2.1 (mm_ws (mm_m k))) := mm_gw_good (fun w hw => by
    unfold wsV at hw
    rcases List.mem_append.mp hw with h | h
    · simp only [List.mem_cons, List.not_mem_nil, or_false] at h
      rcases h with rfl | rfl | rfl | rfl
      · exact mm_ct_ok hct
      · exact o4a
      · exact o4b
      · exact o2
    · exact (List.mem_cons.mp h).elim (fun h => h ▸ o1) (fun h => h))
  have hRm : (mm_rm (mm_m k)).frames + 1 ≤ R.frames ∧ 8 + ((mm_m k).2.2.2.1 + 11) + (mm_rm (mm_m k)).locals ≤ R.locals := by
    have h1 := hR.1
    have h2 := hR.2
    constructor
    · show (mm_m k).2.2.2.2.2.1 + 1 ≤ R.frames
      omega
    · show 8 + ((mm_m k).2.2.2.1 + 11) + 48 * (mm_m k).2.2.2.2.2.1 ≤ R.locals
      omega
  have hW8 : 2 * (F0 m pc ls (st.map (mm_v G.2.2.1))).monitorRoom + (((st.drop n).map (mm_v G.2.2.1)).map fun v => v.category).sum ≤ 8 := by
    rw [mm_cat_le _ (mm_drop_all hc1), List.length_drop]
    show 2 * 0 + _ ≤ 8
    omega
  obtain ⟨a, As, fs, hav, ha⟩ := mm_rc_inv hrc
  have hlen0 : (st.take n).reverse.length = n := by simp; omega
  have hlenA : (As.map (mm_v G.2.2.1)).length = n - 1 := by
    rw [hav] at hlen0
    simp at hlen0 ⊢
    omega
  have hstack : st.map (mm_v G.2.2.1) = (As.map (mm_v G.2.2.1)).reverse ++ .ref (G.2.2.1 a) :: (st.drop n).map (mm_v G.2.2.1) := by
    rw [mm_map_rev st n, hav]
    simp [mm_v]
  have hM2 : Met l (mm_m k).2.1 (mm_ws (mm_m k)) (mm_rm (mm_m k)) (va_Pc (.ref (G.2.2.1 a) :: As.map (mm_v G.2.2.1)) (mm_Pre Sh G H.size μ)) (mm_Qc Sh G (mm_m k).2.2.2.2.1 RI RV (va_A (mm_cells G Sh μ) H.size)) 0 0 (va_A (mm_cells G Sh μ) H.size) := by
    rw [hav] at hM
    exact hM
  have hrecv := va_recv hK hP (ci := (mm_m k).1) (q0 := a) (mm_cl o9) (mm_cells_get ha)
  refine ms_after (μ := μ) (ret := (mm_m k).2.2.2.2.1) (a := (Value.ref (G.2.2.1 a) :: As.map (mm_v G.2.2.1)).toArray) C1 hS hl ?_ kI kV
  exact va_runV (Ts := mm_GW) (own := mm_R ρ.1) (C := (mm_m k).2.1.cls) (b := G.2.2.1 a) (As := As.map (mm_v G.2.2.1)) ⟨hx, hb, hml, hown, hts⟩ hM2 (cwV (n - 1) hts hG rfl rfl rfl ⟨rfl, o7.1, o7.2.1, o7.2.2⟩ hRm) ⟨mm_blind, by rw [o5]; exact hrecv, fun U hU hW => ⟨rfl, hpre U hU hW⟩⟩ rfl hlenA hl.1 hstack hW8 hd ⟨hcs.1, hcs.2⟩
end SND
end
section
section SND
variable {ρ : mm_Row} {Sh : List mm_C} {G : mm_G} {scr : Option (Nat × (Nat → Int32))} {A : Nat → Prop} {p : Program} {l : Launch} {e : Env} {R : Room} {s : State} {m : MethodId} {args : Array Value} {below : List Frame} {meth : Method} {c : Code} {cells slots : Nat} {Q : State → Prop}
variable {pc : Nat} {loc : mm_L} {st : List Value} {μ : mm_M}
theorem ms_cond (C0 : mm_Cx ρ Sh G scr A p R s m args c cells slots) {cd : ClassFile.Cond} {off : Int} {r1 : Nat} {x : Int32} (hd : decode ρ.2.2.1 pc = .ok (.ifCond cd off, 3)) (ht : (pc : Int) + off = (r1 : Int)) {P1 P2 : Prop} (h : mm_cond cd x 0 P1 P2) (k1 : P1 → mm_WX Sh G A ρ.2.2.2.1 p l e R s m args below meth c cells slots Q r1 loc st μ) (k2 : P2 → mm_WX Sh G A ρ.2.2.2.1 p l e R s m args below meth c cells slots Q (pc + 3) loc st μ) : mm_WX Sh G A ρ.2.2.2.1 p l e R s m args below meth c cells slots Q pc loc (.int x :: st) μ := by
  obtain ⟨hx, hb, -⟩ := C0
  intro H locs ls hP hS hl
  cases cd with
  | eq => exact lv_if_eq hx hb hd ht (fun q => k1 (h.1 q) H locs ls hP hS hl) (fun q => k2 (h.2 q) H locs ls hP hS hl)
  | ne => exact lv_if_ne hx hb hd ht (fun q => k1 (h.1 q) H locs ls hP hS hl) (fun q => k2 (h.2 q) H locs ls hP hS hl)
  | lt => exact lv_if_lt hx hb hd ht (fun q => k1 (h.1 q) H locs ls hP hS hl) (fun q => k2 (h.2 q) H locs ls hP hS hl)
  | ge => exact lv_if_ge hx hb hd ht (fun q => k1 (h.1 q) H locs ls hP hS hl) (fun q => k2 (h.2 q) H locs ls hP hS hl)
  | gt => exact lv_if_gt hx hb hd ht (fun q => k1 (h.1 q) H locs ls hP hS hl) (fun q => k2 (h.2 q) H locs ls hP hS hl)
  | le => exact lv_if_le hx hb hd ht (fun q => k1 (h.1 q) H locs ls hP hS hl) (fun q => k2 (h.2 q) H locs ls hP hS hl)
theorem ms_icmp (C0 : mm_Cx ρ Sh G scr A p R s m args c cells slots) {cd : ClassFile.Cond} {off : Int} {r1 : Nat} {x y : Int32} (hd : decode ρ.2.2.1 pc = .ok (.if_icmp cd off, 3)) (ht : (pc : Int) + off = (r1 : Int)) {P1 P2 : Prop} (h : mm_cond cd x y P1 P2) (k1 : P1 → mm_WX Sh G A ρ.2.2.2.1 p l e R s m args below meth c cells slots Q r1 loc st μ) (k2 : P2 → mm_WX Sh G A ρ.2.2.2.1 p l e R s m args below meth c cells slots Q (pc + 3) loc st μ) : mm_WX Sh G A ρ.2.2.2.1 p l e R s m args below meth c cells slots Q pc loc (.int y :: .int x :: st) μ := by
  obtain ⟨hx, hb, -⟩ := C0
  intro H locs ls hP hS hl
  cases cd with
  | eq => exact lv_icmp_eq hx hb hd ht (fun q => k1 (h.1 q) H locs ls hP hS hl) (fun q => k2 (h.2 q) H locs ls hP hS hl)
  | ne => exact lv_icmp_ne hx hb hd ht (fun q => k1 (h.1 q) H locs ls hP hS hl) (fun q => k2 (h.2 q) H locs ls hP hS hl)
  | lt => exact lv_icmp_lt hx hb hd ht (fun q => k1 (h.1 q) H locs ls hP hS hl) (fun q => k2 (h.2 q) H locs ls hP hS hl)
  | ge => exact lv_icmp_ge hx hb hd ht (fun q => k1 (h.1 q) H locs ls hP hS hl) (fun q => k2 (h.2 q) H locs ls hP hS hl)
  | gt => exact lv_icmp_gt hx hb hd ht (fun q => k1 (h.1 q) H locs ls hP hS hl) (fun q => k2 (h.2 q) H locs ls hP hS hl)
  | le => exact lv_icmp_le hx hb hd ht (fun q => k1 (h.1 q) H locs ls hP hS hl) (fun q => k2 (h.2 q) H locs ls hP hS hl)
theorem mm_sw_get {x : Int32} {F : Nat → Prop} : ∀ {tg : List Nat} {j k t : Nat}, mm_sw x F j tg → tg[k]? = some t → x = Int32.ofNat (j + k) → F t
  | [], _, _, _, _, h, _ => by simp at h
  | t0 :: ts, j, 0, t, h, hk, hx => by
    simp at hk
    subst hk
    exact h.1 hx
  | t0 :: ts, j, k + 1, t, h, hk, hx => mm_sw_get (k := k) h.2 (by simpa using hk) (by rw [hx]; congr 1; omega)
theorem ms_table (C0 : mm_Cx ρ Sh G scr A p R s m args c cells slots) {d lo hi : Int} {offs : Array Int} {len r1 : Nat} {tg : List Nat} {x : Int32} (hd : decode ρ.2.2.1 pc = .ok (.tableswitch d lo hi offs, len)) (h1 : (pc : Int) + d = (r1 : Int)) (h2 : lo = 0) (h3 : hi + 1 = (tg.length : Int)) (h4 : offs.toList.map (fun o => (pc : Int) + o) = tg.map Int.ofNat) (h5 : tg.length ≤ 100) {P1 : Prop} {F : Nat → Prop} (hO : x.toInt < 0 ∨ (tg.length : Int) ≤ x.toInt → P1) (hI : mm_sw x F 0 tg) (k1 : P1 → mm_WX Sh G A ρ.2.2.2.1 p l e R s m args below meth c cells slots Q r1 loc st μ) (k2 : ∀ t, F t → mm_WX Sh G A ρ.2.2.2.1 p l e R s m args below meth c cells slots Q t loc st μ) : mm_WX Sh G A ρ.2.2.2.1 p l e R s m args below meth c cells slots Q pc loc (.int x :: st) μ := by
  obtain ⟨hx, hb, -⟩ := C0
  intro H locs ls hP hS hl
  subst h2
  by_cases hr : x.toInt < 0 ∨ (tg.length : Int) ≤ x.toInt
  · exact lv_tableOut hx hb hd (by omega) h1 (k1 (hO hr) H locs ls hP hS hl)
  · have hlt : x.toInt.toNat < tg.length := by omega
    have htg : tg[x.toInt.toNat]? = some tg[x.toInt.toNat] := List.getElem?_eq_getElem hlt
    have hm : (offs.toList.map (fun o => (pc : Int) + o))[x.toInt.toNat]? = some (Int.ofNat tg[x.toInt.toNat]) := by
      rw [h4, List.getElem?_map, htg]
      rfl
    rw [List.getElem?_map] at hm
    cases ho : offs.toList[x.toInt.toNat]? with
    | none => rw [ho] at hm; cases hm
    | some off =>
      rw [ho] at hm
      have hm2 : (pc : Int) + off = ((tg[x.toInt.toNat] : Nat) : Int) := Option.some.inj hm
      refine lv_tableIn (off := off) hx hb hd (by omega) (by omega) (by rw [Int.sub_zero, ← Array.getElem?_toList]; exact ho) hm2 (k2 _ (mm_sw_get hI htg ?_) H locs ls hP hS hl)
      rw [Nat.zero_add]
      apply Int32.toInt_inj.mp
      rw [show Int32.ofNat x.toInt.toNat = nI x.toInt.toNat from rfl, nI_toInt (by omega)]
      omega
set_option maxHeartbeats 4000000 in
theorem mm_soundI (C0 : mm_Cx ρ Sh G scr A p R s m args c cells slots) {K : Nat → mm_L → List Value → mm_M → Prop} {RI : Int32 → mm_M → Prop} {RV : mm_M → Prop} {rb : Bool}
    (hK : ∀ t loc st μ, K t loc st μ → mm_WX Sh G A ρ.2.2.2.1 p l e R s m args below meth c cells slots Q t loc st μ)
    (hRI : ∀ pc x μ loc, decode ρ.2.2.1 pc = .ok (.ireturn, 1) → ¬ ρ.2.2.2.2.1 = none → (rb = true → x &&& 1 = x) → RI x μ → mm_WX Sh G A ρ.2.2.2.1 p l e R s m args below meth c cells slots Q pc loc [.int x] μ)
    (hRV : ∀ pc μ loc, decode ρ.2.2.1 pc = .ok (.return_, 1) → ρ.2.2.2.2.1 = none → RV μ → mm_WX Sh G A ρ.2.2.2.1 p l e R s m args below meth c cells slots Q pc loc [] μ)
    {i : Instr} {r1 r2 : Nat} {tg : List Nat} {im : Int32} {N : mm_L → List Value → mm_M → Prop} (hd : decode ρ.2.2.1 pc = .ok (i, mm_len i r2)) (ho : mm_okI ρ pc i r1 r2 tg im = true)
    (hN : ∀ loc st μ, N loc st μ → mm_WX Sh G A ρ.2.2.2.1 p l e R s m args below meth c cells slots Q (pc + mm_len i r2) loc st μ)
    (h : mm_i Sh scr rb (mm_Cs Sh) K RI RV i r1 r2 tg im N loc st μ) : mm_WX Sh G A ρ.2.2.2.1 p l e R s m args below meth c cells slots Q pc loc st μ := by
  have hx := C0.1
  have hb := C0.2.1
  cases i with
  | iconst n => exact fun H locs ls hP hS hl => lv_iconst hx hb hd (of_decide_eq_true ho) (hN _ _ _ h H locs ls hP hS hl)
  | bipush n => exact fun H locs ls hP hS hl => lv_bipush hx hb hd (of_decide_eq_true ho) (hN _ _ _ h H locs ls hP hS hl)
  | sipush n => exact fun H locs ls hP hS hl => lv_sipush hx hb hd (of_decide_eq_true ho) (hN _ _ _ h H locs ls hP hS hl)
  | ldc n => exact fun H locs ls hP hS hl => lv_ldc hx hb C0.2.2.2.1 (C0.2.2.2.2.1 _ (mm_ck_ok _ (of_decide_eq_true ho))) hd (hN _ _ _ h H locs ls hP hS hl)
  | iload_n n =>
    obtain ⟨x, h1, h2⟩ := mm_li_inv h
    exact fun H locs ls hP hS hl => lv_iload_n hx hb hd rfl (hl.2.2 _ _ h1).1 (hN _ _ _ h2 H locs ls hP hS hl)
  | iload n =>
    obtain ⟨x, h1, h2⟩ := mm_li_inv h
    exact fun H locs ls hP hS hl => lv_iload hx hb hd (hl.2.2 _ _ h1).1 (hN _ _ _ h2 H locs ls hP hS hl)
  | aload_n n =>
    obtain ⟨x, h1, h2⟩ := mm_lr_inv h
    exact fun H locs ls hP hS hl => lv_aload_n hx hb hd rfl (hl.2.2 _ _ h1).1 (hN _ _ _ h2 H locs ls hP hS hl)
  | istore_n n =>
    obtain ⟨x, s1, rfl, h2⟩ := mm_s1_inv h
    exact ms_istore_n C0 hd (of_decide_eq_true ho) (hN _ _ _ h2)
  | istore n =>
    obtain ⟨x, s1, rfl, h2⟩ := mm_s1_inv h
    exact ms_istore C0 hd (of_decide_eq_true ho) (hN _ _ _ h2)
  | iinc j n =>
    obtain ⟨x, h1, h2⟩ := mm_li_inv h
    have ho2 : (decide (Int32.ofInt n = im) && decide (j < ρ.2.2.2.1)) = true := ho
    simp only [Bool.and_eq_true, decide_eq_true_eq] at ho2
    exact ms_iinc C0 hd ho2.1 ho2.2 h1 (hN _ _ _ h2)
  | iadd =>
    obtain ⟨x, y, s1, rfl, h2⟩ := mm_s2_inv h
    exact fun H locs ls hP hS hl => lv_iadd hx hb hd (hN _ _ _ h2 H locs ls hP hS hl)
  | isub =>
    obtain ⟨x, y, s1, rfl, h2⟩ := mm_s2_inv h
    exact fun H locs ls hP hS hl => lv_isub hx hb hd (hN _ _ _ h2 H locs ls hP hS hl)
  | imul =>
    obtain ⟨x, y, s1, rfl, h2⟩ := mm_s2_inv h
    exact fun H locs ls hP hS hl => lv_imul hx hb hd (hN _ _ _ h2 H locs ls hP hS hl)
  | iand =>
    obtain ⟨x, y, s1, rfl, h2⟩ := mm_s2_inv h
    exact fun H locs ls hP hS hl => lv_iand hx hb hd (hN _ _ _ h2 H locs ls hP hS hl)
  | ior =>
    obtain ⟨x, y, s1, rfl, h2⟩ := mm_s2_inv h
    exact fun H locs ls hP hS hl => lv_ior hx hb hd (hN _ _ _ h2 H locs ls hP hS hl)
  | ixor =>
    obtain ⟨x, y, s1, rfl, h2⟩ := mm_s2_inv h
    exact fun H locs ls hP hS hl => lv_ixor hx hb hd (hN _ _ _ h2 H locs ls hP hS hl)
  | ishl =>
    obtain ⟨x, y, s1, rfl, h2⟩ := mm_s2_inv h
    exact fun H locs ls hP hS hl => lv_ishl hx hb hd (hN _ _ _ h2 H locs ls hP hS hl)
  | ishr =>
    obtain ⟨x, y, s1, rfl, h2⟩ := mm_s2_inv h
    exact fun H locs ls hP hS hl => lv_ishr hx hb hd (hN _ _ _ h2 H locs ls hP hS hl)
  | idiv =>
    obtain ⟨x, y, s1, rfl, h1, h2⟩ := mm_s2_inv h
    exact fun H locs ls hP hS hl => lv_idiv hx hb hd h1 (hN _ _ _ h2 H locs ls hP hS hl)
  | irem =>
    obtain ⟨x, y, s1, rfl, h1, h2⟩ := mm_s2_inv h
    exact fun H locs ls hP hS hl => lv_irem hx hb hd h1 (hN _ _ _ h2 H locs ls hP hS hl)
  | ineg =>
    obtain ⟨x, s1, rfl, h2⟩ := mm_s1_inv h
    exact fun H locs ls hP hS hl => lv_ineg hx hb hd (hN _ _ _ h2 H locs ls hP hS hl)
  | dup =>
    match st, h with
    | v :: s1, h => exact fun H locs ls hP hS hl => lv_dup hx hb hd (mm_v_cat h.1) (hN _ _ _ h.2 H locs ls hP hS hl)
    | [], h => exact h.elim
  | dup2 =>
    match st, h with
    | v :: w :: s1, h => exact fun H locs ls hP hS hl => lv_dup2_11 hx hb hd (mm_v_cat h.1) (mm_v_cat h.2.1) (hN _ _ _ h.2.2 H locs ls hP hS hl)
    | [v], h => exact h.elim
    | [], h => exact h.elim
  | goto off => exact fun H locs ls hP hS hl => lv_goto hx hb hd (of_decide_eq_true ho) (hK _ _ _ _ h H locs ls hP hS hl)
  | ifCond cd off =>
    obtain ⟨x, s1, rfl, h2⟩ := mm_s1_inv h
    exact ms_cond C0 hd (of_decide_eq_true ho) h2 (hK _ _ _ _) (hN _ _ _)
  | if_icmp cd off =>
    obtain ⟨x, y, s1, rfl, h2⟩ := mm_s2_inv h
    exact ms_icmp C0 hd (of_decide_eq_true ho) h2 (hK _ _ _ _) (hN _ _ _)
  | tableswitch d lo hi offs =>
    obtain ⟨x, s1, rfl, h1, h2⟩ := mm_s1_inv h
    have ho2 : (decide ((pc : Int) + d = (r1 : Int)) && decide (lo = 0) && decide (hi + 1 = (tg.length : Int)) && decide (offs.toList.map (fun o => (pc : Int) + o) = tg.map Int.ofNat) && decide (tg.length ≤ 100)) = true := ho
    simp only [Bool.and_eq_true, decide_eq_true_eq] at ho2
    exact ms_table C0 hd ho2.1.1.1.1 ho2.1.1.1.2 ho2.1.1.2 ho2.1.2 ho2.2 h1 h2 (hK _ _ _ _) (fun t => hK t _ _ _)
  | getfield x =>
    match st, h with
    | .ref a :: s1, h =>
      have h : mm_gf Sh μ a r1 r2 (fun v => N loc (v :: s1) μ) := h
      obtain ⟨fs, h1, h2 | ⟨r, h2, h3⟩⟩ := mm_gf_inv h
      · exact ms_get (f := none) C0 hd (of_decide_eq_true ho) h1 h2.1 (hN _ _ _ h2.2)
      · exact ms_get (f := some r) C0 hd (of_decide_eq_true ho) h1 h2 (hN _ _ _ h3)
  | putfield x =>
    match st, h with
    | .int z :: .ref a :: s1, h =>
      obtain ⟨fs, h1, h2, h3⟩ := mm_pf_inv h
      have ho2 : (decide ((ρ.1, x, r1, r2) ∈ mm_FT) && decide ((mm_T r1 r2).2.2.2 = false) && decide (parseFieldDescriptor (mm_T r1 r2).2.2.1 = some .int)) = true := ho
      simp only [Bool.and_eq_true, decide_eq_true_eq] at ho2
      exact ms_put C0 hd ho2.1.1 ho2.1.2 ho2.2 h1 h2 (hN _ _ _ h3)
  | iaload =>
    match st, h with
    | .int i :: .ref a :: s1, h =>
      match scr, ha : decide (a = 999), C0, h with
      | some q, true, C0, h =>
        obtain rfl := of_decide_eq_true ha
        simp only [mm_i, ha] at h
        exact ms_sld C0 hd rfl h.2.1 (hN _ _ _ h.2.2)
      | some q, false, C0, h =>
        simp only [mm_i, ha] at h
        obtain ⟨n, h1, h2, h3⟩ := mm_ar_inv h
        exact ms_iald C0 hd h1 h2 (hN _ _ _ h3)
      | none, _, C0, h =>
        obtain ⟨n, h1, h2, h3⟩ := mm_ar_inv h
        exact ms_iald C0 hd h1 h2 (hN _ _ _ h3)
  | arraylength =>
    match st, h with
    | .ref a :: s1, h =>
      match scr, C0, h with
      | some q, C0, h =>
        obtain ⟨rfl, -, h2⟩ := h
        exact ms_slen C0 hd rfl (hN _ _ _ h2)
  | baload =>
    match st, h with
    | .int i :: .ref a :: s1, h =>
      obtain ⟨n, h1, h2, h3⟩ := mm_ar_inv h
      exact ms_zald C0 hd h1 h2 (hN _ _ _ h3)
  | iastore =>
    match st, h with
    | .int x :: .int i :: .ref a :: s1, h =>
      obtain ⟨n, h1, h2, h3⟩ := mm_ar_inv h
      exact ms_iast C0 hd h1 h2 (hN _ _ _ h3)
  | bastore =>
    match st, h with
    | .int x :: .int i :: .ref a :: s1, h =>
      obtain ⟨n, h1, h2, h3, h4⟩ := mm_ar_inv h
      exact ms_zast C0 hd h1 h2 h3 (hN _ _ _ h4)
  | ireturn =>
    match st, h with
    | [.int x], h => exact hRI pc x μ loc hd (of_decide_eq_true ho) h.1 h.2
  | return_ =>
    match st, h with
    | [], h => exact hRV pc μ loc hd (of_decide_eq_true ho) h
  | invokestatic x =>
    by_cases e0 : r1 = 1000
    · subst e0
      obtain ⟨a, b, s1, rfl, h1, h2⟩ := mm_s2_inv h
      have ho2 : (decide ((ρ.1, x, 1000) ∈ mm_SP) && decide (1 ≤ ρ.2.2.2.2.2.1)) = true := ho
      simp only [Bool.and_eq_true, decide_eq_true_eq] at ho2
      exact ms_min C0 hd ho2.1 ho2.2 h1 (hN _ _ _ h2)
    · by_cases e1 : r1 = 1001
      · subst e1
        obtain ⟨a, b, s1, rfl, h1, h2⟩ := mm_s2_inv h
        have ho2 : (decide ((ρ.1, x, 1001) ∈ mm_SP) && decide (1 ≤ ρ.2.2.2.2.2.1)) = true := ho
        simp only [Bool.and_eq_true, decide_eq_true_eq] at ho2
        exact ms_max C0 hd ho2.1 ho2.2 h1 (hN _ _ _ h2)
      · by_cases e2 : r1 = 1002
        · subst e2
          have ho2 : (decide ((ρ.1, x, 1002) ∈ mm_SP) && decide (1 ≤ ρ.2.2.2.2.2.1)) = true := ho
          simp only [Bool.and_eq_true, decide_eq_true_eq] at ho2
          match st, h with
          | .int n :: .int dp :: .ref d :: .int sp :: .ref a :: s1, h =>
            obtain ⟨h0, h⟩ := h
            obtain ⟨na, g1, h⟩ := mm_al2_inv h
            obtain ⟨nd, g2, h⟩ := mm_al2_inv h
            exact ms_cpy C0 hd ho2.1 ho2.2 h0 g1 g2 h.1 h.2.1 h.2.2.1 h.2.2.2.1 h.2.2.2.2.1 (hN _ _ _ h.2.2.2.2.2)
        · simp only [mm_i] at h
          simp only [mm_okI] at ho
          simp only [Bool.and_eq_true, Bool.or_eq_true, decide_eq_true_eq] at ho
          exact ms_callS C0 hd ho.1.1.1 ho.1.1.2 ho.1.2 ho.2 h.1 h.2 (fun r μ' hr => hN _ _ _ hr) (fun μ' hr => hN _ _ _ hr)
  | invokevirtual x =>
    have ho2 : (decide ((ρ.1, x, r1) ∈ mm_CT) && decide ((mm_m r1).2.2.2.2.2.1 < ρ.2.2.2.2.2.1) && decide ((mm_m r1).2.2.2.2.2.2.1 = r2) && !(mm_m r1).2.2.2.2.2.2.2) = true := ho
    simp only [Bool.and_eq_true, decide_eq_true_eq, Bool.not_eq_true'] at ho2
    exact ms_callV C0 hd ho2.1.1.1 ho2.1.1.2 ho2.1.2 ho2.2 h.1 h.2.1 h.2.2 (fun r μ' hr => hN _ _ _ hr) (fun μ' hr => hN _ _ _ hr)
  | _ => exact h.elim
theorem mm_soundB (C0 : mm_Cx ρ Sh G scr A p R s m args c cells slots) {K : Nat → mm_L → List Value → mm_M → Prop} {RI : Int32 → mm_M → Prop} {RV : mm_M → Prop} {rb : Bool}
    (hK : ∀ t loc st μ, K t loc st μ → mm_WX Sh G A ρ.2.2.2.1 p l e R s m args below meth c cells slots Q t loc st μ)
    (hRI : ∀ pc x μ loc, decode ρ.2.2.1 pc = .ok (.ireturn, 1) → ¬ ρ.2.2.2.2.1 = none → (rb = true → x &&& 1 = x) → RI x μ → mm_WX Sh G A ρ.2.2.2.1 p l e R s m args below meth c cells slots Q pc loc [.int x] μ)
    (hRV : ∀ pc μ loc, decode ρ.2.2.1 pc = .ok (.return_, 1) → ρ.2.2.2.2.1 = none → RV μ → mm_WX Sh G A ρ.2.2.2.1 p l e R s m args below meth c cells slots Q pc loc [] μ) :
    ∀ (cd : List mm_E) (pc : Nat) (loc : mm_L) (st : List Value) (μ : mm_M), mm_okc ρ pc cd = true → mm_wpB Sh scr rb (mm_Cs Sh) K RI RV cd loc st μ → mm_WX Sh G A ρ.2.2.2.1 p l e R s m args below meth c cells slots Q pc loc st μ := by
  intro cd
  induction cd with
  | nil => intro pc loc st μ _ h; exact h.elim
  | cons q cd ih =>
    intro pc loc st μ ho h
    obtain ⟨qi, r1, r2, tg, im⟩ := q
    cases qi with
    | none =>
      have e : r1 = pc := of_decide_eq_true ho
      subst e
      exact hK _ _ _ _ h
    | some i =>
      simp only [mm_okc, Bool.and_eq_true, decide_eq_true_eq] at ho
      exact mm_soundI C0 hK hRI hRV ho.1.1 ho.1.2 (fun loc st μ hn => ih _ _ _ _ ho.2 hn) h
theorem mm_soundW (C0 : mm_Cx ρ Sh G scr A p R s m args c cells slots) {K : Nat → mm_L → List Value → mm_M → Prop} {RI : Int32 → mm_M → Prop} {RV : mm_M → Prop} {rb : Bool} {lab : Nat → List mm_E} {cut : Nat → Bool}
    (hK : ∀ t loc st μ, K t loc st μ → mm_WX Sh G A ρ.2.2.2.1 p l e R s m args below meth c cells slots Q t loc st μ)
    (hRI : ∀ pc x μ loc, decode ρ.2.2.1 pc = .ok (.ireturn, 1) → ¬ ρ.2.2.2.2.1 = none → (rb = true → x &&& 1 = x) → RI x μ → mm_WX Sh G A ρ.2.2.2.1 p l e R s m args below meth c cells slots Q pc loc [.int x] μ)
    (hRV : ∀ pc μ loc, decode ρ.2.2.1 pc = .ok (.return_, 1) → ρ.2.2.2.2.1 = none → RV μ → mm_WX Sh G A ρ.2.2.2.1 p l e R s m args below meth c cells slots Q pc loc [] μ)
    (hlab : ∀ t, mm_okc ρ t (lab t) = true) :
    ∀ (n t : Nat) (loc : mm_L) (st : List Value) (μ : mm_M), mm_wp Sh scr rb (mm_Cs Sh) K RI RV lab cut n t loc st μ → mm_WX Sh G A ρ.2.2.2.1 p l e R s m args below meth c cells slots Q t loc st μ := by
  intro n
  induction n with
  | zero => intro t loc st μ h; exact hK _ _ _ _ h
  | succ n ih =>
    intro t loc st μ h
    unfold mm_wp at h
    by_cases hc : cut t = true
    · rw [if_pos hc] at h
      exact hK _ _ _ _ h
    · rw [if_neg hc] at h
      exact mm_soundB C0 ih hRI hRV _ _ _ _ _ (hlab t) h
end SND
/-- the machine in a method of the table, at a label: it comes to the method's end with an answer and a memory of that kind -/
def mm_Rn (Sh : List mm_C) (k : Nat) (RI : Int32 → mm_M → Prop) (RV : mm_M → Prop) (pc : Nat) (loc : mm_L) (st : List Value) (μ : mm_M) : Prop :=
  ∀ (l : Launch) (G : mm_G) (A : Nat → Prop) (p : Program) (e : Env) (s : State) (m : MethodId) (args : Array Value) (below : List Frame) (meth : Method) (c : Code), mm_Cx (mm_m k) Sh G none A p (mm_rm (mm_m k)) s m args c 0 0 → meth.sig.returnType = (mm_m k).2.2.2.2.1 → meth.locks = false → mm_WX Sh G A (mm_m k).2.2.2.1 p l e (mm_rm (mm_m k)) s m args below meth c 0 0 (MQ below (mm_Qc Sh G (mm_m k).2.2.2.2.1 RI RV A) args s 0 0 A) pc loc st μ
/-- the rows of one method: from a label over labels, not beyond the cuts -/
theorem mm_run {Sh : List mm_C} {k : Nat} {RI : Int32 → mm_M → Prop} {RV : mm_M → Prop} {lab : Nat → List mm_E} (hlab : ∀ t, mm_okc (mm_m k) t (lab t) = true) (cut : Nat → Bool) (n : Nat) {t : Nat} {loc : mm_L} {st : List Value} {μ : mm_M} (h : mm_wpB Sh none (decide ((mm_m k).2.2.2.2.1 = some .boolean)) (mm_Cs Sh) (mm_wp Sh none (decide ((mm_m k).2.2.2.2.1 = some .boolean)) (mm_Cs Sh) (mm_Rn Sh k RI RV) RI RV lab cut n) RI RV (lab t) loc st μ) : mm_Rn Sh k RI RV t loc st μ := by
  intro l G A p e s m args below meth c C0 hr hlocks
  have hRI : ∀ pc x μ loc, decode (mm_m k).2.2.1 pc = .ok (.ireturn, 1) → ¬ (mm_m k).2.2.2.2.1 = none → (decide ((mm_m k).2.2.2.2.1 = some .boolean) = true → x &&& 1 = x) → RI x μ → mm_WX Sh G A (mm_m k).2.2.2.1 p l e (mm_rm (mm_m k)) s m args below meth c 0 0 (MQ below (mm_Qc Sh G (mm_m k).2.2.2.2.1 RI RV A) args s 0 0 A) pc loc [.int x] μ := by
    intro pc x μ loc hd hne hnb hri H locs ls hP hS hl
    obtain ⟨o1, o2, o3, o4, o5, o6, o7, o8, o9, o10, o11⟩ := mm_mok k
    rcases o11 with h0 | h0 | h0
    · exact absurd h0 hne
    · refine W.iret C0.1 C0.2.1 (by rw [hr, h0]) (fun t ht hW => ?_) hS.2.2 hd
      rw [mm_Qc, if_neg hne]
      exact ⟨⟨x, μ, rfl, hri, by unfold mm_B; rw [ht]; exact hP⟩, hS.F ht⟩
    · refine W.zret C0.1 C0.2.1 (ty := .boolean) (by rw [hr, h0]) (mm_narb (hnb (by rw [h0]; rfl))) (fun t ht hW => ?_) hS.2.2 hd
      rw [mm_Qc, if_neg hne]
      exact ⟨⟨x, μ, rfl, hri, by unfold mm_B; rw [ht]; exact hP⟩, hS.F ht⟩
  have hRV : ∀ pc μ loc, decode (mm_m k).2.2.1 pc = .ok (.return_, 1) → (mm_m k).2.2.2.2.1 = none → RV μ → mm_WX Sh G A (mm_m k).2.2.2.1 p l e (mm_rm (mm_m k)) s m args below meth c 0 0 (MQ below (mm_Qc Sh G (mm_m k).2.2.2.2.1 RI RV A) args s 0 0 A) pc loc [] μ := by
    intro pc μ loc hd hne hrv H locs ls hP hS hl
    refine W.vret C0.1 C0.2.1 (by rw [hr, hne]) (fun t ht hW => ?_) hS.2.2 hd
    rw [mm_Qc, if_pos hne]
    exact ⟨⟨μ, rfl, hrv, by unfold mm_B; rw [ht]; exact hP⟩, hS.F ht⟩
  have hKK : ∀ t loc st μ, mm_Rn Sh k RI RV t loc st μ → mm_WX Sh G A (mm_m k).2.2.2.1 p l e (mm_rm (mm_m k)) s m args below meth c 0 0 (MQ below (mm_Qc Sh G (mm_m k).2.2.2.2.1 RI RV A) args s 0 0 A) t loc st μ := fun t loc st μ h => h l G A p e s m args below meth c C0 hr hlocks
  exact mm_soundB C0 (mm_soundW C0 hKK hRI hRV hlab n) hRI hRV _ _ _ _ _ (hlab t) h
/-- the locals with which a method begins -/
def mm_l0 (k : Nat) (av : List Value) : mm_L := av.map some ++ List.replicate ((mm_m k).2.2.2.1 - av.length) none
theorem mm_lv_args : ∀ (vs : List Value) (n : Nat), (∀ v ∈ vs, v.category = 1) → ∀ (i : Nat) (v : Value), vs[i]? = some v → (n + i, v) ∈ lv_args n vs
  | [], _, _, i, v, h => by simp at h
  | w :: vs, n, hc, 0, v, h => by
    simp at h
    subst h
    exact List.mem_cons_self
  | w :: vs, n, hc, i + 1, v, h => by
    have h1 : w.category = 1 := hc w List.mem_cons_self
    unfold lv_args
    rw [h1]
    refine List.mem_cons_of_mem _ ?_
    have := mm_lv_args vs (n + 1) (fun z hz => hc z (List.mem_cons_of_mem _ hz)) i v (by simpa using h)
    rw [show n + (i + 1) = n + 1 + i by omega]
    exact this
theorem mm_sl_len : ∀ (vs : List Value), (∀ v ∈ vs, v.category = 1) → (lg_sl vs).length = vs.length
  | [], _ => rfl
  | w :: vs, hc => by
    have h1 : w.category = 1 := hc w List.mem_cons_self
    have h2 := mm_sl_len vs (fun z hz => hc z (List.mem_cons_of_mem _ hz))
    simp only [lg_sl, List.flatMap_cons, List.length_append] at h2 ⊢
    rw [h2, h1]
    simp
    omega
theorem mm_in {Sh : List mm_C} {k : Nat} {RI : Int32 → mm_M → Prop} {RV : mm_M → Prop} {av : List Value} {μ : mm_M} (hc : av.all mm_c1 = true) (hn : av.length ≤ (mm_m k).2.2.2.1) (h : mm_Rn Sh k RI RV 0 (mm_l0 k av) [] μ) : mm_Cs Sh k av μ RI RV := by
  intro l G sz
  obtain ⟨o1, o2, o3, o4, o5, o6, o7, o8, o9, o10, o11⟩ := mm_mok k
  refine Met.ofW (cc := (mm_m k).2.2.1) (maxL := (mm_m k).2.2.2.1) (ret := (mm_m k).2.2.2.2.1) o6 rfl ?_
  intro p e s m args below meth c s₁ B hml hv
  obtain ⟨rfl, hsz, hP, hK, hD0, hN⟩ := hv
  have hx := B.exec
  have hb := B.bytes
  have hr := B.returns
  have hts := atoms_spec (ws := mm_ws (mm_m k)) B.pre
  have hown : s.vm.findClass (mm_m k).2.1.cls = some m.cls := findClass_of_methodNamed B.named
  have hlocks := B.notSynchronized
  subst hsz
  have hcat : ∀ v ∈ av.map (mm_v G.2.2.1), v.category = 1 := by
    intro v hv
    obtain ⟨w, hw, rfl⟩ := List.mem_map.mp hv
    exact mm_v_cat (List.all_eq_true.mp hc w hw)
  have hlen : (lg_sl (av.map (mm_v G.2.2.1))).length ≤ (mm_m k).2.2.2.1 := by
    rw [mm_sl_len _ hcat, List.length_map]
    exact hn
  have hl := lv_entry (av.map (mm_v G.2.2.1)) (n := (mm_m k).2.2.2.1) hlen
  rw [lg_entry_eq]
  generalize (lg_sl (av.map (mm_v G.2.2.1)) ++ List.replicate ((mm_m k).2.2.2.1 - (lg_sl (av.map (mm_v G.2.2.1))).length) Slot.unset).toArray = ls at hl ⊢
  have hlh : mm_lh G.2.2.1 ls (mm_m k).2.2.2.1 (mm_l0 k av) := by
    refine ⟨hl.1, hl.2.1, fun i v hi => ?_⟩
    unfold mm_l0 at hi
    by_cases hlt : i < av.length
    · rw [List.getElem?_append_left (by simpa using hlt), List.getElem?_map, List.getElem?_eq_getElem hlt] at hi
      have e : av[i] = v := Option.some.inj (Option.some.inj hi)
      refine ⟨?_, ?_⟩
      · have := hl.2.2 (0 + i, mm_v G.2.2.1 v) (mm_lv_args _ 0 hcat i _ (by rw [List.getElem?_map, List.getElem?_eq_getElem hlt, e]; rfl))
        simpa using this
      · rw [← e]
        exact List.all_eq_true.mp hc _ (List.getElem_mem hlt)
    · rw [List.getElem?_append_right (by simpa using hlt)] at hi
      have := List.eq_of_mem_replicate (List.mem_of_getElem? hi)
      cases this
  have hDA : ∀ μ', va_D (va_A (mm_cells G Sh μ) s.heap.size) (mm_cells G Sh μ') := by
    intro μ'
    refine ⟨fun i j a b ha hb hab => ?_, fun i a ha => ?_⟩
    · obtain ⟨q1, h1, rfl⟩ := mm_cells_inv ha
      obtain ⟨q2, h2, rfl⟩ := mm_cells_inv hb
      rw [mm_cell_ad, mm_cell_ad] at hab
      exact hD0.1 i j _ _ (mm_cells_get h1) (mm_cells_get h2) (by rw [mm_cell_ad, mm_cell_ad]; exact hab)
    · obtain ⟨q1, h1, rfl⟩ := mm_cells_inv ha
      rw [mm_cell_ad]
      have := mm_cells_get (G := G) (μ := μ) h1
      exact Or.inl ⟨i, (mm_cell G μ i q1).2, by rw [this]; exact congrArg some (Prod.ext mm_cell_ad rfl)⟩
  have C0 : mm_Cx (mm_m k) Sh G none (va_A (mm_cells G Sh μ) s.heap.size) p (mm_rm (mm_m k)) s m (av.map (mm_v G.2.2.1)).toArray c 0 0 := ⟨hx, hb, hml, by rw [← o5]; exact hown, fun w hw => hts w (List.mem_cons_of_mem _ hw), hN, hK, hDA, fun q hq => Or.inr hq, ⟨Nat.le_refl _, Nat.le_refl _⟩, ⟨Nat.le_refl _, Nat.le_refl _⟩, fun L xs h => by cases h⟩
  exact h l G _ p e s m _ below meth c C0 hr hlocks s.heap [] ls hP va_S.rf hlh
end
