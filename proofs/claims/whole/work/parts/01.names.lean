-- ===== PART A: goes FIRST, ahead of the names: the tables' words, and 'selects' of the private methods out of them =====
/-- a private method of a class that the tables say can be made, by its rows of tables_1 -/
def lw_okq (q : MethodName × Nat) : Prop := (q.1.cls ≠ "java/lang/invoke/MethodHandle" ∧ q.1.cls ≠ "java/lang/invoke/VarHandle") ∧ Cond.instantiable q.1.cls q.2 ∈ tables_1 ∧ Cond.privateMethod q.1 ∈ tables_1 ∧ Cond.instanceMethod q.1 ∈ tables_1
theorem lw_p0 : lw_okq (⟨"ColdHouse", "sheetAt", "(I)LColdHouse$Sheet;"⟩, 12) := ⟨⟨by decide +kernel, by decide +kernel⟩, List.mem_of_getElem? (i := 13) (by decide +kernel), List.mem_of_getElem? (i := 259) (by decide +kernel), List.mem_of_getElem? (i := 260) (by decide +kernel)⟩
theorem lw_p1 : lw_okq (⟨"ColdHouse", "refuse", "(I)I"⟩, 12) := ⟨⟨by decide +kernel, by decide +kernel⟩, List.mem_of_getElem? (i := 13) (by decide +kernel), List.mem_of_getElem? (i := 266) (by decide +kernel), List.mem_of_getElem? (i := 267) (by decide +kernel)⟩
theorem lw_p2 : lw_okq (⟨"ColdHouse", "accept", "(I)I"⟩, 12) := ⟨⟨by decide +kernel, by decide +kernel⟩, List.mem_of_getElem? (i := 13) (by decide +kernel), List.mem_of_getElem? (i := 274) (by decide +kernel), List.mem_of_getElem? (i := 275) (by decide +kernel)⟩
theorem lw_p3 : lw_okq (⟨"ColdHouse$Table", "follows", "(I)Z"⟩, 4) := ⟨⟨by decide +kernel, by decide +kernel⟩, List.mem_of_getElem? (i := 291) (by decide +kernel), List.mem_of_getElem? (i := 328) (by decide +kernel), List.mem_of_getElem? (i := 329) (by decide +kernel)⟩
theorem lw_p4 : lw_okq (⟨"ColdHouse$Stuff", "press", "(LColdHouse$Table;LColdHouse$Table;ILColdHouse$Ratio;LColdHouse$Ratio;)Z"⟩, 4) := ⟨⟨by decide +kernel, by decide +kernel⟩, List.mem_of_getElem? (i := 23) (by decide +kernel), List.mem_of_getElem? (i := 436) (by decide +kernel), List.mem_of_getElem? (i := 437) (by decide +kernel)⟩
theorem lw_p5 : lw_okq (⟨"ColdHouse$Stuff", "coil", "(LColdHouse$Table;IILColdHouse$Ratio;)Z"⟩, 4) := ⟨⟨by decide +kernel, by decide +kernel⟩, List.mem_of_getElem? (i := 23) (by decide +kernel), List.mem_of_getElem? (i := 457) (by decide +kernel), List.mem_of_getElem? (i := 458) (by decide +kernel)⟩
theorem lw_p6 : lw_okq (⟨"ColdHouse$Stuff", "isDryEnough", "(LColdHouse$Table;ILColdHouse$Ratio;)Z"⟩, 4) := ⟨⟨by decide +kernel, by decide +kernel⟩, List.mem_of_getElem? (i := 23) (by decide +kernel), List.mem_of_getElem? (i := 461) (by decide +kernel), List.mem_of_getElem? (i := 462) (by decide +kernel)⟩
theorem lw_p7 : lw_okq (⟨"ColdHouse$Walk", "sumUp", "()V"⟩, 11) := ⟨⟨by decide +kernel, by decide +kernel⟩, List.mem_of_getElem? (i := 96) (by decide +kernel), List.mem_of_getElem? (i := 468) (by decide +kernel), List.mem_of_getElem? (i := 469) (by decide +kernel)⟩
theorem lw_p8 : lw_okq (⟨"ColdHouse$Walk", "commonLower", "()J"⟩, 11) := ⟨⟨by decide +kernel, by decide +kernel⟩, List.mem_of_getElem? (i := 96) (by decide +kernel), List.mem_of_getElem? (i := 472) (by decide +kernel), List.mem_of_getElem? (i := 473) (by decide +kernel)⟩
theorem lw_p9 : lw_okq (⟨"ColdHouse", "orderMade", "(LColdHouse$State;LColdHouse$State;)Z"⟩, 12) := ⟨⟨by decide +kernel, by decide +kernel⟩, List.mem_of_getElem? (i := 13) (by decide +kernel), List.mem_of_getElem? (i := 498) (by decide +kernel), List.mem_of_getElem? (i := 499) (by decide +kernel)⟩
theorem lw_p10 : lw_okq (⟨"ColdHouse", "imageAt", "(I)LColdHouse$Image;"⟩, 12) := ⟨⟨by decide +kernel, by decide +kernel⟩, List.mem_of_getElem? (i := 13) (by decide +kernel), List.mem_of_getElem? (i := 534) (by decide +kernel), List.mem_of_getElem? (i := 535) (by decide +kernel)⟩
theorem lw_p11 : lw_okq (⟨"ColdHouse", "sheetsThere", "()I"⟩, 12) := ⟨⟨by decide +kernel, by decide +kernel⟩, List.mem_of_getElem? (i := 13) (by decide +kernel), List.mem_of_getElem? (i := 556) (by decide +kernel), List.mem_of_getElem? (i := 557) (by decide +kernel)⟩
theorem lw_p12 : lw_okq (⟨"ColdHouseModel", "ends", "(I)I"⟩, 39) := ⟨⟨by decide +kernel, by decide +kernel⟩, List.mem_of_getElem? (i := 564) (by decide +kernel), List.mem_of_getElem? (i := 699) (by decide +kernel), List.mem_of_getElem? (i := 700) (by decide +kernel)⟩
theorem lw_p13 : lw_okq (⟨"ColdHouseModel", "isPressure", "(I)Z"⟩, 39) := ⟨⟨by decide +kernel, by decide +kernel⟩, List.mem_of_getElem? (i := 564) (by decide +kernel), List.mem_of_getElem? (i := 718) (by decide +kernel), List.mem_of_getElem? (i := 719) (by decide +kernel)⟩
theorem lw_p14 : lw_okq (⟨"ColdHouseModel", "isWithin", "(IJJ)Z"⟩, 39) := ⟨⟨by decide +kernel, by decide +kernel⟩, List.mem_of_getElem? (i := 564) (by decide +kernel), List.mem_of_getElem? (i := 730) (by decide +kernel), List.mem_of_getElem? (i := 731) (by decide +kernel)⟩
theorem lw_p15 : lw_okq (⟨"ColdHouseModel", "last", "(I)I"⟩, 39) := ⟨⟨by decide +kernel, by decide +kernel⟩, List.mem_of_getElem? (i := 564) (by decide +kernel), List.mem_of_getElem? (i := 734) (by decide +kernel), List.mem_of_getElem? (i := 735) (by decide +kernel)⟩
def lw_privs_1 : List (MethodName × Nat) := [(⟨"ColdHouse", "sheetAt", "(I)LColdHouse$Sheet;"⟩, 12), (⟨"ColdHouse", "refuse", "(I)I"⟩, 12), (⟨"ColdHouse", "accept", "(I)I"⟩, 12), (⟨"ColdHouse$Table", "follows", "(I)Z"⟩, 4), (⟨"ColdHouse$Stuff", "press", "(LColdHouse$Table;LColdHouse$Table;ILColdHouse$Ratio;LColdHouse$Ratio;)Z"⟩, 4), (⟨"ColdHouse$Stuff", "coil", "(LColdHouse$Table;IILColdHouse$Ratio;)Z"⟩, 4), (⟨"ColdHouse$Stuff", "isDryEnough", "(LColdHouse$Table;ILColdHouse$Ratio;)Z"⟩, 4), (⟨"ColdHouse$Walk", "sumUp", "()V"⟩, 11), (⟨"ColdHouse$Walk", "commonLower", "()J"⟩, 11), (⟨"ColdHouse", "orderMade", "(LColdHouse$State;LColdHouse$State;)Z"⟩, 12), (⟨"ColdHouse", "imageAt", "(I)LColdHouse$Image;"⟩, 12), (⟨"ColdHouse", "sheetsThere", "()I"⟩, 12), (⟨"ColdHouseModel", "ends", "(I)I"⟩, 39), (⟨"ColdHouseModel", "isPressure", "(I)Z"⟩, 39), (⟨"ColdHouseModel", "isWithin", "(IJJ)Z"⟩, 39), (⟨"ColdHouseModel", "last", "(I)I"⟩, 39)]
theorem lw_r1 : ∀ q ∈ lw_privs_1, lw_okq q := List.forall_mem_cons.mpr ⟨lw_p0, List.forall_mem_cons.mpr ⟨lw_p1, List.forall_mem_cons.mpr ⟨lw_p2, List.forall_mem_cons.mpr ⟨lw_p3, List.forall_mem_cons.mpr ⟨lw_p4, List.forall_mem_cons.mpr ⟨lw_p5, List.forall_mem_cons.mpr ⟨lw_p6, List.forall_mem_cons.mpr ⟨lw_p7, List.forall_mem_cons.mpr ⟨lw_p8, List.forall_mem_cons.mpr ⟨lw_p9, List.forall_mem_cons.mpr ⟨lw_p10, List.forall_mem_cons.mpr ⟨lw_p11, List.forall_mem_cons.mpr ⟨lw_p12, List.forall_mem_cons.mpr ⟨lw_p13, List.forall_mem_cons.mpr ⟨lw_p14, List.forall_mem_cons.mpr ⟨lw_p15, fun _ h => absurd h List.not_mem_nil⟩⟩⟩⟩⟩⟩⟩⟩⟩⟩⟩⟩⟩⟩⟩⟩
theorem lw_p16 : lw_okq (⟨"ColdHouseModel", "reads", "(IJJI)V"⟩, 39) := ⟨⟨by decide +kernel, by decide +kernel⟩, List.mem_of_getElem? (i := 564) (by decide +kernel), List.mem_of_getElem? (i := 739) (by decide +kernel), List.mem_of_getElem? (i := 740) (by decide +kernel)⟩
theorem lw_p17 : lw_okq (⟨"ColdHouseModel", "segment", "(IJJ)I"⟩, 39) := ⟨⟨by decide +kernel, by decide +kernel⟩, List.mem_of_getElem? (i := 564) (by decide +kernel), List.mem_of_getElem? (i := 743) (by decide +kernel), List.mem_of_getElem? (i := 744) (by decide +kernel)⟩
theorem lw_p18 : lw_okq (⟨"ColdHouseModel", "gets", "(JJ)V"⟩, 39) := ⟨⟨by decide +kernel, by decide +kernel⟩, List.mem_of_getElem? (i := 564) (by decide +kernel), List.mem_of_getElem? (i := 747) (by decide +kernel), List.mem_of_getElem? (i := 748) (by decide +kernel)⟩
theorem lw_p19 : lw_okq (⟨"ColdHouseModel", "wets", "(IJJ)V"⟩, 39) := ⟨⟨by decide +kernel, by decide +kernel⟩, List.mem_of_getElem? (i := 564) (by decide +kernel), List.mem_of_getElem? (i := 754) (by decide +kernel), List.mem_of_getElem? (i := 755) (by decide +kernel)⟩
theorem lw_p20 : lw_okq (⟨"ColdHouseModel", "runs", "(IJJ)V"⟩, 39) := ⟨⟨by decide +kernel, by decide +kernel⟩, List.mem_of_getElem? (i := 564) (by decide +kernel), List.mem_of_getElem? (i := 780) (by decide +kernel), List.mem_of_getElem? (i := 781) (by decide +kernel)⟩
theorem lw_p21 : lw_okq (⟨"ColdHouseModel", "goes", "(IIJJ)Z"⟩, 39) := ⟨⟨by decide +kernel, by decide +kernel⟩, List.mem_of_getElem? (i := 564) (by decide +kernel), List.mem_of_getElem? (i := 784) (by decide +kernel), List.mem_of_getElem? (i := 785) (by decide +kernel)⟩
theorem lw_p22 : lw_okq (⟨"ColdHouseModel", "presses", "(IIJJ)Z"⟩, 39) := ⟨⟨by decide +kernel, by decide +kernel⟩, List.mem_of_getElem? (i := 564) (by decide +kernel), List.mem_of_getElem? (i := 788) (by decide +kernel), List.mem_of_getElem? (i := 789) (by decide +kernel)⟩
theorem lw_p23 : lw_okq (⟨"ColdHouseModel", "finds", "(IJJ)Z"⟩, 39) := ⟨⟨by decide +kernel, by decide +kernel⟩, List.mem_of_getElem? (i := 564) (by decide +kernel), List.mem_of_getElem? (i := 792) (by decide +kernel), List.mem_of_getElem? (i := 793) (by decide +kernel)⟩
theorem lw_p24 : lw_okq (⟨"ColdHouseModel", "warms", "(II)Z"⟩, 39) := ⟨⟨by decide +kernel, by decide +kernel⟩, List.mem_of_getElem? (i := 564) (by decide +kernel), List.mem_of_getElem? (i := 796) (by decide +kernel), List.mem_of_getElem? (i := 797) (by decide +kernel)⟩
theorem lw_p25 : lw_okq (⟨"ColdHouseModel", "isRound", "()Z"⟩, 39) := ⟨⟨by decide +kernel, by decide +kernel⟩, List.mem_of_getElem? (i := 564) (by decide +kernel), List.mem_of_getElem? (i := 814) (by decide +kernel), List.mem_of_getElem? (i := 815) (by decide +kernel)⟩
theorem lw_p26 : lw_okq (⟨"ColdHouseModel", "sums", "()Z"⟩, 39) := ⟨⟨by decide +kernel, by decide +kernel⟩, List.mem_of_getElem? (i := 564) (by decide +kernel), List.mem_of_getElem? (i := 823) (by decide +kernel), List.mem_of_getElem? (i := 824) (by decide +kernel)⟩
theorem lw_p27 : lw_okq (⟨"ColdHouseModel", "hasShare", "()Z"⟩, 39) := ⟨⟨by decide +kernel, by decide +kernel⟩, List.mem_of_getElem? (i := 564) (by decide +kernel), List.mem_of_getElem? (i := 828) (by decide +kernel), List.mem_of_getElem? (i := 829) (by decide +kernel)⟩
theorem lw_p28 : lw_okq (⟨"ColdHouseModel", "keepsRun", "()V"⟩, 39) := ⟨⟨by decide +kernel, by decide +kernel⟩, List.mem_of_getElem? (i := 564) (by decide +kernel), List.mem_of_getElem? (i := 836) (by decide +kernel), List.mem_of_getElem? (i := 837) (by decide +kernel)⟩
theorem lw_p29 : lw_okq (⟨"ColdHouseModel", "bringsRun", "()V"⟩, 39) := ⟨⟨by decide +kernel, by decide +kernel⟩, List.mem_of_getElem? (i := 564) (by decide +kernel), List.mem_of_getElem? (i := 843) (by decide +kernel), List.mem_of_getElem? (i := 844) (by decide +kernel)⟩
theorem lw_p30 : lw_okq (⟨"ColdHouseModel", "lays", "(I)V"⟩, 39) := ⟨⟨by decide +kernel, by decide +kernel⟩, List.mem_of_getElem? (i := 564) (by decide +kernel), List.mem_of_getElem? (i := 851) (by decide +kernel), List.mem_of_getElem? (i := 852) (by decide +kernel)⟩
theorem lw_p31 : lw_okq (⟨"ColdHouseModel", "takes", "([II)V"⟩, 39) := ⟨⟨by decide +kernel, by decide +kernel⟩, List.mem_of_getElem? (i := 564) (by decide +kernel), List.mem_of_getElem? (i := 859) (by decide +kernel), List.mem_of_getElem? (i := 860) (by decide +kernel)⟩
def lw_privs_2 : List (MethodName × Nat) := [(⟨"ColdHouseModel", "reads", "(IJJI)V"⟩, 39), (⟨"ColdHouseModel", "segment", "(IJJ)I"⟩, 39), (⟨"ColdHouseModel", "gets", "(JJ)V"⟩, 39), (⟨"ColdHouseModel", "wets", "(IJJ)V"⟩, 39), (⟨"ColdHouseModel", "runs", "(IJJ)V"⟩, 39), (⟨"ColdHouseModel", "goes", "(IIJJ)Z"⟩, 39), (⟨"ColdHouseModel", "presses", "(IIJJ)Z"⟩, 39), (⟨"ColdHouseModel", "finds", "(IJJ)Z"⟩, 39), (⟨"ColdHouseModel", "warms", "(II)Z"⟩, 39), (⟨"ColdHouseModel", "isRound", "()Z"⟩, 39), (⟨"ColdHouseModel", "sums", "()Z"⟩, 39), (⟨"ColdHouseModel", "hasShare", "()Z"⟩, 39), (⟨"ColdHouseModel", "keepsRun", "()V"⟩, 39), (⟨"ColdHouseModel", "bringsRun", "()V"⟩, 39), (⟨"ColdHouseModel", "lays", "(I)V"⟩, 39), (⟨"ColdHouseModel", "takes", "([II)V"⟩, 39)]
theorem lw_r2 : ∀ q ∈ lw_privs_2, lw_okq q := List.forall_mem_cons.mpr ⟨lw_p16, List.forall_mem_cons.mpr ⟨lw_p17, List.forall_mem_cons.mpr ⟨lw_p18, List.forall_mem_cons.mpr ⟨lw_p19, List.forall_mem_cons.mpr ⟨lw_p20, List.forall_mem_cons.mpr ⟨lw_p21, List.forall_mem_cons.mpr ⟨lw_p22, List.forall_mem_cons.mpr ⟨lw_p23, List.forall_mem_cons.mpr ⟨lw_p24, List.forall_mem_cons.mpr ⟨lw_p25, List.forall_mem_cons.mpr ⟨lw_p26, List.forall_mem_cons.mpr ⟨lw_p27, List.forall_mem_cons.mpr ⟨lw_p28, List.forall_mem_cons.mpr ⟨lw_p29, List.forall_mem_cons.mpr ⟨lw_p30, List.forall_mem_cons.mpr ⟨lw_p31, fun _ h => absurd h List.not_mem_nil⟩⟩⟩⟩⟩⟩⟩⟩⟩⟩⟩⟩⟩⟩⟩⟩
theorem lw_p32 : lw_okq (⟨"ColdHouseModel", "shares", "(I)Z"⟩, 39) := ⟨⟨by decide +kernel, by decide +kernel⟩, List.mem_of_getElem? (i := 564) (by decide +kernel), List.mem_of_getElem? (i := 867) (by decide +kernel), List.mem_of_getElem? (i := 868) (by decide +kernel)⟩
def lw_privs_3 : List (MethodName × Nat) := [(⟨"ColdHouseModel", "shares", "(I)Z"⟩, 39)]
theorem lw_r3 : ∀ q ∈ lw_privs_3, lw_okq q := List.forall_mem_cons.mpr ⟨lw_p32, fun _ h => absurd h List.not_mem_nil⟩
def lw_privs : List (MethodName × Nat) := lw_privs_1 ++ (lw_privs_2 ++ (lw_privs_3))
def lw_tbl : List Cond := k2_sels lw_privs ++ tables_1
theorem lw_privs_ok : ∀ q ∈ lw_privs, lw_okq q := by
  show ∀ q ∈ lw_privs_1 ++ (lw_privs_2 ++ (lw_privs_3)), lw_okq q
  exact List.forall_mem_append.mpr ⟨lw_r1, List.forall_mem_append.mpr ⟨lw_r2, lw_r3⟩⟩
def RX0 : String := "ColdHouse$Image"
def TX0 : u_T := fun k => match k with
  | 0 => ("ColdHouse$Image", "ring", "LColdHouse$Ring;", true)
  | 1 => ("ColdHouse$Image", "beginning", "LColdHouse$State;", true)
  | _ => ("ColdHouse$Image", "kept", "Z", false)
def tyX0 : Nat → FieldType := fun k => match k with
  | 0 => .object "ColdHouse$Ring"
  | 1 => .object "ColdHouse$State"
  | _ => .boolean
theorem nmX0 : ∀ a, a < 3 → ∀ b, b < 3 → a ≠ b → (TX0 a).2.1 ≠ (TX0 b).2.1 := by decide +kernel
theorem tyX0_ok : ∀ k, k < 3 → parseFieldDescriptor (TX0 k).2.2.1 = some (tyX0 k) := by decide +kernel
abbrev cX0_init : ByteArray := prog_2_method_1_code
def yX0_init : MethodName := ⟨RX0, "<init>", "()V"⟩
def RX1 : String := "ColdHouse$Ratio"
def TX1 : u_T := fun k => match k with
  | 0 => ("ColdHouse$Ratio", "up", "J", false)
  | _ => ("ColdHouse$Ratio", "low", "J", false)
def tyX1 : Nat → FieldType := fun k => match k with
  | 0 => .long
  | _ => .long
theorem nmX1 : ∀ a, a < 2 → ∀ b, b < 2 → a ≠ b → (TX1 a).2.1 ≠ (TX1 b).2.1 := by decide +kernel
theorem tyX1_ok : ∀ k, k < 2 → parseFieldDescriptor (TX1 k).2.2.1 = some (tyX1 k) := by decide +kernel
abbrev cX1_init : ByteArray := prog_3_method_1_code
def yX1_init : MethodName := ⟨RX1, "<init>", "()V"⟩
abbrev cX1_put : ByteArray := prog_3_method_2_code
def yX1_put : MethodName := ⟨RX1, "put", "(JJ)V"⟩
abbrev cX1_copy : ByteArray := prog_3_method_3_code
def yX1_copy : MethodName := ⟨RX1, "copy", "(LColdHouse$Ratio;)V"⟩
abbrev cX1_side : ByteArray := prog_3_method_4_code
def yX1_side : MethodName := ⟨RX1, "side", "(I)J"⟩
abbrev cX1_putSum : ByteArray := prog_3_method_5_code
def yX1_putSum : MethodName := ⟨RX1, "putSum", "(LColdHouse$Ratio;ILColdHouse$Ratio;)Z"⟩
abbrev cX1_over : ByteArray := prog_3_method_6_code
def yX1_over : MethodName := ⟨RX1, "over", "(J)J"⟩
abbrev cX1_above : ByteArray := prog_3_method_7_code
def yX1_above : MethodName := ⟨RX1, "above", "(LColdHouse$Ratio;)Z"⟩
abbrev cX1_greatest : ByteArray := prog_3_method_8_code
def yX1_greatest : MethodName := ⟨RX1, "greatest", "(JJ)J"⟩
abbrev cX1_common : ByteArray := prog_3_method_9_code
def yX1_common : MethodName := ⟨RX1, "common", "(JJJ)J"⟩
def RX2 : String := "ColdHouse$Ring"
def TX2 : u_T := fun k => match k with
  | 0 => ("ColdHouse$Ring", "kind", "[I", true)
  | 1 => ("ColdHouse$Ring", "a", "[I", true)
  | 2 => ("ColdHouse$Ring", "b", "[I", true)
  | _ => ("ColdHouse$Ring", "size", "I", false)
def tyX2 : Nat → FieldType := fun k => match k with
  | 0 => .array .int
  | 1 => .array .int
  | 2 => .array .int
  | _ => .int
theorem nmX2 : ∀ a, a < 4 → ∀ b, b < 4 → a ≠ b → (TX2 a).2.1 ≠ (TX2 b).2.1 := by decide +kernel
theorem tyX2_ok : ∀ k, k < 4 → parseFieldDescriptor (TX2 k).2.2.1 = some (tyX2 k) := by decide +kernel
abbrev cX2_init : ByteArray := prog_4_method_1_code
def yX2_init : MethodName := ⟨RX2, "<init>", "()V"⟩
abbrev cX2_has : ByteArray := prog_4_method_2_code
def yX2_has : MethodName := ⟨RX2, "has", "(I)Z"⟩
abbrev cX2_canTurn : ByteArray := prog_4_method_3_code
def yX2_canTurn : MethodName := ⟨RX2, "canTurn", "(I)Z"⟩
abbrev cX2_append : ByteArray := prog_4_method_4_code
def yX2_append : MethodName := ⟨RX2, "append", "(III)I"⟩
abbrev cX2_copy : ByteArray := prog_4_method_5_code
def yX2_copy : MethodName := ⟨RX2, "copy", "(LColdHouse$Ring;)V"⟩
def RX3 : String := "ColdHouse$Sheet"
def TX3 : u_T := fun k => match k with
  | 0 => ("ColdHouse$Sheet", "row", "[I", true)
  | 1 => ("ColdHouse$Sheet", "there", "Z", false)
  | 2 => ("ColdHouse$Sheet", "sort", "I", false)
  | _ => ("ColdHouse$Sheet", "length", "I", false)
def tyX3 : Nat → FieldType := fun k => match k with
  | 0 => .array .int
  | 1 => .boolean
  | 2 => .int
  | _ => .int
theorem nmX3 : ∀ a, a < 4 → ∀ b, b < 4 → a ≠ b → (TX3 a).2.1 ≠ (TX3 b).2.1 := by decide +kernel
theorem tyX3_ok : ∀ k, k < 4 → parseFieldDescriptor (TX3 k).2.2.1 = some (tyX3 k) := by decide +kernel
abbrev cX3_init : ByteArray := prog_5_method_1_code
def yX3_init : MethodName := ⟨RX3, "<init>", "()V"⟩
abbrev cX3_begin : ByteArray := prog_5_method_2_code
def yX3_begin : MethodName := ⟨RX3, "begin", "(II)V"⟩
abbrev cX3_keep : ByteArray := prog_5_method_3_code
def yX3_keep : MethodName := ⟨RX3, "keep", "(II)V"⟩
def RX4 : String := "ColdHouse$State"
def TX4 : u_T := fun k => match k with
  | 0 => ("ColdHouse$State", "heat", "LColdHouse$Ratio;", true)
  | _ => ("ColdHouse$State", "pressure", "I", false)
def tyX4 : Nat → FieldType := fun k => match k with
  | 0 => .object "ColdHouse$Ratio"
  | _ => .int
theorem nmX4 : ∀ a, a < 2 → ∀ b, b < 2 → a ≠ b → (TX4 a).2.1 ≠ (TX4 b).2.1 := by decide +kernel
theorem tyX4_ok : ∀ k, k < 2 → parseFieldDescriptor (TX4 k).2.2.1 = some (tyX4 k) := by decide +kernel
abbrev cX4_init : ByteArray := prog_6_method_1_code
def yX4_init : MethodName := ⟨RX4, "<init>", "()V"⟩
abbrev cX4_begin : ByteArray := prog_6_method_2_code
def yX4_begin : MethodName := ⟨RX4, "begin", "(IJJ)V"⟩
abbrev cX4_copy : ByteArray := prog_6_method_3_code
def yX4_copy : MethodName := ⟨RX4, "copy", "(LColdHouse$State;)V"⟩
abbrev cX4_same : ByteArray := prog_6_method_4_code
def yX4_same : MethodName := ⟨RX4, "same", "(LColdHouse$State;)Z"⟩
def RX5 : String := "ColdHouse$Stuff"
def TX5 : u_T := fun k => match k with
  | 0 => ("ColdHouse$Stuff", "tables", "[LColdHouse$Table;", true)
  | 1 => ("ColdHouse$Stuff", "aim", "LColdHouse$Ratio;", true)
  | 2 => ("ColdHouse$Stuff", "more", "LColdHouse$Ratio;", true)
  | _ => ("ColdHouse$Stuff", "size", "I", false)
def tyX5 : Nat → FieldType := fun k => match k with
  | 0 => .array (.object "ColdHouse$Table")
  | 1 => .object "ColdHouse$Ratio"
  | 2 => .object "ColdHouse$Ratio"
  | _ => .int
theorem nmX5 : ∀ a, a < 4 → ∀ b, b < 4 → a ≠ b → (TX5 a).2.1 ≠ (TX5 b).2.1 := by decide +kernel
theorem tyX5_ok : ∀ k, k < 4 → parseFieldDescriptor (TX5 k).2.2.1 = some (tyX5 k) := by decide +kernel
abbrev cX5_init : ByteArray := prog_7_method_1_code
def yX5_init : MethodName := ⟨RX5, "<init>", "()V"⟩
abbrev cX5_take : ByteArray := prog_7_method_2_code
def yX5_take : MethodName := ⟨RX5, "take", "(LColdHouse$Table;)I"⟩
abbrev cX5_tableAt : ByteArray := prog_7_method_3_code
def yX5_tableAt : MethodName := ⟨RX5, "tableAt", "(I)LColdHouse$Table;"⟩
abbrev cX5_passes : ByteArray := prog_7_method_4_code
def yX5_passes : MethodName := ⟨RX5, "passes", "(LColdHouse$Ring;ILColdHouse$State;LColdHouse$State;)Z"⟩
abbrev cX5_press : ByteArray := prog_7_method_5_code
def yX5_press : MethodName := ⟨RX5, "press", "(LColdHouse$Table;LColdHouse$Table;ILColdHouse$Ratio;LColdHouse$Ratio;)Z"⟩
abbrev cX5_coil : ByteArray := prog_7_method_6_code
def yX5_coil : MethodName := ⟨RX5, "coil", "(LColdHouse$Table;IILColdHouse$Ratio;)Z"⟩
abbrev cX5_isDryEnough : ByteArray := prog_7_method_7_code
def yX5_isDryEnough : MethodName := ⟨RX5, "isDryEnough", "(LColdHouse$Table;ILColdHouse$Ratio;)Z"⟩
def RX6 : String := "ColdHouse$Table"
def TX6 : u_T := fun k => match k with
  | 0 => ("ColdHouse$Table", "heat", "[I", true)
  | 1 => ("ColdHouse$Table", "order", "[I", true)
  | 2 => ("ColdHouse$Table", "warmth", "[I", true)
  | _ => ("ColdHouse$Table", "size", "I", true)
def tyX6 : Nat → FieldType := fun k => match k with
  | 0 => .array .int
  | 1 => .array .int
  | 2 => .array .int
  | _ => .int
theorem nmX6 : ∀ a, a < 4 → ∀ b, b < 4 → a ≠ b → (TX6 a).2.1 ≠ (TX6 b).2.1 := by decide +kernel
theorem tyX6_ok : ∀ k, k < 4 → parseFieldDescriptor (TX6 k).2.2.1 = some (tyX6 k) := by decide +kernel
abbrev cX6_init : ByteArray := prog_8_method_1_code
def yX6_init : MethodName := ⟨RX6, "<init>", "([II)V"⟩
abbrev cX6_canBe : ByteArray := prog_8_method_2_code
def yX6_canBe : MethodName := ⟨RX6, "canBe", "()Z"⟩
abbrev cX6_follows : ByteArray := prog_8_method_3_code
def yX6_follows : MethodName := ⟨RX6, "follows", "(I)Z"⟩
abbrev cX6_holds : ByteArray := prog_8_method_4_code
def yX6_holds : MethodName := ⟨RX6, "holds", "(JJ)Z"⟩
abbrev cX6_between : ByteArray := prog_8_method_5_code
def yX6_between : MethodName := ⟨RX6, "between", "([I[IILColdHouse$Ratio;LColdHouse$Ratio;)Z"⟩
abbrev cX6_wetShare : ByteArray := prog_8_method_6_code
def yX6_wetShare : MethodName := ⟨RX6, "wetShare", "(LColdHouse$Ratio;LColdHouse$Ratio;)V"⟩
def RX7 : String := "ColdHouse$Walk"
def TX7 : u_T := fun k => match k with
  | 0 => ("ColdHouse$Walk", "states", "[LColdHouse$State;", true)
  | 1 => ("ColdHouse$Walk", "kinds", "[I", true)
  | 2 => ("ColdHouse$Walk", "work", "LColdHouse$Ratio;", true)
  | 3 => ("ColdHouse$Walk", "warmed", "LColdHouse$Ratio;", true)
  | 4 => ("ColdHouse$Walk", "cooled", "LColdHouse$Ratio;", true)
  | 5 => ("ColdHouse$Walk", "share", "LColdHouse$Ratio;", true)
  | 6 => ("ColdHouse$Walk", "steps", "I", false)
  | 7 => ("ColdHouse$Walk", "made", "Z", false)
  | 8 => ("ColdHouse$Walk", "stopped", "Z", false)
  | 9 => ("ColdHouse$Walk", "told", "Z", false)
  | _ => ("ColdHouse$Walk", "shared", "Z", false)
def tyX7 : Nat → FieldType := fun k => match k with
  | 0 => .array (.object "ColdHouse$State")
  | 1 => .array .int
  | 2 => .object "ColdHouse$Ratio"
  | 3 => .object "ColdHouse$Ratio"
  | 4 => .object "ColdHouse$Ratio"
  | 5 => .object "ColdHouse$Ratio"
  | 6 => .int
  | 7 => .boolean
  | 8 => .boolean
  | 9 => .boolean
  | _ => .boolean
theorem nmX7 : ∀ a, a < 11 → ∀ b, b < 11 → a ≠ b → (TX7 a).2.1 ≠ (TX7 b).2.1 := by decide +kernel
theorem tyX7_ok : ∀ k, k < 11 → parseFieldDescriptor (TX7 k).2.2.1 = some (tyX7 k) := by decide +kernel
abbrev cX7_init : ByteArray := prog_9_method_1_code
def yX7_init : MethodName := ⟨RX7, "<init>", "()V"⟩
abbrev cX7_goThrough : ByteArray := prog_9_method_2_code
def yX7_goThrough : MethodName := ⟨RX7, "goThrough", "(LColdHouse$Ring;LColdHouse$State;LColdHouse$Stuff;)V"⟩
abbrev cX7_comesRound : ByteArray := prog_9_method_3_code
def yX7_comesRound : MethodName := ⟨RX7, "comesRound", "()Z"⟩
abbrev cX7_sumUp : ByteArray := prog_9_method_4_code
def yX7_sumUp : MethodName := ⟨RX7, "sumUp", "()V"⟩
abbrev cX7_commonLower : ByteArray := prog_9_method_5_code
def yX7_commonLower : MethodName := ⟨RX7, "commonLower", "()J"⟩
def RX8 : String := "ColdHouse"
def TX8 : u_T := fun k => match k with
  | 0 => ("ColdHouse", "sheets", "[LColdHouse$Sheet;", true)
  | 1 => ("ColdHouse", "stuff", "LColdHouse$Stuff;", true)
  | 2 => ("ColdHouse", "ring", "LColdHouse$Ring;", true)
  | 3 => ("ColdHouse", "latest", "LColdHouse$Walk;", true)
  | 4 => ("ColdHouse", "images", "[LColdHouse$Image;", true)
  | 5 => ("ColdHouse", "trialRing", "LColdHouse$Ring;", true)
  | 6 => ("ColdHouse", "trial", "LColdHouse$Walk;", true)
  | 7 => ("ColdHouse", "asked", "LColdHouse$State;", true)
  | 8 => ("ColdHouse", "answer", "LColdHouse$Ratio;", true)
  | 9 => ("ColdHouse", "ahead", "LColdHouse$Ratio;", true)
  | 10 => ("ColdHouse", "after", "LColdHouse$Ratio;", true)
  | _ => ("ColdHouse", "refusedBy", "I", false)
def tyX8 : Nat → FieldType := fun k => match k with
  | 0 => .array (.object "ColdHouse$Sheet")
  | 1 => .object "ColdHouse$Stuff"
  | 2 => .object "ColdHouse$Ring"
  | 3 => .object "ColdHouse$Walk"
  | 4 => .array (.object "ColdHouse$Image")
  | 5 => .object "ColdHouse$Ring"
  | 6 => .object "ColdHouse$Walk"
  | 7 => .object "ColdHouse$State"
  | 8 => .object "ColdHouse$Ratio"
  | 9 => .object "ColdHouse$Ratio"
  | 10 => .object "ColdHouse$Ratio"
  | _ => .int
theorem nmX8 : ∀ a, a < 12 → ∀ b, b < 12 → a ≠ b → (TX8 a).2.1 ≠ (TX8 b).2.1 := by decide +kernel
theorem tyX8_ok : ∀ k, k < 12 → parseFieldDescriptor (TX8 k).2.2.1 = some (tyX8 k) := by decide +kernel
abbrev cX8_init : ByteArray := prog_1_method_1_code
def yX8_init : MethodName := ⟨RX8, "<init>", "()V"⟩
abbrev cX8_sheet : ByteArray := prog_1_method_2_code
def yX8_sheet : MethodName := ⟨RX8, "sheet", "(III)I"⟩
abbrev cX8_write : ByteArray := prog_1_method_3_code
def yX8_write : MethodName := ⟨RX8, "write", "(III)I"⟩
abbrev cX8_pressure : ByteArray := prog_1_method_4_code
def yX8_pressure : MethodName := ⟨RX8, "pressure", "(II)I"⟩
abbrev cX8_point : ByteArray := prog_1_method_5_code
def yX8_point : MethodName := ⟨RX8, "point", "(III)I"⟩
abbrev cX8_state : ByteArray := prog_1_method_6_code
def yX8_state : MethodName := ⟨RX8, "state", "(IJJI)J"⟩
abbrev cX8_part : ByteArray := prog_1_method_7_code
def yX8_part : MethodName := ⟨RX8, "part", "(III)I"⟩
abbrev cX8_set : ByteArray := prog_1_method_8_code
def yX8_set : MethodName := ⟨RX8, "set", "(III)I"⟩
abbrev cX8_clear : ByteArray := prog_1_method_9_code
def yX8_clear : MethodName := ⟨RX8, "clear", "()I"⟩
abbrev cX8_run : ByteArray := prog_1_method_10_code
def yX8_run : MethodName := ⟨RX8, "run", "(IJJ)I"⟩
abbrev cX8_behind : ByteArray := prog_1_method_11_code
def yX8_behind : MethodName := ⟨RX8, "behind", "(II)J"⟩
abbrev cX8_did : ByteArray := prog_1_method_12_code
def yX8_did : MethodName := ⟨RX8, "did", "(II)J"⟩
abbrev cX8_total : ByteArray := prog_1_method_13_code
def yX8_total : MethodName := ⟨RX8, "total", "(I)J"⟩
abbrev cX8_round : ByteArray := prog_1_method_14_code
def yX8_round : MethodName := ⟨RX8, "round", "()I"⟩
abbrev cX8_best : ByteArray := prog_1_method_15_code
def yX8_best : MethodName := ⟨RX8, "best", "(II)I"⟩
abbrev cX8_image : ByteArray := prog_1_method_16_code
def yX8_image : MethodName := ⟨RX8, "image", "(I)I"⟩
abbrev cX8_back : ByteArray := prog_1_method_17_code
def yX8_back : MethodName := ⟨RX8, "back", "(I)I"⟩
abbrev cX8_joined : ByteArray := prog_1_method_18_code
def yX8_joined : MethodName := ⟨RX8, "joined", "(III)J"⟩
abbrev cX8_count : ByteArray := prog_1_method_19_code
def yX8_count : MethodName := ⟨RX8, "count", "(I)I"⟩
abbrev cX8_status : ByteArray := prog_1_method_20_code
def yX8_status : MethodName := ⟨RX8, "status", "()I"⟩
abbrev cX8_refuse : ByteArray := prog_1_method_21_code
def yX8_refuse : MethodName := ⟨RX8, "refuse", "(I)I"⟩
abbrev cX8_accept : ByteArray := prog_1_method_22_code
def yX8_accept : MethodName := ⟨RX8, "accept", "(I)I"⟩
abbrev cX8_sheetAt : ByteArray := prog_1_method_23_code
def yX8_sheetAt : MethodName := ⟨RX8, "sheetAt", "(I)LColdHouse$Sheet;"⟩
abbrev cX8_imageAt : ByteArray := prog_1_method_24_code
def yX8_imageAt : MethodName := ⟨RX8, "imageAt", "(I)LColdHouse$Image;"⟩
abbrev cX8_sheetsThere : ByteArray := prog_1_method_25_code
def yX8_sheetsThere : MethodName := ⟨RX8, "sheetsThere", "()I"⟩
abbrev cX8_orderMade : ByteArray := prog_1_method_26_code
def yX8_orderMade : MethodName := ⟨RX8, "orderMade", "(LColdHouse$State;LColdHouse$State;)Z"⟩
abbrev cX8_within : ByteArray := prog_1_method_27_code
def yX8_within : MethodName := ⟨RX8, "within", "(III)Z"⟩
abbrev cX8_canBeLower : ByteArray := prog_1_method_28_code
def yX8_canBeLower : MethodName := ⟨RX8, "canBeLower", "(J)Z"⟩
abbrev cX8_canBeJoined : ByteArray := prog_1_method_29_code
def yX8_canBeJoined : MethodName := ⟨RX8, "canBeJoined", "(LColdHouse$Ratio;)Z"⟩
abbrev cX8_changesPressure : ByteArray := prog_1_method_30_code
def yX8_changesPressure : MethodName := ⟨RX8, "changesPressure", "(I)Z"⟩
abbrev cX8_numbersCanBe : ByteArray := prog_1_method_31_code
def yX8_numbersCanBe : MethodName := ⟨RX8, "numbersCanBe", "(III)Z"⟩
def RX9 : String := "ColdHouseModel"
def TX9 : u_T := fun k => match k with
  | 0 => ("ColdHouseModel", "status", "I", false)
  | 1 => ("ColdHouseModel", "sheetSort", "[I", true)
  | 2 => ("ColdHouseModel", "sheetSize", "[I", true)
  | 3 => ("ColdHouseModel", "sheetRow", "[I", true)
  | 4 => ("ColdHouseModel", "pressures", "I", false)
  | 5 => ("ColdHouseModel", "points", "[I", true)
  | 6 => ("ColdHouseModel", "heat", "[I", true)
  | 7 => ("ColdHouseModel", "order", "[I", true)
  | 8 => ("ColdHouseModel", "warmth", "[I", true)
  | 9 => ("ColdHouseModel", "gotUp", "J", false)
  | 10 => ("ColdHouseModel", "gotLow", "J", false)
  | 11 => ("ColdHouseModel", "parts", "I", false)
  | 12 => ("ColdHouseModel", "kind", "[I", true)
  | 13 => ("ColdHouseModel", "a", "[I", true)
  | 14 => ("ColdHouseModel", "b", "[I", true)
  | 15 => ("ColdHouseModel", "atPressure", "[I", true)
  | 16 => ("ColdHouseModel", "atUp", "[J", true)
  | 17 => ("ColdHouseModel", "atLow", "[J", true)
  | 18 => ("ColdHouseModel", "ranKind", "[I", true)
  | 19 => ("ColdHouseModel", "went", "I", false)
  | 20 => ("ColdHouseModel", "ranParts", "I", false)
  | 21 => ("ColdHouseModel", "hasRun", "Z", false)
  | 22 => ("ColdHouseModel", "common", "J", false)
  | 23 => ("ColdHouseModel", "work", "J", false)
  | 24 => ("ColdHouseModel", "warmed", "J", false)
  | 25 => ("ColdHouseModel", "cooled", "J", false)
  | 26 => ("ColdHouseModel", "asidePressure", "[I", true)
  | 27 => ("ColdHouseModel", "asideUp", "[J", true)
  | 28 => ("ColdHouseModel", "asideLow", "[J", true)
  | 29 => ("ColdHouseModel", "asideKind", "[I", true)
  | 30 => ("ColdHouseModel", "asideWent", "I", false)
  | 31 => ("ColdHouseModel", "asideParts", "I", false)
  | 32 => ("ColdHouseModel", "isKept", "[Z", true)
  | 33 => ("ColdHouseModel", "kept", "[I", true)
  | 34 => ("ColdHouseModel", "keptUp", "[J", true)
  | 35 => ("ColdHouseModel", "keptLow", "[J", true)
  | 36 => ("ColdHouseModel", "own", "[I", true)
  | 37 => ("ColdHouseModel", "shareUp", "J", false)
  | _ => ("ColdHouseModel", "shareLow", "J", false)
def tyX9 : Nat → FieldType := fun k => match k with
  | 0 => .int
  | 1 => .array .int
  | 2 => .array .int
  | 3 => .array .int
  | 4 => .int
  | 5 => .array .int
  | 6 => .array .int
  | 7 => .array .int
  | 8 => .array .int
  | 9 => .long
  | 10 => .long
  | 11 => .int
  | 12 => .array .int
  | 13 => .array .int
  | 14 => .array .int
  | 15 => .array .int
  | 16 => .array .long
  | 17 => .array .long
  | 18 => .array .int
  | 19 => .int
  | 20 => .int
  | 21 => .boolean
  | 22 => .long
  | 23 => .long
  | 24 => .long
  | 25 => .long
  | 26 => .array .int
  | 27 => .array .long
  | 28 => .array .long
  | 29 => .array .int
  | 30 => .int
  | 31 => .int
  | 32 => .array .boolean
  | 33 => .array .int
  | 34 => .array .long
  | 35 => .array .long
  | 36 => .array .int
  | 37 => .long
  | _ => .long
theorem nmX9 : ∀ a, a < 39 → ∀ b, b < 39 → a ≠ b → (TX9 a).2.1 ≠ (TX9 b).2.1 := by decide +kernel
theorem tyX9_ok : ∀ k, k < 39 → parseFieldDescriptor (TX9 k).2.2.1 = some (tyX9 k) := by decide +kernel
abbrev cX9_init : ByteArray := prog_11_method_1_code
def yX9_init : MethodName := ⟨RX9, "<init>", "()V"⟩
abbrev cX9_in : ByteArray := prog_11_method_2_code
def yX9_in : MethodName := ⟨RX9, "in", "(JJJ)Z"⟩
abbrev cX9_ends : ByteArray := prog_11_method_3_code
def yX9_ends : MethodName := ⟨RX9, "ends", "(I)I"⟩
abbrev cX9_gcd : ByteArray := prog_11_method_4_code
def yX9_gcd : MethodName := ⟨RX9, "gcd", "(JJ)J"⟩
abbrev cX9_sheet : ByteArray := prog_11_method_5_code
def yX9_sheet : MethodName := ⟨RX9, "sheet", "(III)I"⟩
abbrev cX9_write : ByteArray := prog_11_method_6_code
def yX9_write : MethodName := ⟨RX9, "write", "(III)I"⟩
abbrev cX9_pressure : ByteArray := prog_11_method_7_code
def yX9_pressure : MethodName := ⟨RX9, "pressure", "(II)I"⟩
abbrev cX9_isPressure : ByteArray := prog_11_method_8_code
def yX9_isPressure : MethodName := ⟨RX9, "isPressure", "(I)Z"⟩
abbrev cX9_point : ByteArray := prog_11_method_9_code
def yX9_point : MethodName := ⟨RX9, "point", "(III)I"⟩
abbrev cX9_last : ByteArray := prog_11_method_10_code
def yX9_last : MethodName := ⟨RX9, "last", "(I)I"⟩
abbrev cX9_isWithin : ByteArray := prog_11_method_11_code
def yX9_isWithin : MethodName := ⟨RX9, "isWithin", "(IJJ)Z"⟩
abbrev cX9_segment : ByteArray := prog_11_method_12_code
def yX9_segment : MethodName := ⟨RX9, "segment", "(IJJ)I"⟩
abbrev cX9_gets : ByteArray := prog_11_method_13_code
def yX9_gets : MethodName := ⟨RX9, "gets", "(JJ)V"⟩
abbrev cX9_reads : ByteArray := prog_11_method_14_code
def yX9_reads : MethodName := ⟨RX9, "reads", "(IJJI)V"⟩
abbrev cX9_wets : ByteArray := prog_11_method_15_code
def yX9_wets : MethodName := ⟨RX9, "wets", "(IJJ)V"⟩
abbrev cX9_state : ByteArray := prog_11_method_16_code
def yX9_state : MethodName := ⟨RX9, "state", "(IJJI)J"⟩
abbrev cX9_areGood : ByteArray := prog_11_method_17_code
def yX9_areGood : MethodName := ⟨RX9, "areGood", "(III)Z"⟩
abbrev cX9_part : ByteArray := prog_11_method_18_code
def yX9_part : MethodName := ⟨RX9, "part", "(III)I"⟩
abbrev cX9_set : ByteArray := prog_11_method_19_code
def yX9_set : MethodName := ⟨RX9, "set", "(III)I"⟩
abbrev cX9_clear : ByteArray := prog_11_method_20_code
def yX9_clear : MethodName := ⟨RX9, "clear", "()I"⟩
abbrev cX9_finds : ByteArray := prog_11_method_21_code
def yX9_finds : MethodName := ⟨RX9, "finds", "(IJJ)Z"⟩
abbrev cX9_presses : ByteArray := prog_11_method_22_code
def yX9_presses : MethodName := ⟨RX9, "presses", "(IIJJ)Z"⟩
abbrev cX9_warms : ByteArray := prog_11_method_23_code
def yX9_warms : MethodName := ⟨RX9, "warms", "(II)Z"⟩
abbrev cX9_goes : ByteArray := prog_11_method_24_code
def yX9_goes : MethodName := ⟨RX9, "goes", "(IIJJ)Z"⟩
abbrev cX9_runs : ByteArray := prog_11_method_25_code
def yX9_runs : MethodName := ⟨RX9, "runs", "(IJJ)V"⟩
abbrev cX9_run : ByteArray := prog_11_method_26_code
def yX9_run : MethodName := ⟨RX9, "run", "(IJJ)I"⟩
abbrev cX9_behind : ByteArray := prog_11_method_27_code
def yX9_behind : MethodName := ⟨RX9, "behind", "(II)J"⟩
abbrev cX9_did : ByteArray := prog_11_method_28_code
def yX9_did : MethodName := ⟨RX9, "did", "(II)J"⟩
abbrev cX9_isRound : ByteArray := prog_11_method_29_code
def yX9_isRound : MethodName := ⟨RX9, "isRound", "()Z"⟩
abbrev cX9_round : ByteArray := prog_11_method_30_code
def yX9_round : MethodName := ⟨RX9, "round", "()I"⟩
abbrev cX9_sums : ByteArray := prog_11_method_31_code
def yX9_sums : MethodName := ⟨RX9, "sums", "()Z"⟩
abbrev cX9_hasShare : ByteArray := prog_11_method_32_code
def yX9_hasShare : MethodName := ⟨RX9, "hasShare", "()Z"⟩
abbrev cX9_total : ByteArray := prog_11_method_33_code
def yX9_total : MethodName := ⟨RX9, "total", "(I)J"⟩
abbrev cX9_isMore : ByteArray := prog_11_method_34_code
def yX9_isMore : MethodName := ⟨RX9, "isMore", "(JJJJ)Z"⟩
abbrev cX9_best : ByteArray := prog_11_method_35_code
def yX9_best : MethodName := ⟨RX9, "best", "(II)I"⟩
abbrev cX9_keepsRun : ByteArray := prog_11_method_36_code
def yX9_keepsRun : MethodName := ⟨RX9, "keepsRun", "()V"⟩
abbrev cX9_bringsRun : ByteArray := prog_11_method_37_code
def yX9_bringsRun : MethodName := ⟨RX9, "bringsRun", "()V"⟩
abbrev cX9_image : ByteArray := prog_11_method_38_code
def yX9_image : MethodName := ⟨RX9, "image", "(I)I"⟩
abbrev cX9_lays : ByteArray := prog_11_method_39_code
def yX9_lays : MethodName := ⟨RX9, "lays", "(I)V"⟩
abbrev cX9_takes : ByteArray := prog_11_method_40_code
def yX9_takes : MethodName := ⟨RX9, "takes", "([II)V"⟩
abbrev cX9_back : ByteArray := prog_11_method_41_code
def yX9_back : MethodName := ⟨RX9, "back", "(I)I"⟩
abbrev cX9_shares : ByteArray := prog_11_method_42_code
def yX9_shares : MethodName := ⟨RX9, "shares", "(I)Z"⟩
abbrev cX9_joined : ByteArray := prog_11_method_43_code
def yX9_joined : MethodName := ⟨RX9, "joined", "(III)J"⟩
abbrev cX9_count : ByteArray := prog_11_method_44_code
def yX9_count : MethodName := ⟨RX9, "count", "(I)I"⟩
abbrev cX9_status : ByteArray := prog_11_method_45_code
def yX9_status : MethodName := ⟨RX9, "status", "()I"⟩
def RJ9 : String := "java/lang/Math"
def TJ9 : u_T := fun k => match k with
  | _ => ("", "", "", false)
def tyJ9 : Nat → FieldType := fun k => match k with
  | _ => .int
theorem nmJ9 : ∀ a, a < 0 → ∀ b, b < 0 → a ≠ b → (TJ9 a).2.1 ≠ (TJ9 b).2.1 := by decide +kernel
theorem tyJ9_ok : ∀ k, k < 0 → parseFieldDescriptor (TJ9 k).2.2.1 = some (tyJ9 k) := by decide +kernel
abbrev cJ9_abs_067f4 : ByteArray := prog_12_method_61_code
def yJ9_abs_067f4 : MethodName := ⟨RJ9, "abs", "(J)J"⟩
abbrev cJ9_max_7cf53 : ByteArray := prog_12_method_65_code
def yJ9_max_7cf53 : MethodName := ⟨RJ9, "max", "(II)I"⟩
abbrev cJ9_max_f86c9 : ByteArray := prog_12_method_66_code
def yJ9_max_f86c9 : MethodName := ⟨RJ9, "max", "(JJ)J"⟩
abbrev cJ9_min_7cf53 : ByteArray := prog_12_method_69_code
def yJ9_min_7cf53 : MethodName := ⟨RJ9, "min", "(II)I"⟩
abbrev vwCl : List vw_C := [(RX0, TX0, 3), (RX1, TX1, 2), (RX2, TX2, 4), (RX3, TX3, 4), (RX4, TX4, 2), (RX5, TX5, 4), (RX6, TX6, 4), (RX7, TX7, 11), (RX8, TX8, 12), (RX9, TX9, 39)]
