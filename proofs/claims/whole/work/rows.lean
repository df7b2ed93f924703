section
-- ===== PART A: goes FIRST, ahead of the names: the tables' words, and 'selects' of the private methods out of them =====
/-- a private method of a class that the tables say can be made, by its rows of tables_1 -/
def lw_okq (q : MethodName × Nat) : Prop := (q.1.cls ≠ "java/lang/invoke/MethodHandle" ∧ q.1.cls ≠ "java/lang/invoke/VarHandle") ∧ Cond.instantiable q.1.cls q.2 ∈ tables_1 ∧ Cond.privateMethod q.1 ∈ tables_1 ∧ Cond.instanceMethod q.1 ∈ tables_1
theorem lw_p0 : lw_okq (⟨"ItemStates", "isBarcode", "(JI)Z"⟩, 6) := ⟨⟨by decide +kernel, by decide +kernel⟩, List.mem_of_getElem? (i := 7) (by decide +kernel), List.mem_of_getElem? (i := 56) (by decide +kernel), List.mem_of_getElem? (i := 57) (by decide +kernel)⟩
theorem lw_p1 : lw_okq (⟨"ItemStates", "isTaken", "(JI)Z"⟩, 6) := ⟨⟨by decide +kernel, by decide +kernel⟩, List.mem_of_getElem? (i := 7) (by decide +kernel), List.mem_of_getElem? (i := 61) (by decide +kernel), List.mem_of_getElem? (i := 62) (by decide +kernel)⟩
theorem lw_p2 : lw_okq (⟨"ItemStates", "find", "(I)LItemStates$Copy;"⟩, 6) := ⟨⟨by decide +kernel, by decide +kernel⟩, List.mem_of_getElem? (i := 7) (by decide +kernel), List.mem_of_getElem? (i := 65) (by decide +kernel), List.mem_of_getElem? (i := 66) (by decide +kernel)⟩
theorem lw_p3 : lw_okq (⟨"ItemStates", "hasRight", "(II)Z"⟩, 6) := ⟨⟨by decide +kernel, by decide +kernel⟩, List.mem_of_getElem? (i := 7) (by decide +kernel), List.mem_of_getElem? (i := 69) (by decide +kernel), List.mem_of_getElem? (i := 70) (by decide +kernel)⟩
theorem lw_p4 : lw_okq (⟨"ItemStates", "lacksRight", "(LItemStates$Copy;IIZ)Z"⟩, 6) := ⟨⟨by decide +kernel, by decide +kernel⟩, List.mem_of_getElem? (i := 7) (by decide +kernel), List.mem_of_getElem? (i := 142) (by decide +kernel), List.mem_of_getElem? (i := 143) (by decide +kernel)⟩
theorem lw_p5 : lw_okq (⟨"ItemStates", "enter", "(LItemStates$Copy;JIZ)V"⟩, 6) := ⟨⟨by decide +kernel, by decide +kernel⟩, List.mem_of_getElem? (i := 7) (by decide +kernel), List.mem_of_getElem? (i := 146) (by decide +kernel), List.mem_of_getElem? (i := 147) (by decide +kernel)⟩
theorem lw_p6 : lw_okq (⟨"ItemStates", "carryOut", "(LItemStates$Copy;II)V"⟩, 6) := ⟨⟨by decide +kernel, by decide +kernel⟩, List.mem_of_getElem? (i := 7) (by decide +kernel), List.mem_of_getElem? (i := 176) (by decide +kernel), List.mem_of_getElem? (i := 177) (by decide +kernel)⟩
theorem lw_p7 : lw_okq (⟨"ItemStatesModel", "isCopy", "(I)Z"⟩, 19) := ⟨⟨by decide +kernel, by decide +kernel⟩, List.mem_of_getElem? (i := 215) (by decide +kernel), List.mem_of_getElem? (i := 308) (by decide +kernel), List.mem_of_getElem? (i := 309) (by decide +kernel)⟩
theorem lw_p8 : lw_okq (⟨"ItemStatesModel", "last", "(IJ)I"⟩, 19) := ⟨⟨by decide +kernel, by decide +kernel⟩, List.mem_of_getElem? (i := 215) (by decide +kernel), List.mem_of_getElem? (i := 312) (by decide +kernel), List.mem_of_getElem? (i := 313) (by decide +kernel)⟩
theorem lw_p9 : lw_okq (⟨"ItemStatesModel", "enter", "(IIZJ)V"⟩, 19) := ⟨⟨by decide +kernel, by decide +kernel⟩, List.mem_of_getElem? (i := 215) (by decide +kernel), List.mem_of_getElem? (i := 324) (by decide +kernel), List.mem_of_getElem? (i := 325) (by decide +kernel)⟩
def lw_privs_1 : List (MethodName × Nat) := [(⟨"ItemStates", "isBarcode", "(JI)Z"⟩, 6), (⟨"ItemStates", "isTaken", "(JI)Z"⟩, 6), (⟨"ItemStates", "find", "(I)LItemStates$Copy;"⟩, 6), (⟨"ItemStates", "hasRight", "(II)Z"⟩, 6), (⟨"ItemStates", "lacksRight", "(LItemStates$Copy;IIZ)Z"⟩, 6), (⟨"ItemStates", "enter", "(LItemStates$Copy;JIZ)V"⟩, 6), (⟨"ItemStates", "carryOut", "(LItemStates$Copy;II)V"⟩, 6), (⟨"ItemStatesModel", "isCopy", "(I)Z"⟩, 19), (⟨"ItemStatesModel", "last", "(IJ)I"⟩, 19), (⟨"ItemStatesModel", "enter", "(IIZJ)V"⟩, 19)]
theorem lw_r1 : ∀ q ∈ lw_privs_1, lw_okq q := List.forall_mem_cons.mpr ⟨lw_p0, List.forall_mem_cons.mpr ⟨lw_p1, List.forall_mem_cons.mpr ⟨lw_p2, List.forall_mem_cons.mpr ⟨lw_p3, List.forall_mem_cons.mpr ⟨lw_p4, List.forall_mem_cons.mpr ⟨lw_p5, List.forall_mem_cons.mpr ⟨lw_p6, List.forall_mem_cons.mpr ⟨lw_p7, List.forall_mem_cons.mpr ⟨lw_p8, List.forall_mem_cons.mpr ⟨lw_p9, fun _ h => absurd h List.not_mem_nil⟩⟩⟩⟩⟩⟩⟩⟩⟩⟩
def lw_privs : List (MethodName × Nat) := lw_privs_1
def lw_tbl : List Cond := k2_sels lw_privs ++ tables_1
theorem lw_privs_ok : ∀ q ∈ lw_privs, lw_okq q := lw_r1
end
section
def RX0 : String := "ItemStates$Copy"
def TX0 : u_T := fun k => match k with
  | 0 => ("ItemStates$Copy", "type", "I", true)
  | 1 => ("ItemStates$Copy", "barcode", "J", true)
  | 2 => ("ItemStates$Copy", "digits", "I", true)
  | 3 => ("ItemStates$Copy", "home", "I", false)
  | 4 => ("ItemStates$Copy", "place", "I", false)
  | 5 => ("ItemStates$Copy", "state", "I", false)
  | 6 => ("ItemStates$Copy", "floats", "Z", false)
  | 7 => ("ItemStates$Copy", "owed", "I", false)
  | 8 => ("ItemStates$Copy", "wantedBy", "I", false)
  | _ => ("ItemStates$Copy", "first", "LItemStates$Entry;", false)
def tyX0 : Nat → FieldType := fun k => match k with
  | 0 => .int
  | 1 => .long
  | 2 => .int
  | 3 => .int
  | 4 => .int
  | 5 => .int
  | 6 => .boolean
  | 7 => .int
  | 8 => .int
  | _ => .object "ItemStates$Entry"
theorem nmX0 : ∀ a, a < 10 → ∀ b, b < 10 → a ≠ b → (TX0 a).2.1 ≠ (TX0 b).2.1 := by decide +kernel
theorem tyX0_ok : ∀ k, k < 10 → parseFieldDescriptor (TX0 k).2.2.1 = some (tyX0 k) := by decide +kernel
def RX1 : String := "ItemStates$Entry"
def TX1 : u_T := fun k => match k with
  | 0 => ("ItemStates$Entry", "day", "J", true)
  | 1 => ("ItemStates$Entry", "state", "I", true)
  | 2 => ("ItemStates$Entry", "late", "Z", true)
  | _ => ("ItemStates$Entry", "next", "LItemStates$Entry;", false)
def tyX1 : Nat → FieldType := fun k => match k with
  | 0 => .long
  | 1 => .int
  | 2 => .boolean
  | _ => .object "ItemStates$Entry"
theorem nmX1 : ∀ a, a < 4 → ∀ b, b < 4 → a ≠ b → (TX1 a).2.1 ≠ (TX1 b).2.1 := by decide +kernel
theorem tyX1_ok : ∀ k, k < 4 → parseFieldDescriptor (TX1 k).2.2.1 = some (tyX1 k) := by decide +kernel
def RX2 : String := "ItemStates"
def TX2 : u_T := fun k => match k with
  | 0 => ("ItemStates", "copies", "[LItemStates$Copy;", true)
  | 1 => ("ItemStates", "copyCount", "I", false)
  | 2 => ("ItemStates", "denied", "[Z", true)
  | 3 => ("ItemStates", "fees", "[I", true)
  | 4 => ("ItemStates", "greatestDay", "J", false)
  | _ => ("ItemStates", "entryCount", "I", false)
def tyX2 : Nat → FieldType := fun k => match k with
  | 0 => .array (.object "ItemStates$Copy")
  | 1 => .int
  | 2 => .array .boolean
  | 3 => .array .int
  | 4 => .long
  | _ => .int
theorem nmX2 : ∀ a, a < 6 → ∀ b, b < 6 → a ≠ b → (TX2 a).2.1 ≠ (TX2 b).2.1 := by decide +kernel
theorem tyX2_ok : ∀ k, k < 6 → parseFieldDescriptor (TX2 k).2.2.1 = some (tyX2 k) := by decide +kernel
def RX3 : String := "ItemStatesModel"
def TX3 : u_T := fun k => match k with
  | 0 => ("ItemStatesModel", "thrown", "I", false)
  | 1 => ("ItemStatesModel", "copies", "I", false)
  | 2 => ("ItemStatesModel", "types", "[I", true)
  | 3 => ("ItemStatesModel", "barcodes", "[J", true)
  | 4 => ("ItemStatesModel", "sizes", "[I", true)
  | 5 => ("ItemStatesModel", "homes", "[I", true)
  | 6 => ("ItemStatesModel", "stands", "[I", true)
  | 7 => ("ItemStatesModel", "states", "[I", true)
  | 8 => ("ItemStatesModel", "floats", "[Z", true)
  | 9 => ("ItemStatesModel", "wants", "[I", true)
  | 10 => ("ItemStatesModel", "owes", "[I", true)
  | 11 => ("ItemStatesModel", "barred", "[Z", true)
  | 12 => ("ItemStatesModel", "fees", "[I", true)
  | 13 => ("ItemStatesModel", "acts", "I", false)
  | 14 => ("ItemStatesModel", "actCopy", "[I", true)
  | 15 => ("ItemStatesModel", "actState", "[I", true)
  | 16 => ("ItemStatesModel", "actLate", "[Z", true)
  | 17 => ("ItemStatesModel", "actDay", "[J", true)
  | _ => ("ItemStatesModel", "greatest", "J", false)
def tyX3 : Nat → FieldType := fun k => match k with
  | 0 => .int
  | 1 => .int
  | 2 => .array .int
  | 3 => .array .long
  | 4 => .array .int
  | 5 => .array .int
  | 6 => .array .int
  | 7 => .array .int
  | 8 => .array .boolean
  | 9 => .array .int
  | 10 => .array .int
  | 11 => .array .boolean
  | 12 => .array .int
  | 13 => .int
  | 14 => .array .int
  | 15 => .array .int
  | 16 => .array .boolean
  | 17 => .array .long
  | _ => .long
theorem nmX3 : ∀ a, a < 19 → ∀ b, b < 19 → a ≠ b → (TX3 a).2.1 ≠ (TX3 b).2.1 := by decide +kernel
theorem tyX3_ok : ∀ k, k < 19 → parseFieldDescriptor (TX3 k).2.2.1 = some (tyX3 k) := by decide +kernel
def RJ : String := "java/lang/Math"
def RL : String := "ItemStatesLaw"
abbrev vwCl : List vw_C := [(RX0, TX0, 10), (RX1, TX1, 4), (RX2, TX2, 6), (RX3, TX3, 19)]
abbrev cX2_init : ByteArray := prog_1_method_1_code
def yX2_init : MethodName := ⟨RX2, "<init>", "()V"⟩
abbrev cX2_check : ByteArray := prog_1_method_2_code
def yX2_check : MethodName := ⟨RX2, "check", "(JI)I"⟩
abbrev cX2_doubled : ByteArray := prog_1_method_17_code
def yX2_doubled : MethodName := ⟨RX2, "doubled", "(I)I"⟩
abbrev cX2_copy : ByteArray := prog_1_method_3_code
def yX2_copy : MethodName := ⟨RX2, "copy", "(IJII)I"⟩
abbrev cX2_isType : ByteArray := prog_1_method_15_code
def yX2_isType : MethodName := ⟨RX2, "isType", "(I)Z"⟩
abbrev cX2_isPlace : ByteArray := prog_1_method_16_code
def yX2_isPlace : MethodName := ⟨RX2, "isPlace", "(I)Z"⟩
abbrev cX2_isBarcode : ByteArray := prog_1_method_18_code
def yX2_isBarcode : MethodName := ⟨RX2, "isBarcode", "(JI)Z"⟩
abbrev cX2_isTaken : ByteArray := prog_1_method_19_code
def yX2_isTaken : MethodName := ⟨RX2, "isTaken", "(JI)Z"⟩
abbrev cX2_find : ByteArray := prog_1_method_20_code
def yX2_find : MethodName := ⟨RX2, "find", "(I)LItemStates$Copy;"⟩
abbrev cX2_hasRight : ByteArray := prog_1_method_21_code
def yX2_hasRight : MethodName := ⟨RX2, "hasRight", "(II)Z"⟩
abbrev cX0_init : ByteArray := prog_2_method_1_code
def yX0_init : MethodName := ⟨RX0, "<init>", "(IJII)V"⟩
abbrev cX2_right : ByteArray := prog_1_method_4_code
def yX2_right : MethodName := ⟨RX2, "right", "(IIZ)Z"⟩
abbrev cX2_fee : ByteArray := prog_1_method_5_code
def yX2_fee : MethodName := ⟨RX2, "fee", "(II)I"⟩
abbrev cX2_act : ByteArray := prog_1_method_6_code
def yX2_act : MethodName := ⟨RX2, "act", "(IIIJ)I"⟩
abbrev cX2_stateOn : ByteArray := prog_1_method_26_code
def yX2_stateOn : MethodName := ⟨RX2, "stateOn", "(LItemStates$Copy;J)I"⟩
abbrev cX2_lastUpTo : ByteArray := prog_1_method_25_code
def yX2_lastUpTo : MethodName := ⟨RX2, "lastUpTo", "(LItemStates$Copy;J)LItemStates$Entry;"⟩
abbrev cX2_canFollow : ByteArray := prog_1_method_22_code
def yX2_canFollow : MethodName := ⟨RX2, "canFollow", "(II)Z"⟩
abbrev cX2_lacksRight : ByteArray := prog_1_method_24_code
def yX2_lacksRight : MethodName := ⟨RX2, "lacksRight", "(LItemStates$Copy;IIZ)Z"⟩
abbrev cX2_enter : ByteArray := prog_1_method_27_code
def yX2_enter : MethodName := ⟨RX2, "enter", "(LItemStates$Copy;JIZ)V"⟩
abbrev cX1_init : ByteArray := prog_3_method_1_code
def yX1_init : MethodName := ⟨RX1, "<init>", "(JIZLItemStates$Entry;)V"⟩
abbrev cJ_max : ByteArray := prog_6_method_66_code
def yJ_max : MethodName := ⟨RJ, "max", "(JJ)J"⟩
abbrev cX2_carryOut : ByteArray := prog_1_method_28_code
def yX2_carryOut : MethodName := ⟨RX2, "carryOut", "(LItemStates$Copy;II)V"⟩
abbrev cX2_state : ByteArray := prog_1_method_7_code
def yX2_state : MethodName := ⟨RX2, "state", "(IJ)I"⟩
abbrev cX2_place : ByteArray := prog_1_method_8_code
def yX2_place : MethodName := ⟨RX2, "place", "(I)I"⟩
abbrev cX2_floats : ByteArray := prog_1_method_9_code
def yX2_floats : MethodName := ⟨RX2, "floats", "(IZ)Z"⟩
abbrev cX2_home : ByteArray := prog_1_method_10_code
def yX2_home : MethodName := ⟨RX2, "home", "(I)I"⟩
abbrev cX2_weed : ByteArray := prog_1_method_11_code
def yX2_weed : MethodName := ⟨RX2, "weed", "(II)I"⟩
abbrev cX2_canBeWeeded : ByteArray := prog_1_method_23_code
def yX2_canBeWeeded : MethodName := ⟨RX2, "canBeWeeded", "(I)Z"⟩
abbrev cX2_owed : ByteArray := prog_1_method_12_code
def yX2_owed : MethodName := ⟨RX2, "owed", "(I)I"⟩
abbrev cX2_history : ByteArray := prog_1_method_13_code
def yX2_history : MethodName := ⟨RX2, "history", "(III)I"⟩
abbrev cX2_count : ByteArray := prog_1_method_14_code
def yX2_count : MethodName := ⟨RX2, "count", "(II)I"⟩
abbrev cX3_init : ByteArray := prog_5_method_1_code
def yX3_init : MethodName := ⟨RX3, "<init>", "()V"⟩
abbrev cX3_check : ByteArray := prog_5_method_5_code
def yX3_check : MethodName := ⟨RX3, "check", "(JI)I"⟩
abbrev cX3_ten : ByteArray := prog_5_method_3_code
def yX3_ten : MethodName := ⟨RX3, "ten", "(I)J"⟩
abbrev cX3_sign : ByteArray := prog_5_method_4_code
def yX3_sign : MethodName := ⟨RX3, "sign", "(J)I"⟩
abbrev cX3_copy : ByteArray := prog_5_method_6_code
def yX3_copy : MethodName := ⟨RX3, "copy", "(IJII)I"⟩
abbrev cX3_right : ByteArray := prog_5_method_7_code
def yX3_right : MethodName := ⟨RX3, "right", "(IIZ)Z"⟩
abbrev cX3_fee : ByteArray := prog_5_method_8_code
def yX3_fee : MethodName := ⟨RX3, "fee", "(II)I"⟩
abbrev cX3_state : ByteArray := prog_5_method_11_code
def yX3_state : MethodName := ⟨RX3, "state", "(IJ)I"⟩
abbrev cX3_isCopy : ByteArray := prog_5_method_9_code
def yX3_isCopy : MethodName := ⟨RX3, "isCopy", "(I)Z"⟩
abbrev cX3_last : ByteArray := prog_5_method_10_code
def yX3_last : MethodName := ⟨RX3, "last", "(IJ)I"⟩
abbrev cX3_act : ByteArray := prog_5_method_14_code
def yX3_act : MethodName := ⟨RX3, "act", "(IIIJ)I"⟩
abbrev cX3_follows : ByteArray := prog_5_method_12_code
def yX3_follows : MethodName := ⟨RX3, "follows", "(II)Z"⟩
abbrev cX3_enter : ByteArray := prog_5_method_13_code
def yX3_enter : MethodName := ⟨RX3, "enter", "(IIZJ)V"⟩
abbrev cX3_weed : ByteArray := prog_5_method_15_code
def yX3_weed : MethodName := ⟨RX3, "weed", "(II)I"⟩
abbrev cX3_place : ByteArray := prog_5_method_16_code
def yX3_place : MethodName := ⟨RX3, "place", "(I)I"⟩
abbrev cX3_floats : ByteArray := prog_5_method_17_code
def yX3_floats : MethodName := ⟨RX3, "floats", "(IZ)Z"⟩
abbrev cX3_home : ByteArray := prog_5_method_18_code
def yX3_home : MethodName := ⟨RX3, "home", "(I)I"⟩
abbrev cX3_owed : ByteArray := prog_5_method_19_code
def yX3_owed : MethodName := ⟨RX3, "owed", "(I)I"⟩
abbrev cX3_history : ByteArray := prog_5_method_20_code
def yX3_history : MethodName := ⟨RX3, "history", "(III)I"⟩
abbrev cX3_count : ByteArray := prog_5_method_21_code
def yX3_count : MethodName := ⟨RX3, "count", "(II)I"⟩
theorem dX2_init_0 : decode cX2_init 0 = .ok (.aload_n 0, 1) := by decide +kernel
theorem dX2_init_1 : decode cX2_init 1 = .ok (.invokespecial 1, 3) := by decide +kernel
theorem dX2_init_4 : decode cX2_init 4 = .ok (.aload_n 0, 1) := by decide +kernel
theorem dX2_init_5 : decode cX2_init 5 = .ok (.bipush 80, 2) := by decide +kernel
theorem dX2_init_7 : decode cX2_init 7 = .ok (.anewarray 9, 3) := by decide +kernel
theorem dX2_init_10 : decode cX2_init 10 = .ok (.putfield 11, 3) := by decide +kernel
theorem dX2_init_13 : decode cX2_init 13 = .ok (.aload_n 0, 1) := by decide +kernel
theorem dX2_init_14 : decode cX2_init 14 = .ok (.iconst 0, 1) := by decide +kernel
theorem dX2_init_15 : decode cX2_init 15 = .ok (.putfield 15, 3) := by decide +kernel
theorem dX2_init_18 : decode cX2_init 18 = .ok (.aload_n 0, 1) := by decide +kernel
theorem dX2_init_19 : decode cX2_init 19 = .ok (.bipush 60, 2) := by decide +kernel
theorem dX2_init_21 : decode cX2_init 21 = .ok (.newarray .boolean, 2) := by decide +kernel
theorem dX2_init_23 : decode cX2_init 23 = .ok (.putfield 19, 3) := by decide +kernel
theorem dX2_init_26 : decode cX2_init 26 = .ok (.aload_n 0, 1) := by decide +kernel
theorem dX2_init_27 : decode cX2_init 27 = .ok (.bipush 6, 2) := by decide +kernel
theorem dX2_init_29 : decode cX2_init 29 = .ok (.newarray .int, 2) := by decide +kernel
theorem dX2_init_31 : decode cX2_init 31 = .ok (.putfield 23, 3) := by decide +kernel
theorem dX2_init_34 : decode cX2_init 34 = .ok (.aload_n 0, 1) := by decide +kernel
theorem dX2_init_35 : decode cX2_init 35 = .ok (.lconst 0, 1) := by decide +kernel
theorem dX2_init_36 : decode cX2_init 36 = .ok (.putfield 27, 3) := by decide +kernel
theorem dX2_init_39 : decode cX2_init 39 = .ok (.aload_n 0, 1) := by decide +kernel
theorem dX2_init_40 : decode cX2_init 40 = .ok (.iconst 0, 1) := by decide +kernel
theorem dX2_init_41 : decode cX2_init 41 = .ok (.putfield 31, 3) := by decide +kernel
theorem dX2_init_44 : decode cX2_init 44 = .ok (.return_, 1) := by decide +kernel
theorem dX2_check_0 : decode cX2_check 0 = .ok (.lload_n 1, 1) := by decide +kernel
theorem dX2_check_1 : decode cX2_check 1 = .ok (.lconst 0, 1) := by decide +kernel
theorem dX2_check_2 : decode cX2_check 2 = .ok (.lcmp, 1) := by decide +kernel
theorem dX2_check_3 : decode cX2_check 3 = .ok (.ifCond .lt 14, 3) := by decide +kernel
theorem dX2_check_6 : decode cX2_check 6 = .ok (.iload_n 3, 1) := by decide +kernel
theorem dX2_check_7 : decode cX2_check 7 = .ok (.iconst 1, 1) := by decide +kernel
theorem dX2_check_8 : decode cX2_check 8 = .ok (.if_icmp .lt 9, 3) := by decide +kernel
theorem dX2_check_11 : decode cX2_check 11 = .ok (.iload_n 3, 1) := by decide +kernel
theorem dX2_check_12 : decode cX2_check 12 = .ok (.bipush 12, 2) := by decide +kernel
theorem dX2_check_14 : decode cX2_check 14 = .ok (.if_icmp .le 5, 3) := by decide +kernel
theorem dX2_check_17 : decode cX2_check 17 = .ok (.iconst (-1), 1) := by decide +kernel
theorem dX2_check_18 : decode cX2_check 18 = .ok (.ireturn, 1) := by decide +kernel
theorem dX2_check_19 : decode cX2_check 19 = .ok (.lload_n 1, 1) := by decide +kernel
theorem dX2_check_20 : decode cX2_check 20 = .ok (.lstore 4, 2) := by decide +kernel
theorem dX2_check_22 : decode cX2_check 22 = .ok (.iconst 0, 1) := by decide +kernel
theorem dX2_check_23 : decode cX2_check 23 = .ok (.istore 6, 2) := by decide +kernel
theorem dX2_check_25 : decode cX2_check 25 = .ok (.iconst 0, 1) := by decide +kernel
theorem dX2_check_26 : decode cX2_check 26 = .ok (.istore 7, 2) := by decide +kernel
theorem dX2_check_28 : decode cX2_check 28 = .ok (.iload 7, 2) := by decide +kernel
theorem dX2_check_30 : decode cX2_check 30 = .ok (.iload_n 3, 1) := by decide +kernel
theorem dX2_check_31 : decode cX2_check 31 = .ok (.if_icmp .ge 48, 3) := by decide +kernel
theorem dX2_check_34 : decode cX2_check 34 = .ok (.lload 4, 2) := by decide +kernel
theorem dX2_check_36 : decode cX2_check 36 = .ok (.ldc2_w 34, 3) := by decide +kernel
theorem dX2_check_39 : decode cX2_check 39 = .ok (.lrem, 1) := by decide +kernel
theorem dX2_check_40 : decode cX2_check 40 = .ok (.l2i, 1) := by decide +kernel
theorem dX2_check_41 : decode cX2_check 41 = .ok (.istore 8, 2) := by decide +kernel
theorem dX2_check_43 : decode cX2_check 43 = .ok (.iload 6, 2) := by decide +kernel
theorem dX2_check_45 : decode cX2_check 45 = .ok (.iload 7, 2) := by decide +kernel
theorem dX2_check_47 : decode cX2_check 47 = .ok (.iconst 2, 1) := by decide +kernel
theorem dX2_check_48 : decode cX2_check 48 = .ok (.irem, 1) := by decide +kernel
theorem dX2_check_49 : decode cX2_check 49 = .ok (.ifCond .ne 11, 3) := by decide +kernel
theorem dX2_check_52 : decode cX2_check 52 = .ok (.iload 8, 2) := by decide +kernel
theorem dX2_check_54 : decode cX2_check 54 = .ok (.invokestatic 36, 3) := by decide +kernel
theorem dX2_check_57 : decode cX2_check 57 = .ok (.goto 5, 3) := by decide +kernel
theorem dX2_check_60 : decode cX2_check 60 = .ok (.iload 8, 2) := by decide +kernel
theorem dX2_check_62 : decode cX2_check 62 = .ok (.iadd, 1) := by decide +kernel
theorem dX2_check_63 : decode cX2_check 63 = .ok (.istore 6, 2) := by decide +kernel
theorem dX2_check_65 : decode cX2_check 65 = .ok (.lload 4, 2) := by decide +kernel
theorem dX2_check_67 : decode cX2_check 67 = .ok (.ldc2_w 34, 3) := by decide +kernel
theorem dX2_check_70 : decode cX2_check 70 = .ok (.ldiv, 1) := by decide +kernel
theorem dX2_check_71 : decode cX2_check 71 = .ok (.lstore 4, 2) := by decide +kernel
theorem dX2_check_73 : decode cX2_check 73 = .ok (.iinc 7 1, 3) := by decide +kernel
theorem dX2_check_76 : decode cX2_check 76 = .ok (.goto (-48), 3) := by decide +kernel
theorem dX2_check_79 : decode cX2_check 79 = .ok (.lload 4, 2) := by decide +kernel
theorem dX2_check_81 : decode cX2_check 81 = .ok (.lconst 0, 1) := by decide +kernel
theorem dX2_check_82 : decode cX2_check 82 = .ok (.lcmp, 1) := by decide +kernel
theorem dX2_check_83 : decode cX2_check 83 = .ok (.ifCond .eq 5, 3) := by decide +kernel
theorem dX2_check_86 : decode cX2_check 86 = .ok (.iconst (-1), 1) := by decide +kernel
theorem dX2_check_87 : decode cX2_check 87 = .ok (.ireturn, 1) := by decide +kernel
theorem dX2_check_88 : decode cX2_check 88 = .ok (.bipush 10, 2) := by decide +kernel
theorem dX2_check_90 : decode cX2_check 90 = .ok (.iload 6, 2) := by decide +kernel
theorem dX2_check_92 : decode cX2_check 92 = .ok (.bipush 10, 2) := by decide +kernel
theorem dX2_check_94 : decode cX2_check 94 = .ok (.irem, 1) := by decide +kernel
theorem dX2_check_95 : decode cX2_check 95 = .ok (.isub, 1) := by decide +kernel
theorem dX2_check_96 : decode cX2_check 96 = .ok (.bipush 10, 2) := by decide +kernel
theorem dX2_check_98 : decode cX2_check 98 = .ok (.irem, 1) := by decide +kernel
theorem dX2_check_99 : decode cX2_check 99 = .ok (.ireturn, 1) := by decide +kernel
theorem dX2_doubled_0 : decode cX2_doubled 0 = .ok (.iconst 2, 1) := by decide +kernel
theorem dX2_doubled_1 : decode cX2_doubled 1 = .ok (.iload_n 0, 1) := by decide +kernel
theorem dX2_doubled_2 : decode cX2_doubled 2 = .ok (.imul, 1) := by decide +kernel
theorem dX2_doubled_3 : decode cX2_doubled 3 = .ok (.istore_n 1, 1) := by decide +kernel
theorem dX2_doubled_4 : decode cX2_doubled 4 = .ok (.iload_n 1, 1) := by decide +kernel
theorem dX2_doubled_5 : decode cX2_doubled 5 = .ok (.bipush 9, 2) := by decide +kernel
theorem dX2_doubled_7 : decode cX2_doubled 7 = .ok (.if_icmp .le 10, 3) := by decide +kernel
theorem dX2_doubled_10 : decode cX2_doubled 10 = .ok (.iload_n 1, 1) := by decide +kernel
theorem dX2_doubled_11 : decode cX2_doubled 11 = .ok (.bipush 9, 2) := by decide +kernel
theorem dX2_doubled_13 : decode cX2_doubled 13 = .ok (.isub, 1) := by decide +kernel
theorem dX2_doubled_14 : decode cX2_doubled 14 = .ok (.goto 4, 3) := by decide +kernel
theorem dX2_doubled_17 : decode cX2_doubled 17 = .ok (.iload_n 1, 1) := by decide +kernel
theorem dX2_doubled_18 : decode cX2_doubled 18 = .ok (.ireturn, 1) := by decide +kernel
theorem dX2_copy_0 : decode cX2_copy 0 = .ok (.iload_n 1, 1) := by decide +kernel
theorem dX2_copy_1 : decode cX2_copy 1 = .ok (.invokestatic 40, 3) := by decide +kernel
theorem dX2_copy_4 : decode cX2_copy 4 = .ok (.ifCond .eq 20, 3) := by decide +kernel
theorem dX2_copy_7 : decode cX2_copy 7 = .ok (.iload 5, 2) := by decide +kernel
theorem dX2_copy_9 : decode cX2_copy 9 = .ok (.invokestatic 44, 3) := by decide +kernel
theorem dX2_copy_12 : decode cX2_copy 12 = .ok (.ifCond .eq 12, 3) := by decide +kernel
theorem dX2_copy_15 : decode cX2_copy 15 = .ok (.aload_n 0, 1) := by decide +kernel
theorem dX2_copy_16 : decode cX2_copy 16 = .ok (.getfield 15, 3) := by decide +kernel
theorem dX2_copy_19 : decode cX2_copy 19 = .ok (.bipush 80, 2) := by decide +kernel
theorem dX2_copy_21 : decode cX2_copy 21 = .ok (.if_icmp .lt 5, 3) := by decide +kernel
theorem dX2_copy_24 : decode cX2_copy 24 = .ok (.iconst (-1), 1) := by decide +kernel
theorem dX2_copy_25 : decode cX2_copy 25 = .ok (.ireturn, 1) := by decide +kernel
theorem dX2_copy_26 : decode cX2_copy 26 = .ok (.aload_n 0, 1) := by decide +kernel
theorem dX2_copy_27 : decode cX2_copy 27 = .ok (.lload_n 2, 1) := by decide +kernel
theorem dX2_copy_28 : decode cX2_copy 28 = .ok (.iload 4, 2) := by decide +kernel
theorem dX2_copy_30 : decode cX2_copy 30 = .ok (.invokevirtual 47, 3) := by decide +kernel
theorem dX2_copy_33 : decode cX2_copy 33 = .ok (.ifCond .eq 13, 3) := by decide +kernel
theorem dX2_copy_36 : decode cX2_copy 36 = .ok (.aload_n 0, 1) := by decide +kernel
theorem dX2_copy_37 : decode cX2_copy 37 = .ok (.lload_n 2, 1) := by decide +kernel
theorem dX2_copy_38 : decode cX2_copy 38 = .ok (.iload 4, 2) := by decide +kernel
theorem dX2_copy_40 : decode cX2_copy 40 = .ok (.invokevirtual 51, 3) := by decide +kernel
theorem dX2_copy_43 : decode cX2_copy 43 = .ok (.ifCond .eq 5, 3) := by decide +kernel
theorem dX2_copy_46 : decode cX2_copy 46 = .ok (.iconst (-1), 1) := by decide +kernel
theorem dX2_copy_47 : decode cX2_copy 47 = .ok (.ireturn, 1) := by decide +kernel
theorem dX2_copy_48 : decode cX2_copy 48 = .ok (.aload_n 0, 1) := by decide +kernel
theorem dX2_copy_49 : decode cX2_copy 49 = .ok (.iload 5, 2) := by decide +kernel
theorem dX2_copy_51 : decode cX2_copy 51 = .ok (.iload_n 1, 1) := by decide +kernel
theorem dX2_copy_52 : decode cX2_copy 52 = .ok (.invokevirtual 54, 3) := by decide +kernel
theorem dX2_copy_55 : decode cX2_copy 55 = .ok (.ifCond .ne 6, 3) := by decide +kernel
theorem dX2_copy_58 : decode cX2_copy 58 = .ok (.bipush (-3), 2) := by decide +kernel
theorem dX2_copy_60 : decode cX2_copy 60 = .ok (.ireturn, 1) := by decide +kernel
theorem dX2_copy_61 : decode cX2_copy 61 = .ok (.aload_n 0, 1) := by decide +kernel
theorem dX2_copy_62 : decode cX2_copy 62 = .ok (.getfield 11, 3) := by decide +kernel
theorem dX2_copy_65 : decode cX2_copy 65 = .ok (.aload_n 0, 1) := by decide +kernel
theorem dX2_copy_66 : decode cX2_copy 66 = .ok (.getfield 15, 3) := by decide +kernel
theorem dX2_copy_69 : decode cX2_copy 69 = .ok (.new 9, 3) := by decide +kernel
theorem dX2_copy_72 : decode cX2_copy 72 = .ok (.dup, 1) := by decide +kernel
theorem dX2_copy_73 : decode cX2_copy 73 = .ok (.iload_n 1, 1) := by decide +kernel
theorem dX2_copy_74 : decode cX2_copy 74 = .ok (.lload_n 2, 1) := by decide +kernel
theorem dX2_copy_75 : decode cX2_copy 75 = .ok (.iload 4, 2) := by decide +kernel
theorem dX2_copy_77 : decode cX2_copy 77 = .ok (.iload 5, 2) := by decide +kernel
theorem dX2_copy_79 : decode cX2_copy 79 = .ok (.invokespecial 58, 3) := by decide +kernel
theorem dX2_copy_82 : decode cX2_copy 82 = .ok (.aastore, 1) := by decide +kernel
theorem dX2_copy_83 : decode cX2_copy 83 = .ok (.aload_n 0, 1) := by decide +kernel
theorem dX2_copy_84 : decode cX2_copy 84 = .ok (.dup, 1) := by decide +kernel
theorem dX2_copy_85 : decode cX2_copy 85 = .ok (.getfield 15, 3) := by decide +kernel
theorem dX2_copy_88 : decode cX2_copy 88 = .ok (.iconst 1, 1) := by decide +kernel
theorem dX2_copy_89 : decode cX2_copy 89 = .ok (.iadd, 1) := by decide +kernel
theorem dX2_copy_90 : decode cX2_copy 90 = .ok (.putfield 15, 3) := by decide +kernel
theorem dX2_copy_93 : decode cX2_copy 93 = .ok (.aload_n 0, 1) := by decide +kernel
theorem dX2_copy_94 : decode cX2_copy 94 = .ok (.getfield 15, 3) := by decide +kernel
theorem dX2_copy_97 : decode cX2_copy 97 = .ok (.ireturn, 1) := by decide +kernel
theorem dX2_isType_0 : decode cX2_isType 0 = .ok (.iload_n 0, 1) := by decide +kernel
theorem dX2_isType_1 : decode cX2_isType 1 = .ok (.ifCond .lt 13, 3) := by decide +kernel
theorem dX2_isType_4 : decode cX2_isType 4 = .ok (.iload_n 0, 1) := by decide +kernel
theorem dX2_isType_5 : decode cX2_isType 5 = .ok (.bipush 6, 2) := by decide +kernel
theorem dX2_isType_7 : decode cX2_isType 7 = .ok (.if_icmp .ge 7, 3) := by decide +kernel
theorem dX2_isType_10 : decode cX2_isType 10 = .ok (.iconst 1, 1) := by decide +kernel
theorem dX2_isType_11 : decode cX2_isType 11 = .ok (.goto 4, 3) := by decide +kernel
theorem dX2_isType_14 : decode cX2_isType 14 = .ok (.iconst 0, 1) := by decide +kernel
theorem dX2_isType_15 : decode cX2_isType 15 = .ok (.ireturn, 1) := by decide +kernel
theorem dX2_isPlace_0 : decode cX2_isPlace 0 = .ok (.iload_n 0, 1) := by decide +kernel
theorem dX2_isPlace_1 : decode cX2_isPlace 1 = .ok (.ifCond .lt 13, 3) := by decide +kernel
theorem dX2_isPlace_4 : decode cX2_isPlace 4 = .ok (.iload_n 0, 1) := by decide +kernel
theorem dX2_isPlace_5 : decode cX2_isPlace 5 = .ok (.bipush 10, 2) := by decide +kernel
theorem dX2_isPlace_7 : decode cX2_isPlace 7 = .ok (.if_icmp .ge 7, 3) := by decide +kernel
theorem dX2_isPlace_10 : decode cX2_isPlace 10 = .ok (.iconst 1, 1) := by decide +kernel
theorem dX2_isPlace_11 : decode cX2_isPlace 11 = .ok (.goto 4, 3) := by decide +kernel
theorem dX2_isPlace_14 : decode cX2_isPlace 14 = .ok (.iconst 0, 1) := by decide +kernel
theorem dX2_isPlace_15 : decode cX2_isPlace 15 = .ok (.ireturn, 1) := by decide +kernel
theorem dX2_isBarcode_0 : decode cX2_isBarcode 0 = .ok (.lload_n 1, 1) := by decide +kernel
theorem dX2_isBarcode_1 : decode cX2_isBarcode 1 = .ok (.lconst 0, 1) := by decide +kernel
theorem dX2_isBarcode_2 : decode cX2_isBarcode 2 = .ok (.lcmp, 1) := by decide +kernel
theorem dX2_isBarcode_3 : decode cX2_isBarcode 3 = .ok (.ifCond .lt 26, 3) := by decide +kernel
theorem dX2_isBarcode_6 : decode cX2_isBarcode 6 = .ok (.aload_n 0, 1) := by decide +kernel
theorem dX2_isBarcode_7 : decode cX2_isBarcode 7 = .ok (.lload_n 1, 1) := by decide +kernel
theorem dX2_isBarcode_8 : decode cX2_isBarcode 8 = .ok (.ldc2_w 34, 3) := by decide +kernel
theorem dX2_isBarcode_11 : decode cX2_isBarcode 11 = .ok (.ldiv, 1) := by decide +kernel
theorem dX2_isBarcode_12 : decode cX2_isBarcode 12 = .ok (.iload_n 3, 1) := by decide +kernel
theorem dX2_isBarcode_13 : decode cX2_isBarcode 13 = .ok (.invokevirtual 122, 3) := by decide +kernel
theorem dX2_isBarcode_16 : decode cX2_isBarcode 16 = .ok (.lload_n 1, 1) := by decide +kernel
theorem dX2_isBarcode_17 : decode cX2_isBarcode 17 = .ok (.ldc2_w 34, 3) := by decide +kernel
theorem dX2_isBarcode_20 : decode cX2_isBarcode 20 = .ok (.lrem, 1) := by decide +kernel
theorem dX2_isBarcode_21 : decode cX2_isBarcode 21 = .ok (.l2i, 1) := by decide +kernel
theorem dX2_isBarcode_22 : decode cX2_isBarcode 22 = .ok (.if_icmp .ne 7, 3) := by decide +kernel
theorem dX2_isBarcode_25 : decode cX2_isBarcode 25 = .ok (.iconst 1, 1) := by decide +kernel
theorem dX2_isBarcode_26 : decode cX2_isBarcode 26 = .ok (.goto 4, 3) := by decide +kernel
theorem dX2_isBarcode_29 : decode cX2_isBarcode 29 = .ok (.iconst 0, 1) := by decide +kernel
theorem dX2_isBarcode_30 : decode cX2_isBarcode 30 = .ok (.ireturn, 1) := by decide +kernel
theorem dX2_isTaken_0 : decode cX2_isTaken 0 = .ok (.iconst 1, 1) := by decide +kernel
theorem dX2_isTaken_1 : decode cX2_isTaken 1 = .ok (.istore 4, 2) := by decide +kernel
theorem dX2_isTaken_3 : decode cX2_isTaken 3 = .ok (.iload 4, 2) := by decide +kernel
theorem dX2_isTaken_5 : decode cX2_isTaken 5 = .ok (.aload_n 0, 1) := by decide +kernel
theorem dX2_isTaken_6 : decode cX2_isTaken 6 = .ok (.getfield 15, 3) := by decide +kernel
theorem dX2_isTaken_9 : decode cX2_isTaken 9 = .ok (.if_icmp .gt 43, 3) := by decide +kernel
theorem dX2_isTaken_12 : decode cX2_isTaken 12 = .ok (.aload_n 0, 1) := by decide +kernel
theorem dX2_isTaken_13 : decode cX2_isTaken 13 = .ok (.iload 4, 2) := by decide +kernel
theorem dX2_isTaken_15 : decode cX2_isTaken 15 = .ok (.invokevirtual 62, 3) := by decide +kernel
theorem dX2_isTaken_18 : decode cX2_isTaken 18 = .ok (.astore 5, 2) := by decide +kernel
theorem dX2_isTaken_20 : decode cX2_isTaken 20 = .ok (.aload 5, 2) := by decide +kernel
theorem dX2_isTaken_22 : decode cX2_isTaken 22 = .ok (.ifnull 24, 3) := by decide +kernel
theorem dX2_isTaken_25 : decode cX2_isTaken 25 = .ok (.aload 5, 2) := by decide +kernel
theorem dX2_isTaken_27 : decode cX2_isTaken 27 = .ok (.getfield 126, 3) := by decide +kernel
theorem dX2_isTaken_30 : decode cX2_isTaken 30 = .ok (.lload_n 1, 1) := by decide +kernel
theorem dX2_isTaken_31 : decode cX2_isTaken 31 = .ok (.lcmp, 1) := by decide +kernel
theorem dX2_isTaken_32 : decode cX2_isTaken 32 = .ok (.ifCond .ne 14, 3) := by decide +kernel
theorem dX2_isTaken_35 : decode cX2_isTaken 35 = .ok (.aload 5, 2) := by decide +kernel
theorem dX2_isTaken_37 : decode cX2_isTaken 37 = .ok (.getfield 129, 3) := by decide +kernel
theorem dX2_isTaken_40 : decode cX2_isTaken 40 = .ok (.iload_n 3, 1) := by decide +kernel
theorem dX2_isTaken_41 : decode cX2_isTaken 41 = .ok (.if_icmp .ne 5, 3) := by decide +kernel
theorem dX2_isTaken_44 : decode cX2_isTaken 44 = .ok (.iconst 1, 1) := by decide +kernel
theorem dX2_isTaken_45 : decode cX2_isTaken 45 = .ok (.ireturn, 1) := by decide +kernel
theorem dX2_isTaken_46 : decode cX2_isTaken 46 = .ok (.iinc 4 1, 3) := by decide +kernel
theorem dX2_isTaken_49 : decode cX2_isTaken 49 = .ok (.goto (-46), 3) := by decide +kernel
theorem dX2_isTaken_52 : decode cX2_isTaken 52 = .ok (.iconst 0, 1) := by decide +kernel
theorem dX2_isTaken_53 : decode cX2_isTaken 53 = .ok (.ireturn, 1) := by decide +kernel
theorem dX2_find_0 : decode cX2_find 0 = .ok (.iload_n 1, 1) := by decide +kernel
theorem dX2_find_1 : decode cX2_find 1 = .ok (.iconst 1, 1) := by decide +kernel
theorem dX2_find_2 : decode cX2_find 2 = .ok (.if_icmp .lt 20, 3) := by decide +kernel
theorem dX2_find_5 : decode cX2_find 5 = .ok (.iload_n 1, 1) := by decide +kernel
theorem dX2_find_6 : decode cX2_find 6 = .ok (.aload_n 0, 1) := by decide +kernel
theorem dX2_find_7 : decode cX2_find 7 = .ok (.getfield 15, 3) := by decide +kernel
theorem dX2_find_10 : decode cX2_find 10 = .ok (.if_icmp .gt 12, 3) := by decide +kernel
theorem dX2_find_13 : decode cX2_find 13 = .ok (.iload_n 1, 1) := by decide +kernel
theorem dX2_find_14 : decode cX2_find 14 = .ok (.aload_n 0, 1) := by decide +kernel
theorem dX2_find_15 : decode cX2_find 15 = .ok (.getfield 11, 3) := by decide +kernel
theorem dX2_find_18 : decode cX2_find 18 = .ok (.arraylength, 1) := by decide +kernel
theorem dX2_find_19 : decode cX2_find 19 = .ok (.if_icmp .le 5, 3) := by decide +kernel
theorem dX2_find_22 : decode cX2_find 22 = .ok (.aconst_null, 1) := by decide +kernel
theorem dX2_find_23 : decode cX2_find 23 = .ok (.areturn, 1) := by decide +kernel
theorem dX2_find_24 : decode cX2_find 24 = .ok (.aload_n 0, 1) := by decide +kernel
theorem dX2_find_25 : decode cX2_find 25 = .ok (.getfield 11, 3) := by decide +kernel
theorem dX2_find_28 : decode cX2_find 28 = .ok (.iload_n 1, 1) := by decide +kernel
theorem dX2_find_29 : decode cX2_find 29 = .ok (.iconst 1, 1) := by decide +kernel
theorem dX2_find_30 : decode cX2_find 30 = .ok (.isub, 1) := by decide +kernel
theorem dX2_find_31 : decode cX2_find 31 = .ok (.aaload, 1) := by decide +kernel
theorem dX2_find_32 : decode cX2_find 32 = .ok (.areturn, 1) := by decide +kernel
theorem dX2_hasRight_0 : decode cX2_hasRight 0 = .ok (.iload_n 1, 1) := by decide +kernel
theorem dX2_hasRight_1 : decode cX2_hasRight 1 = .ok (.invokestatic 44, 3) := by decide +kernel
theorem dX2_hasRight_4 : decode cX2_hasRight 4 = .ok (.ifCond .eq 28, 3) := by decide +kernel
theorem dX2_hasRight_7 : decode cX2_hasRight 7 = .ok (.iload_n 2, 1) := by decide +kernel
theorem dX2_hasRight_8 : decode cX2_hasRight 8 = .ok (.invokestatic 40, 3) := by decide +kernel
theorem dX2_hasRight_11 : decode cX2_hasRight 11 = .ok (.ifCond .eq 21, 3) := by decide +kernel
theorem dX2_hasRight_14 : decode cX2_hasRight 14 = .ok (.aload_n 0, 1) := by decide +kernel
theorem dX2_hasRight_15 : decode cX2_hasRight 15 = .ok (.getfield 19, 3) := by decide +kernel
theorem dX2_hasRight_18 : decode cX2_hasRight 18 = .ok (.iload_n 1, 1) := by decide +kernel
theorem dX2_hasRight_19 : decode cX2_hasRight 19 = .ok (.bipush 6, 2) := by decide +kernel
theorem dX2_hasRight_21 : decode cX2_hasRight 21 = .ok (.imul, 1) := by decide +kernel
theorem dX2_hasRight_22 : decode cX2_hasRight 22 = .ok (.iload_n 2, 1) := by decide +kernel
theorem dX2_hasRight_23 : decode cX2_hasRight 23 = .ok (.iadd, 1) := by decide +kernel
theorem dX2_hasRight_24 : decode cX2_hasRight 24 = .ok (.baload, 1) := by decide +kernel
theorem dX2_hasRight_25 : decode cX2_hasRight 25 = .ok (.ifCond .ne 7, 3) := by decide +kernel
theorem dX2_hasRight_28 : decode cX2_hasRight 28 = .ok (.iconst 1, 1) := by decide +kernel
theorem dX2_hasRight_29 : decode cX2_hasRight 29 = .ok (.goto 4, 3) := by decide +kernel
theorem dX2_hasRight_32 : decode cX2_hasRight 32 = .ok (.iconst 0, 1) := by decide +kernel
theorem dX2_hasRight_33 : decode cX2_hasRight 33 = .ok (.ireturn, 1) := by decide +kernel
theorem dX0_init_0 : decode cX0_init 0 = .ok (.aload_n 0, 1) := by decide +kernel
theorem dX0_init_1 : decode cX0_init 1 = .ok (.invokespecial 3, 3) := by decide +kernel
theorem dX0_init_4 : decode cX0_init 4 = .ok (.aload_n 0, 1) := by decide +kernel
theorem dX0_init_5 : decode cX0_init 5 = .ok (.iload_n 1, 1) := by decide +kernel
theorem dX0_init_6 : decode cX0_init 6 = .ok (.putfield 9, 3) := by decide +kernel
theorem dX0_init_9 : decode cX0_init 9 = .ok (.aload_n 0, 1) := by decide +kernel
theorem dX0_init_10 : decode cX0_init 10 = .ok (.lload_n 2, 1) := by decide +kernel
theorem dX0_init_11 : decode cX0_init 11 = .ok (.putfield 15, 3) := by decide +kernel
theorem dX0_init_14 : decode cX0_init 14 = .ok (.aload_n 0, 1) := by decide +kernel
theorem dX0_init_15 : decode cX0_init 15 = .ok (.iload 4, 2) := by decide +kernel
theorem dX0_init_17 : decode cX0_init 17 = .ok (.putfield 19, 3) := by decide +kernel
theorem dX0_init_20 : decode cX0_init 20 = .ok (.aload_n 0, 1) := by decide +kernel
theorem dX0_init_21 : decode cX0_init 21 = .ok (.iload 5, 2) := by decide +kernel
theorem dX0_init_23 : decode cX0_init 23 = .ok (.putfield 22, 3) := by decide +kernel
theorem dX0_init_26 : decode cX0_init 26 = .ok (.aload_n 0, 1) := by decide +kernel
theorem dX0_init_27 : decode cX0_init 27 = .ok (.iload 5, 2) := by decide +kernel
theorem dX0_init_29 : decode cX0_init 29 = .ok (.putfield 25, 3) := by decide +kernel
theorem dX0_init_32 : decode cX0_init 32 = .ok (.aload_n 0, 1) := by decide +kernel
theorem dX0_init_33 : decode cX0_init 33 = .ok (.iconst 3, 1) := by decide +kernel
theorem dX0_init_34 : decode cX0_init 34 = .ok (.putfield 28, 3) := by decide +kernel
theorem dX0_init_37 : decode cX0_init 37 = .ok (.aload_n 0, 1) := by decide +kernel
theorem dX0_init_38 : decode cX0_init 38 = .ok (.iconst 0, 1) := by decide +kernel
theorem dX0_init_39 : decode cX0_init 39 = .ok (.putfield 31, 3) := by decide +kernel
theorem dX0_init_42 : decode cX0_init 42 = .ok (.aload_n 0, 1) := by decide +kernel
theorem dX0_init_43 : decode cX0_init 43 = .ok (.iconst 0, 1) := by decide +kernel
theorem dX0_init_44 : decode cX0_init 44 = .ok (.putfield 35, 3) := by decide +kernel
theorem dX0_init_47 : decode cX0_init 47 = .ok (.aload_n 0, 1) := by decide +kernel
theorem dX0_init_48 : decode cX0_init 48 = .ok (.iconst (-1), 1) := by decide +kernel
theorem dX0_init_49 : decode cX0_init 49 = .ok (.putfield 38, 3) := by decide +kernel
theorem dX0_init_52 : decode cX0_init 52 = .ok (.aload_n 0, 1) := by decide +kernel
theorem dX0_init_53 : decode cX0_init 53 = .ok (.aconst_null, 1) := by decide +kernel
theorem dX0_init_54 : decode cX0_init 54 = .ok (.putfield 41, 3) := by decide +kernel
theorem dX0_init_57 : decode cX0_init 57 = .ok (.return_, 1) := by decide +kernel
theorem dX2_right_0 : decode cX2_right 0 = .ok (.aload_n 0, 1) := by decide +kernel
theorem dX2_right_1 : decode cX2_right 1 = .ok (.iload_n 1, 1) := by decide +kernel
theorem dX2_right_2 : decode cX2_right 2 = .ok (.iload_n 2, 1) := by decide +kernel
theorem dX2_right_3 : decode cX2_right 3 = .ok (.invokevirtual 54, 3) := by decide +kernel
theorem dX2_right_6 : decode cX2_right 6 = .ok (.istore 4, 2) := by decide +kernel
theorem dX2_right_8 : decode cX2_right 8 = .ok (.iload_n 1, 1) := by decide +kernel
theorem dX2_right_9 : decode cX2_right 9 = .ok (.invokestatic 44, 3) := by decide +kernel
theorem dX2_right_12 : decode cX2_right 12 = .ok (.ifCond .eq 30, 3) := by decide +kernel
theorem dX2_right_15 : decode cX2_right 15 = .ok (.iload_n 2, 1) := by decide +kernel
theorem dX2_right_16 : decode cX2_right 16 = .ok (.invokestatic 40, 3) := by decide +kernel
theorem dX2_right_19 : decode cX2_right 19 = .ok (.ifCond .eq 23, 3) := by decide +kernel
theorem dX2_right_22 : decode cX2_right 22 = .ok (.aload_n 0, 1) := by decide +kernel
theorem dX2_right_23 : decode cX2_right 23 = .ok (.getfield 19, 3) := by decide +kernel
theorem dX2_right_26 : decode cX2_right 26 = .ok (.iload_n 1, 1) := by decide +kernel
theorem dX2_right_27 : decode cX2_right 27 = .ok (.bipush 6, 2) := by decide +kernel
theorem dX2_right_29 : decode cX2_right 29 = .ok (.imul, 1) := by decide +kernel
theorem dX2_right_30 : decode cX2_right 30 = .ok (.iload_n 2, 1) := by decide +kernel
theorem dX2_right_31 : decode cX2_right 31 = .ok (.iadd, 1) := by decide +kernel
theorem dX2_right_32 : decode cX2_right 32 = .ok (.iload_n 3, 1) := by decide +kernel
theorem dX2_right_33 : decode cX2_right 33 = .ok (.ifCond .ne 7, 3) := by decide +kernel
theorem dX2_right_36 : decode cX2_right 36 = .ok (.iconst 1, 1) := by decide +kernel
theorem dX2_right_37 : decode cX2_right 37 = .ok (.goto 4, 3) := by decide +kernel
theorem dX2_right_40 : decode cX2_right 40 = .ok (.iconst 0, 1) := by decide +kernel
theorem dX2_right_41 : decode cX2_right 41 = .ok (.bastore, 1) := by decide +kernel
theorem dX2_right_42 : decode cX2_right 42 = .ok (.iload 4, 2) := by decide +kernel
theorem dX2_right_44 : decode cX2_right 44 = .ok (.ireturn, 1) := by decide +kernel
theorem dX2_fee_0 : decode cX2_fee 0 = .ok (.iload_n 1, 1) := by decide +kernel
theorem dX2_fee_1 : decode cX2_fee 1 = .ok (.invokestatic 40, 3) := by decide +kernel
theorem dX2_fee_4 : decode cX2_fee 4 = .ok (.ifCond .eq 13, 3) := by decide +kernel
theorem dX2_fee_7 : decode cX2_fee 7 = .ok (.iload_n 2, 1) := by decide +kernel
theorem dX2_fee_8 : decode cX2_fee 8 = .ok (.ifCond .lt 9, 3) := by decide +kernel
theorem dX2_fee_11 : decode cX2_fee 11 = .ok (.iload_n 2, 1) := by decide +kernel
theorem dX2_fee_12 : decode cX2_fee 12 = .ok (.ldc 61, 2) := by decide +kernel
theorem dX2_fee_14 : decode cX2_fee 14 = .ok (.if_icmp .le 5, 3) := by decide +kernel
theorem dX2_fee_17 : decode cX2_fee 17 = .ok (.iconst (-1), 1) := by decide +kernel
theorem dX2_fee_18 : decode cX2_fee 18 = .ok (.ireturn, 1) := by decide +kernel
theorem dX2_fee_19 : decode cX2_fee 19 = .ok (.aload_n 0, 1) := by decide +kernel
theorem dX2_fee_20 : decode cX2_fee 20 = .ok (.getfield 23, 3) := by decide +kernel
theorem dX2_fee_23 : decode cX2_fee 23 = .ok (.iload_n 1, 1) := by decide +kernel
theorem dX2_fee_24 : decode cX2_fee 24 = .ok (.iaload, 1) := by decide +kernel
theorem dX2_fee_25 : decode cX2_fee 25 = .ok (.istore_n 3, 1) := by decide +kernel
theorem dX2_fee_26 : decode cX2_fee 26 = .ok (.aload_n 0, 1) := by decide +kernel
theorem dX2_fee_27 : decode cX2_fee 27 = .ok (.getfield 23, 3) := by decide +kernel
theorem dX2_fee_30 : decode cX2_fee 30 = .ok (.iload_n 1, 1) := by decide +kernel
theorem dX2_fee_31 : decode cX2_fee 31 = .ok (.iload_n 2, 1) := by decide +kernel
theorem dX2_fee_32 : decode cX2_fee 32 = .ok (.iastore, 1) := by decide +kernel
theorem dX2_fee_33 : decode cX2_fee 33 = .ok (.iload_n 3, 1) := by decide +kernel
theorem dX2_fee_34 : decode cX2_fee 34 = .ok (.ireturn, 1) := by decide +kernel
theorem dX2_act_0 : decode cX2_act 0 = .ok (.aload_n 0, 1) := by decide +kernel
theorem dX2_act_1 : decode cX2_act 1 = .ok (.iload_n 1, 1) := by decide +kernel
theorem dX2_act_2 : decode cX2_act 2 = .ok (.invokevirtual 62, 3) := by decide +kernel
theorem dX2_act_5 : decode cX2_act 5 = .ok (.astore 6, 2) := by decide +kernel
theorem dX2_act_7 : decode cX2_act 7 = .ok (.aload 6, 2) := by decide +kernel
theorem dX2_act_9 : decode cX2_act 9 = .ok (.ifnull 29, 3) := by decide +kernel
theorem dX2_act_12 : decode cX2_act 12 = .ok (.iload_n 2, 1) := by decide +kernel
theorem dX2_act_13 : decode cX2_act 13 = .ok (.ifCond .lt 25, 3) := by decide +kernel
theorem dX2_act_16 : decode cX2_act 16 = .ok (.iload_n 2, 1) := by decide +kernel
theorem dX2_act_17 : decode cX2_act 17 = .ok (.bipush 6, 2) := by decide +kernel
theorem dX2_act_19 : decode cX2_act 19 = .ok (.if_icmp .gt 19, 3) := by decide +kernel
theorem dX2_act_22 : decode cX2_act 22 = .ok (.lload 4, 2) := by decide +kernel
theorem dX2_act_24 : decode cX2_act 24 = .ok (.lconst 0, 1) := by decide +kernel
theorem dX2_act_25 : decode cX2_act 25 = .ok (.lcmp, 1) := by decide +kernel
theorem dX2_act_26 : decode cX2_act 26 = .ok (.ifCond .lt 12, 3) := by decide +kernel
theorem dX2_act_29 : decode cX2_act 29 = .ok (.lload 4, 2) := by decide +kernel
theorem dX2_act_31 : decode cX2_act 31 = .ok (.ldc2_w 66, 3) := by decide +kernel
theorem dX2_act_34 : decode cX2_act 34 = .ok (.lcmp, 1) := by decide +kernel
theorem dX2_act_35 : decode cX2_act 35 = .ok (.ifCond .le 5, 3) := by decide +kernel
theorem dX2_act_38 : decode cX2_act 38 = .ok (.iconst (-1), 1) := by decide +kernel
theorem dX2_act_39 : decode cX2_act 39 = .ok (.ireturn, 1) := by decide +kernel
theorem dX2_act_40 : decode cX2_act 40 = .ok (.iload_n 2, 1) := by decide +kernel
theorem dX2_act_41 : decode cX2_act 41 = .ok (.iconst 2, 1) := by decide +kernel
theorem dX2_act_42 : decode cX2_act 42 = .ok (.if_icmp .ne 21, 3) := by decide +kernel
theorem dX2_act_45 : decode cX2_act 45 = .ok (.iload_n 3, 1) := by decide +kernel
theorem dX2_act_46 : decode cX2_act 46 = .ok (.invokestatic 44, 3) := by decide +kernel
theorem dX2_act_49 : decode cX2_act 49 = .ok (.ifCond .eq 12, 3) := by decide +kernel
theorem dX2_act_52 : decode cX2_act 52 = .ok (.iload_n 3, 1) := by decide +kernel
theorem dX2_act_53 : decode cX2_act 53 = .ok (.aload 6, 2) := by decide +kernel
theorem dX2_act_55 : decode cX2_act 55 = .ok (.getfield 68, 3) := by decide +kernel
theorem dX2_act_58 : decode cX2_act 58 = .ok (.if_icmp .ne 5, 3) := by decide +kernel
theorem dX2_act_61 : decode cX2_act 61 = .ok (.iconst (-1), 1) := by decide +kernel
theorem dX2_act_62 : decode cX2_act 62 = .ok (.ireturn, 1) := by decide +kernel
theorem dX2_act_63 : decode cX2_act 63 = .ok (.aload_n 0, 1) := by decide +kernel
theorem dX2_act_64 : decode cX2_act 64 = .ok (.getfield 31, 3) := by decide +kernel
theorem dX2_act_67 : decode cX2_act 67 = .ok (.sipush 512, 3) := by decide +kernel
theorem dX2_act_70 : decode cX2_act 70 = .ok (.if_icmp .lt 5, 3) := by decide +kernel
theorem dX2_act_73 : decode cX2_act 73 = .ok (.iconst (-1), 1) := by decide +kernel
theorem dX2_act_74 : decode cX2_act 74 = .ok (.ireturn, 1) := by decide +kernel
theorem dX2_act_75 : decode cX2_act 75 = .ok (.lload 4, 2) := by decide +kernel
theorem dX2_act_77 : decode cX2_act 77 = .ok (.aload_n 0, 1) := by decide +kernel
theorem dX2_act_78 : decode cX2_act 78 = .ok (.getfield 27, 3) := by decide +kernel
theorem dX2_act_81 : decode cX2_act 81 = .ok (.lcmp, 1) := by decide +kernel
theorem dX2_act_82 : decode cX2_act 82 = .ok (.ifCond .ge 7, 3) := by decide +kernel
theorem dX2_act_85 : decode cX2_act 85 = .ok (.iconst 1, 1) := by decide +kernel
theorem dX2_act_86 : decode cX2_act 86 = .ok (.goto 4, 3) := by decide +kernel
theorem dX2_act_89 : decode cX2_act 89 = .ok (.iconst 0, 1) := by decide +kernel
theorem dX2_act_90 : decode cX2_act 90 = .ok (.istore 7, 2) := by decide +kernel
theorem dX2_act_92 : decode cX2_act 92 = .ok (.iload 7, 2) := by decide +kernel
theorem dX2_act_94 : decode cX2_act 94 = .ok (.ifCond .eq 13, 3) := by decide +kernel
theorem dX2_act_97 : decode cX2_act 97 = .ok (.aload 6, 2) := by decide +kernel
theorem dX2_act_99 : decode cX2_act 99 = .ok (.lload 4, 2) := by decide +kernel
theorem dX2_act_101 : decode cX2_act 101 = .ok (.invokestatic 71, 3) := by decide +kernel
theorem dX2_act_104 : decode cX2_act 104 = .ok (.goto 8, 3) := by decide +kernel
theorem dX2_act_107 : decode cX2_act 107 = .ok (.aload 6, 2) := by decide +kernel
theorem dX2_act_109 : decode cX2_act 109 = .ok (.getfield 75, 3) := by decide +kernel
theorem dX2_act_112 : decode cX2_act 112 = .ok (.istore 8, 2) := by decide +kernel
theorem dX2_act_114 : decode cX2_act 114 = .ok (.iload_n 2, 1) := by decide +kernel
theorem dX2_act_115 : decode cX2_act 115 = .ok (.iload 8, 2) := by decide +kernel
theorem dX2_act_117 : decode cX2_act 117 = .ok (.invokestatic 78, 3) := by decide +kernel
theorem dX2_act_120 : decode cX2_act 120 = .ok (.ifCond .ne 6, 3) := by decide +kernel
theorem dX2_act_123 : decode cX2_act 123 = .ok (.bipush (-2), 2) := by decide +kernel
theorem dX2_act_125 : decode cX2_act 125 = .ok (.ireturn, 1) := by decide +kernel
theorem dX2_act_126 : decode cX2_act 126 = .ok (.aload_n 0, 1) := by decide +kernel
theorem dX2_act_127 : decode cX2_act 127 = .ok (.aload 6, 2) := by decide +kernel
theorem dX2_act_129 : decode cX2_act 129 = .ok (.iload_n 2, 1) := by decide +kernel
theorem dX2_act_130 : decode cX2_act 130 = .ok (.iload_n 3, 1) := by decide +kernel
theorem dX2_act_131 : decode cX2_act 131 = .ok (.iload 7, 2) := by decide +kernel
theorem dX2_act_133 : decode cX2_act 133 = .ok (.invokevirtual 81, 3) := by decide +kernel
theorem dX2_act_136 : decode cX2_act 136 = .ok (.ifCond .eq 6, 3) := by decide +kernel
theorem dX2_act_139 : decode cX2_act 139 = .ok (.bipush (-3), 2) := by decide +kernel
theorem dX2_act_141 : decode cX2_act 141 = .ok (.ireturn, 1) := by decide +kernel
theorem dX2_act_142 : decode cX2_act 142 = .ok (.aload_n 0, 1) := by decide +kernel
theorem dX2_act_143 : decode cX2_act 143 = .ok (.aload 6, 2) := by decide +kernel
theorem dX2_act_145 : decode cX2_act 145 = .ok (.lload 4, 2) := by decide +kernel
theorem dX2_act_147 : decode cX2_act 147 = .ok (.iload_n 2, 1) := by decide +kernel
theorem dX2_act_148 : decode cX2_act 148 = .ok (.iload 7, 2) := by decide +kernel
theorem dX2_act_150 : decode cX2_act 150 = .ok (.invokevirtual 85, 3) := by decide +kernel
theorem dX2_act_153 : decode cX2_act 153 = .ok (.iload 7, 2) := by decide +kernel
theorem dX2_act_155 : decode cX2_act 155 = .ok (.ifCond .ne 11, 3) := by decide +kernel
theorem dX2_act_158 : decode cX2_act 158 = .ok (.aload_n 0, 1) := by decide +kernel
theorem dX2_act_159 : decode cX2_act 159 = .ok (.aload 6, 2) := by decide +kernel
theorem dX2_act_161 : decode cX2_act 161 = .ok (.iload_n 2, 1) := by decide +kernel
theorem dX2_act_162 : decode cX2_act 162 = .ok (.iload_n 3, 1) := by decide +kernel
theorem dX2_act_163 : decode cX2_act 163 = .ok (.invokevirtual 89, 3) := by decide +kernel
theorem dX2_act_166 : decode cX2_act 166 = .ok (.iload_n 2, 1) := by decide +kernel
theorem dX2_act_167 : decode cX2_act 167 = .ok (.ireturn, 1) := by decide +kernel
theorem dX2_stateOn_0 : decode cX2_stateOn 0 = .ok (.aload_n 0, 1) := by decide +kernel
theorem dX2_stateOn_1 : decode cX2_stateOn 1 = .ok (.lload_n 1, 1) := by decide +kernel
theorem dX2_stateOn_2 : decode cX2_stateOn 2 = .ok (.invokestatic 138, 3) := by decide +kernel
theorem dX2_stateOn_5 : decode cX2_stateOn 5 = .ok (.astore_n 3, 1) := by decide +kernel
theorem dX2_stateOn_6 : decode cX2_stateOn 6 = .ok (.aload_n 3, 1) := by decide +kernel
theorem dX2_stateOn_7 : decode cX2_stateOn 7 = .ok (.ifnonnull 7, 3) := by decide +kernel
theorem dX2_stateOn_10 : decode cX2_stateOn 10 = .ok (.iconst 3, 1) := by decide +kernel
theorem dX2_stateOn_11 : decode cX2_stateOn 11 = .ok (.goto 7, 3) := by decide +kernel
theorem dX2_stateOn_14 : decode cX2_stateOn 14 = .ok (.aload_n 3, 1) := by decide +kernel
theorem dX2_stateOn_15 : decode cX2_stateOn 15 = .ok (.getfield 118, 3) := by decide +kernel
theorem dX2_stateOn_18 : decode cX2_stateOn 18 = .ok (.ireturn, 1) := by decide +kernel
theorem dX2_lastUpTo_0 : decode cX2_lastUpTo 0 = .ok (.aconst_null, 1) := by decide +kernel
theorem dX2_lastUpTo_1 : decode cX2_lastUpTo 1 = .ok (.astore_n 3, 1) := by decide +kernel
theorem dX2_lastUpTo_2 : decode cX2_lastUpTo 2 = .ok (.aload_n 0, 1) := by decide +kernel
theorem dX2_lastUpTo_3 : decode cX2_lastUpTo 3 = .ok (.getfield 109, 3) := by decide +kernel
theorem dX2_lastUpTo_6 : decode cX2_lastUpTo 6 = .ok (.astore 4, 2) := by decide +kernel
theorem dX2_lastUpTo_8 : decode cX2_lastUpTo 8 = .ok (.aload 4, 2) := by decide +kernel
theorem dX2_lastUpTo_10 : decode cX2_lastUpTo 10 = .ok (.ifnull 26, 3) := by decide +kernel
theorem dX2_lastUpTo_13 : decode cX2_lastUpTo 13 = .ok (.aload 4, 2) := by decide +kernel
theorem dX2_lastUpTo_15 : decode cX2_lastUpTo 15 = .ok (.getfield 135, 3) := by decide +kernel
theorem dX2_lastUpTo_18 : decode cX2_lastUpTo 18 = .ok (.lload_n 1, 1) := by decide +kernel
theorem dX2_lastUpTo_19 : decode cX2_lastUpTo 19 = .ok (.lcmp, 1) := by decide +kernel
theorem dX2_lastUpTo_20 : decode cX2_lastUpTo 20 = .ok (.ifCond .gt 16, 3) := by decide +kernel
theorem dX2_lastUpTo_23 : decode cX2_lastUpTo 23 = .ok (.aload 4, 2) := by decide +kernel
theorem dX2_lastUpTo_25 : decode cX2_lastUpTo 25 = .ok (.astore_n 3, 1) := by decide +kernel
theorem dX2_lastUpTo_26 : decode cX2_lastUpTo 26 = .ok (.aload 4, 2) := by decide +kernel
theorem dX2_lastUpTo_28 : decode cX2_lastUpTo 28 = .ok (.getfield 113, 3) := by decide +kernel
theorem dX2_lastUpTo_31 : decode cX2_lastUpTo 31 = .ok (.astore 4, 2) := by decide +kernel
theorem dX2_lastUpTo_33 : decode cX2_lastUpTo 33 = .ok (.goto (-25), 3) := by decide +kernel
theorem dX2_lastUpTo_36 : decode cX2_lastUpTo 36 = .ok (.aload_n 3, 1) := by decide +kernel
theorem dX2_lastUpTo_37 : decode cX2_lastUpTo 37 = .ok (.areturn, 1) := by decide +kernel
theorem dX2_canFollow_0 : decode cX2_canFollow 0 = .ok (.iload_n 0, 1) := by decide +kernel
theorem dX2_canFollow_1 : decode cX2_canFollow 1 = .ok (.tableswitch 131 0 6 #[43, 60, 75, 90, 106, 75, 116], 43) := by decide +kernel
theorem dX2_canFollow_44 : decode cX2_canFollow 44 = .ok (.iload_n 1, 1) := by decide +kernel
theorem dX2_canFollow_45 : decode cX2_canFollow 45 = .ok (.iconst 1, 1) := by decide +kernel
theorem dX2_canFollow_46 : decode cX2_canFollow 46 = .ok (.if_icmp .lt 13, 3) := by decide +kernel
theorem dX2_canFollow_49 : decode cX2_canFollow 49 = .ok (.iload_n 1, 1) := by decide +kernel
theorem dX2_canFollow_50 : decode cX2_canFollow 50 = .ok (.bipush 6, 2) := by decide +kernel
theorem dX2_canFollow_52 : decode cX2_canFollow 52 = .ok (.if_icmp .gt 7, 3) := by decide +kernel
theorem dX2_canFollow_55 : decode cX2_canFollow 55 = .ok (.iconst 1, 1) := by decide +kernel
theorem dX2_canFollow_56 : decode cX2_canFollow 56 = .ok (.goto 4, 3) := by decide +kernel
theorem dX2_canFollow_59 : decode cX2_canFollow 59 = .ok (.iconst 0, 1) := by decide +kernel
theorem dX2_canFollow_60 : decode cX2_canFollow 60 = .ok (.ireturn, 1) := by decide +kernel
theorem dX2_canFollow_61 : decode cX2_canFollow 61 = .ok (.iload_n 1, 1) := by decide +kernel
theorem dX2_canFollow_62 : decode cX2_canFollow 62 = .ok (.ifCond .eq 8, 3) := by decide +kernel
theorem dX2_canFollow_65 : decode cX2_canFollow 65 = .ok (.iload_n 1, 1) := by decide +kernel
theorem dX2_canFollow_66 : decode cX2_canFollow 66 = .ok (.iconst 4, 1) := by decide +kernel
theorem dX2_canFollow_67 : decode cX2_canFollow 67 = .ok (.if_icmp .ne 7, 3) := by decide +kernel
theorem dX2_canFollow_70 : decode cX2_canFollow 70 = .ok (.iconst 1, 1) := by decide +kernel
theorem dX2_canFollow_71 : decode cX2_canFollow 71 = .ok (.goto 4, 3) := by decide +kernel
theorem dX2_canFollow_74 : decode cX2_canFollow 74 = .ok (.iconst 0, 1) := by decide +kernel
theorem dX2_canFollow_75 : decode cX2_canFollow 75 = .ok (.ireturn, 1) := by decide +kernel
theorem dX2_canFollow_76 : decode cX2_canFollow 76 = .ok (.iload_n 1, 1) := by decide +kernel
theorem dX2_canFollow_77 : decode cX2_canFollow 77 = .ok (.ifCond .eq 8, 3) := by decide +kernel
theorem dX2_canFollow_80 : decode cX2_canFollow 80 = .ok (.iload_n 1, 1) := by decide +kernel
theorem dX2_canFollow_81 : decode cX2_canFollow 81 = .ok (.iconst 3, 1) := by decide +kernel
theorem dX2_canFollow_82 : decode cX2_canFollow 82 = .ok (.if_icmp .ne 7, 3) := by decide +kernel
theorem dX2_canFollow_85 : decode cX2_canFollow 85 = .ok (.iconst 1, 1) := by decide +kernel
theorem dX2_canFollow_86 : decode cX2_canFollow 86 = .ok (.goto 4, 3) := by decide +kernel
theorem dX2_canFollow_89 : decode cX2_canFollow 89 = .ok (.iconst 0, 1) := by decide +kernel
theorem dX2_canFollow_90 : decode cX2_canFollow 90 = .ok (.ireturn, 1) := by decide +kernel
theorem dX2_canFollow_91 : decode cX2_canFollow 91 = .ok (.iload_n 1, 1) := by decide +kernel
theorem dX2_canFollow_92 : decode cX2_canFollow 92 = .ok (.ifCond .eq 9, 3) := by decide +kernel
theorem dX2_canFollow_95 : decode cX2_canFollow 95 = .ok (.iload_n 1, 1) := by decide +kernel
theorem dX2_canFollow_96 : decode cX2_canFollow 96 = .ok (.bipush 6, 2) := by decide +kernel
theorem dX2_canFollow_98 : decode cX2_canFollow 98 = .ok (.if_icmp .ne 7, 3) := by decide +kernel
theorem dX2_canFollow_101 : decode cX2_canFollow 101 = .ok (.iconst 1, 1) := by decide +kernel
theorem dX2_canFollow_102 : decode cX2_canFollow 102 = .ok (.goto 4, 3) := by decide +kernel
theorem dX2_canFollow_105 : decode cX2_canFollow 105 = .ok (.iconst 0, 1) := by decide +kernel
theorem dX2_canFollow_106 : decode cX2_canFollow 106 = .ok (.ireturn, 1) := by decide +kernel
theorem dX2_canFollow_107 : decode cX2_canFollow 107 = .ok (.iload_n 1, 1) := by decide +kernel
theorem dX2_canFollow_108 : decode cX2_canFollow 108 = .ok (.ifCond .ne 7, 3) := by decide +kernel
theorem dX2_canFollow_111 : decode cX2_canFollow 111 = .ok (.iconst 1, 1) := by decide +kernel
theorem dX2_canFollow_112 : decode cX2_canFollow 112 = .ok (.goto 4, 3) := by decide +kernel
theorem dX2_canFollow_115 : decode cX2_canFollow 115 = .ok (.iconst 0, 1) := by decide +kernel
theorem dX2_canFollow_116 : decode cX2_canFollow 116 = .ok (.ireturn, 1) := by decide +kernel
theorem dX2_canFollow_117 : decode cX2_canFollow 117 = .ok (.iload_n 1, 1) := by decide +kernel
theorem dX2_canFollow_118 : decode cX2_canFollow 118 = .ok (.ifCond .lt 12, 3) := by decide +kernel
theorem dX2_canFollow_121 : decode cX2_canFollow 121 = .ok (.iload_n 1, 1) := by decide +kernel
theorem dX2_canFollow_122 : decode cX2_canFollow 122 = .ok (.iconst 5, 1) := by decide +kernel
theorem dX2_canFollow_123 : decode cX2_canFollow 123 = .ok (.if_icmp .gt 7, 3) := by decide +kernel
theorem dX2_canFollow_126 : decode cX2_canFollow 126 = .ok (.iconst 1, 1) := by decide +kernel
theorem dX2_canFollow_127 : decode cX2_canFollow 127 = .ok (.goto 4, 3) := by decide +kernel
theorem dX2_canFollow_130 : decode cX2_canFollow 130 = .ok (.iconst 0, 1) := by decide +kernel
theorem dX2_canFollow_131 : decode cX2_canFollow 131 = .ok (.ireturn, 1) := by decide +kernel
theorem dX2_canFollow_132 : decode cX2_canFollow 132 = .ok (.iconst 0, 1) := by decide +kernel
theorem dX2_canFollow_133 : decode cX2_canFollow 133 = .ok (.ireturn, 1) := by decide +kernel
theorem dX2_lacksRight_0 : decode cX2_lacksRight 0 = .ok (.iload_n 2, 1) := by decide +kernel
theorem dX2_lacksRight_1 : decode cX2_lacksRight 1 = .ok (.iconst 2, 1) := by decide +kernel
theorem dX2_lacksRight_2 : decode cX2_lacksRight 2 = .ok (.if_icmp .ne 21, 3) := by decide +kernel
theorem dX2_lacksRight_5 : decode cX2_lacksRight 5 = .ok (.aload_n 0, 1) := by decide +kernel
theorem dX2_lacksRight_6 : decode cX2_lacksRight 6 = .ok (.iload_n 3, 1) := by decide +kernel
theorem dX2_lacksRight_7 : decode cX2_lacksRight 7 = .ok (.aload_n 1, 1) := by decide +kernel
theorem dX2_lacksRight_8 : decode cX2_lacksRight 8 = .ok (.getfield 132, 3) := by decide +kernel
theorem dX2_lacksRight_11 : decode cX2_lacksRight 11 = .ok (.invokevirtual 54, 3) := by decide +kernel
theorem dX2_lacksRight_14 : decode cX2_lacksRight 14 = .ok (.ifCond .ne 7, 3) := by decide +kernel
theorem dX2_lacksRight_17 : decode cX2_lacksRight 17 = .ok (.iconst 1, 1) := by decide +kernel
theorem dX2_lacksRight_18 : decode cX2_lacksRight 18 = .ok (.goto 4, 3) := by decide +kernel
theorem dX2_lacksRight_21 : decode cX2_lacksRight 21 = .ok (.iconst 0, 1) := by decide +kernel
theorem dX2_lacksRight_22 : decode cX2_lacksRight 22 = .ok (.ireturn, 1) := by decide +kernel
theorem dX2_lacksRight_23 : decode cX2_lacksRight 23 = .ok (.iload_n 2, 1) := by decide +kernel
theorem dX2_lacksRight_24 : decode cX2_lacksRight 24 = .ok (.ifCond .ne 20, 3) := by decide +kernel
theorem dX2_lacksRight_27 : decode cX2_lacksRight 27 = .ok (.aload_n 1, 1) := by decide +kernel
theorem dX2_lacksRight_28 : decode cX2_lacksRight 28 = .ok (.getfield 75, 3) := by decide +kernel
theorem dX2_lacksRight_31 : decode cX2_lacksRight 31 = .ok (.iconst 2, 1) := by decide +kernel
theorem dX2_lacksRight_32 : decode cX2_lacksRight 32 = .ok (.if_icmp .ne 12, 3) := by decide +kernel
theorem dX2_lacksRight_35 : decode cX2_lacksRight 35 = .ok (.iload 4, 2) := by decide +kernel
theorem dX2_lacksRight_37 : decode cX2_lacksRight 37 = .ok (.ifCond .ne 7, 3) := by decide +kernel
theorem dX2_lacksRight_40 : decode cX2_lacksRight 40 = .ok (.iconst 1, 1) := by decide +kernel
theorem dX2_lacksRight_41 : decode cX2_lacksRight 41 = .ok (.goto 4, 3) := by decide +kernel
theorem dX2_lacksRight_44 : decode cX2_lacksRight 44 = .ok (.iconst 0, 1) := by decide +kernel
theorem dX2_lacksRight_45 : decode cX2_lacksRight 45 = .ok (.istore 5, 2) := by decide +kernel
theorem dX2_lacksRight_47 : decode cX2_lacksRight 47 = .ok (.iload 5, 2) := by decide +kernel
theorem dX2_lacksRight_49 : decode cX2_lacksRight 49 = .ok (.ifCond .eq 22, 3) := by decide +kernel
theorem dX2_lacksRight_52 : decode cX2_lacksRight 52 = .ok (.aload_n 0, 1) := by decide +kernel
theorem dX2_lacksRight_53 : decode cX2_lacksRight 53 = .ok (.aload_n 1, 1) := by decide +kernel
theorem dX2_lacksRight_54 : decode cX2_lacksRight 54 = .ok (.getfield 68, 3) := by decide +kernel
theorem dX2_lacksRight_57 : decode cX2_lacksRight 57 = .ok (.aload_n 1, 1) := by decide +kernel
theorem dX2_lacksRight_58 : decode cX2_lacksRight 58 = .ok (.getfield 132, 3) := by decide +kernel
theorem dX2_lacksRight_61 : decode cX2_lacksRight 61 = .ok (.invokevirtual 54, 3) := by decide +kernel
theorem dX2_lacksRight_64 : decode cX2_lacksRight 64 = .ok (.ifCond .ne 7, 3) := by decide +kernel
theorem dX2_lacksRight_67 : decode cX2_lacksRight 67 = .ok (.iconst 1, 1) := by decide +kernel
theorem dX2_lacksRight_68 : decode cX2_lacksRight 68 = .ok (.goto 4, 3) := by decide +kernel
theorem dX2_lacksRight_71 : decode cX2_lacksRight 71 = .ok (.iconst 0, 1) := by decide +kernel
theorem dX2_lacksRight_72 : decode cX2_lacksRight 72 = .ok (.ireturn, 1) := by decide +kernel
theorem dX2_enter_0 : decode cX2_enter 0 = .ok (.aload_n 1, 1) := by decide +kernel
theorem dX2_enter_1 : decode cX2_enter 1 = .ok (.lload_n 2, 1) := by decide +kernel
theorem dX2_enter_2 : decode cX2_enter 2 = .ok (.invokestatic 138, 3) := by decide +kernel
theorem dX2_enter_5 : decode cX2_enter 5 = .ok (.astore 6, 2) := by decide +kernel
theorem dX2_enter_7 : decode cX2_enter 7 = .ok (.aload 6, 2) := by decide +kernel
theorem dX2_enter_9 : decode cX2_enter 9 = .ok (.ifnonnull 26, 3) := by decide +kernel
theorem dX2_enter_12 : decode cX2_enter 12 = .ok (.aload_n 1, 1) := by decide +kernel
theorem dX2_enter_13 : decode cX2_enter 13 = .ok (.new 114, 3) := by decide +kernel
theorem dX2_enter_16 : decode cX2_enter 16 = .ok (.dup, 1) := by decide +kernel
theorem dX2_enter_17 : decode cX2_enter 17 = .ok (.lload_n 2, 1) := by decide +kernel
theorem dX2_enter_18 : decode cX2_enter 18 = .ok (.iload 4, 2) := by decide +kernel
theorem dX2_enter_20 : decode cX2_enter 20 = .ok (.iload 5, 2) := by decide +kernel
theorem dX2_enter_22 : decode cX2_enter 22 = .ok (.aload_n 1, 1) := by decide +kernel
theorem dX2_enter_23 : decode cX2_enter 23 = .ok (.getfield 109, 3) := by decide +kernel
theorem dX2_enter_26 : decode cX2_enter 26 = .ok (.invokespecial 142, 3) := by decide +kernel
theorem dX2_enter_29 : decode cX2_enter 29 = .ok (.putfield 109, 3) := by decide +kernel
theorem dX2_enter_32 : decode cX2_enter 32 = .ok (.goto 25, 3) := by decide +kernel
theorem dX2_enter_35 : decode cX2_enter 35 = .ok (.aload 6, 2) := by decide +kernel
theorem dX2_enter_37 : decode cX2_enter 37 = .ok (.new 114, 3) := by decide +kernel
theorem dX2_enter_40 : decode cX2_enter 40 = .ok (.dup, 1) := by decide +kernel
theorem dX2_enter_41 : decode cX2_enter 41 = .ok (.lload_n 2, 1) := by decide +kernel
theorem dX2_enter_42 : decode cX2_enter 42 = .ok (.iload 4, 2) := by decide +kernel
theorem dX2_enter_44 : decode cX2_enter 44 = .ok (.iload 5, 2) := by decide +kernel
theorem dX2_enter_46 : decode cX2_enter 46 = .ok (.aload 6, 2) := by decide +kernel
theorem dX2_enter_48 : decode cX2_enter 48 = .ok (.getfield 113, 3) := by decide +kernel
theorem dX2_enter_51 : decode cX2_enter 51 = .ok (.invokespecial 142, 3) := by decide +kernel
theorem dX2_enter_54 : decode cX2_enter 54 = .ok (.putfield 113, 3) := by decide +kernel
theorem dX2_enter_57 : decode cX2_enter 57 = .ok (.aload_n 0, 1) := by decide +kernel
theorem dX2_enter_58 : decode cX2_enter 58 = .ok (.dup, 1) := by decide +kernel
theorem dX2_enter_59 : decode cX2_enter 59 = .ok (.getfield 31, 3) := by decide +kernel
theorem dX2_enter_62 : decode cX2_enter 62 = .ok (.iconst 1, 1) := by decide +kernel
theorem dX2_enter_63 : decode cX2_enter 63 = .ok (.iadd, 1) := by decide +kernel
theorem dX2_enter_64 : decode cX2_enter 64 = .ok (.putfield 31, 3) := by decide +kernel
theorem dX2_enter_67 : decode cX2_enter 67 = .ok (.aload_n 0, 1) := by decide +kernel
theorem dX2_enter_68 : decode cX2_enter 68 = .ok (.aload_n 0, 1) := by decide +kernel
theorem dX2_enter_69 : decode cX2_enter 69 = .ok (.getfield 27, 3) := by decide +kernel
theorem dX2_enter_72 : decode cX2_enter 72 = .ok (.lload_n 2, 1) := by decide +kernel
theorem dX2_enter_73 : decode cX2_enter 73 = .ok (.invokestatic 145, 3) := by decide +kernel
theorem dX2_enter_76 : decode cX2_enter 76 = .ok (.putfield 27, 3) := by decide +kernel
theorem dX2_enter_79 : decode cX2_enter 79 = .ok (.return_, 1) := by decide +kernel
theorem dX1_init_0 : decode cX1_init 0 = .ok (.aload_n 0, 1) := by decide +kernel
theorem dX1_init_1 : decode cX1_init 1 = .ok (.invokespecial 1, 3) := by decide +kernel
theorem dX1_init_4 : decode cX1_init 4 = .ok (.aload_n 0, 1) := by decide +kernel
theorem dX1_init_5 : decode cX1_init 5 = .ok (.lload_n 1, 1) := by decide +kernel
theorem dX1_init_6 : decode cX1_init 6 = .ok (.putfield 7, 3) := by decide +kernel
theorem dX1_init_9 : decode cX1_init 9 = .ok (.aload_n 0, 1) := by decide +kernel
theorem dX1_init_10 : decode cX1_init 10 = .ok (.iload_n 3, 1) := by decide +kernel
theorem dX1_init_11 : decode cX1_init 11 = .ok (.putfield 13, 3) := by decide +kernel
theorem dX1_init_14 : decode cX1_init 14 = .ok (.aload_n 0, 1) := by decide +kernel
theorem dX1_init_15 : decode cX1_init 15 = .ok (.iload 4, 2) := by decide +kernel
theorem dX1_init_17 : decode cX1_init 17 = .ok (.putfield 17, 3) := by decide +kernel
theorem dX1_init_20 : decode cX1_init 20 = .ok (.aload_n 0, 1) := by decide +kernel
theorem dX1_init_21 : decode cX1_init 21 = .ok (.aload 5, 2) := by decide +kernel
theorem dX1_init_23 : decode cX1_init 23 = .ok (.putfield 21, 3) := by decide +kernel
theorem dX1_init_26 : decode cX1_init 26 = .ok (.return_, 1) := by decide +kernel
theorem dJ_max_0 : decode cJ_max 0 = .ok (.lload_n 0, 1) := by decide +kernel
theorem dJ_max_1 : decode cJ_max 1 = .ok (.lload_n 2, 1) := by decide +kernel
theorem dJ_max_2 : decode cJ_max 2 = .ok (.lcmp, 1) := by decide +kernel
theorem dJ_max_3 : decode cJ_max 3 = .ok (.ifCond .lt 7, 3) := by decide +kernel
theorem dJ_max_6 : decode cJ_max 6 = .ok (.lload_n 0, 1) := by decide +kernel
theorem dJ_max_7 : decode cJ_max 7 = .ok (.goto 4, 3) := by decide +kernel
theorem dJ_max_10 : decode cJ_max 10 = .ok (.lload_n 2, 1) := by decide +kernel
theorem dJ_max_11 : decode cJ_max 11 = .ok (.lreturn, 1) := by decide +kernel
theorem dX2_carryOut_0 : decode cX2_carryOut 0 = .ok (.iload_n 2, 1) := by decide +kernel
theorem dX2_carryOut_1 : decode cX2_carryOut 1 = .ok (.bipush 6, 2) := by decide +kernel
theorem dX2_carryOut_3 : decode cX2_carryOut 3 = .ok (.if_icmp .ne 39, 3) := by decide +kernel
theorem dX2_carryOut_6 : decode cX2_carryOut 6 = .ok (.aload_n 1, 1) := by decide +kernel
theorem dX2_carryOut_7 : decode cX2_carryOut 7 = .ok (.getfield 75, 3) := by decide +kernel
theorem dX2_carryOut_10 : decode cX2_carryOut 10 = .ok (.iconst 1, 1) := by decide +kernel
theorem dX2_carryOut_11 : decode cX2_carryOut 11 = .ok (.if_icmp .ne 31, 3) := by decide +kernel
theorem dX2_carryOut_14 : decode cX2_carryOut 14 = .ok (.aload_n 1, 1) := by decide +kernel
theorem dX2_carryOut_15 : decode cX2_carryOut 15 = .ok (.getfield 132, 3) := by decide +kernel
theorem dX2_carryOut_18 : decode cX2_carryOut 18 = .ok (.invokestatic 40, 3) := by decide +kernel
theorem dX2_carryOut_21 : decode cX2_carryOut 21 = .ok (.ifCond .eq 21, 3) := by decide +kernel
theorem dX2_carryOut_24 : decode cX2_carryOut 24 = .ok (.aload_n 1, 1) := by decide +kernel
theorem dX2_carryOut_25 : decode cX2_carryOut 25 = .ok (.dup, 1) := by decide +kernel
theorem dX2_carryOut_26 : decode cX2_carryOut 26 = .ok (.getfield 106, 3) := by decide +kernel
theorem dX2_carryOut_29 : decode cX2_carryOut 29 = .ok (.aload_n 0, 1) := by decide +kernel
theorem dX2_carryOut_30 : decode cX2_carryOut 30 = .ok (.getfield 23, 3) := by decide +kernel
theorem dX2_carryOut_33 : decode cX2_carryOut 33 = .ok (.aload_n 1, 1) := by decide +kernel
theorem dX2_carryOut_34 : decode cX2_carryOut 34 = .ok (.getfield 132, 3) := by decide +kernel
theorem dX2_carryOut_37 : decode cX2_carryOut 37 = .ok (.iaload, 1) := by decide +kernel
theorem dX2_carryOut_38 : decode cX2_carryOut 38 = .ok (.iadd, 1) := by decide +kernel
theorem dX2_carryOut_39 : decode cX2_carryOut 39 = .ok (.putfield 106, 3) := by decide +kernel
theorem dX2_carryOut_42 : decode cX2_carryOut 42 = .ok (.iload_n 2, 1) := by decide +kernel
theorem dX2_carryOut_43 : decode cX2_carryOut 43 = .ok (.iconst 2, 1) := by decide +kernel
theorem dX2_carryOut_44 : decode cX2_carryOut 44 = .ok (.if_icmp .ne 8, 3) := by decide +kernel
theorem dX2_carryOut_47 : decode cX2_carryOut 47 = .ok (.aload_n 1, 1) := by decide +kernel
theorem dX2_carryOut_48 : decode cX2_carryOut 48 = .ok (.iload_n 3, 1) := by decide +kernel
theorem dX2_carryOut_49 : decode cX2_carryOut 49 = .ok (.putfield 68, 3) := by decide +kernel
theorem dX2_carryOut_52 : decode cX2_carryOut 52 = .ok (.iload_n 2, 1) := by decide +kernel
theorem dX2_carryOut_53 : decode cX2_carryOut 53 = .ok (.ifCond .ne 18, 3) := by decide +kernel
theorem dX2_carryOut_56 : decode cX2_carryOut 56 = .ok (.aload_n 1, 1) := by decide +kernel
theorem dX2_carryOut_57 : decode cX2_carryOut 57 = .ok (.getfield 93, 3) := by decide +kernel
theorem dX2_carryOut_60 : decode cX2_carryOut 60 = .ok (.ifCond .eq 11, 3) := by decide +kernel
theorem dX2_carryOut_63 : decode cX2_carryOut 63 = .ok (.aload_n 1, 1) := by decide +kernel
theorem dX2_carryOut_64 : decode cX2_carryOut 64 = .ok (.aload_n 1, 1) := by decide +kernel
theorem dX2_carryOut_65 : decode cX2_carryOut 65 = .ok (.getfield 68, 3) := by decide +kernel
theorem dX2_carryOut_68 : decode cX2_carryOut 68 = .ok (.putfield 97, 3) := by decide +kernel
theorem dX2_carryOut_71 : decode cX2_carryOut 71 = .ok (.aload_n 1, 1) := by decide +kernel
theorem dX2_carryOut_72 : decode cX2_carryOut 72 = .ok (.iload_n 2, 1) := by decide +kernel
theorem dX2_carryOut_73 : decode cX2_carryOut 73 = .ok (.putfield 75, 3) := by decide +kernel
theorem dX2_carryOut_76 : decode cX2_carryOut 76 = .ok (.aload_n 1, 1) := by decide +kernel
theorem dX2_carryOut_77 : decode cX2_carryOut 77 = .ok (.iconst (-1), 1) := by decide +kernel
theorem dX2_carryOut_78 : decode cX2_carryOut 78 = .ok (.putfield 103, 3) := by decide +kernel
theorem dX2_carryOut_81 : decode cX2_carryOut 81 = .ok (.return_, 1) := by decide +kernel
theorem dX2_state_0 : decode cX2_state 0 = .ok (.aload_n 0, 1) := by decide +kernel
theorem dX2_state_1 : decode cX2_state 1 = .ok (.iload_n 1, 1) := by decide +kernel
theorem dX2_state_2 : decode cX2_state 2 = .ok (.invokevirtual 62, 3) := by decide +kernel
theorem dX2_state_5 : decode cX2_state 5 = .ok (.astore 4, 2) := by decide +kernel
theorem dX2_state_7 : decode cX2_state 7 = .ok (.aload 4, 2) := by decide +kernel
theorem dX2_state_9 : decode cX2_state 9 = .ok (.ifnonnull 7, 3) := by decide +kernel
theorem dX2_state_12 : decode cX2_state 12 = .ok (.iconst (-1), 1) := by decide +kernel
theorem dX2_state_13 : decode cX2_state 13 = .ok (.goto 9, 3) := by decide +kernel
theorem dX2_state_16 : decode cX2_state 16 = .ok (.aload 4, 2) := by decide +kernel
theorem dX2_state_18 : decode cX2_state 18 = .ok (.lload_n 2, 1) := by decide +kernel
theorem dX2_state_19 : decode cX2_state 19 = .ok (.invokestatic 71, 3) := by decide +kernel
theorem dX2_state_22 : decode cX2_state 22 = .ok (.ireturn, 1) := by decide +kernel
theorem dX2_place_0 : decode cX2_place 0 = .ok (.aload_n 0, 1) := by decide +kernel
theorem dX2_place_1 : decode cX2_place 1 = .ok (.iload_n 1, 1) := by decide +kernel
theorem dX2_place_2 : decode cX2_place 2 = .ok (.invokevirtual 62, 3) := by decide +kernel
theorem dX2_place_5 : decode cX2_place 5 = .ok (.astore_n 2, 1) := by decide +kernel
theorem dX2_place_6 : decode cX2_place 6 = .ok (.aload_n 2, 1) := by decide +kernel
theorem dX2_place_7 : decode cX2_place 7 = .ok (.ifnonnull 7, 3) := by decide +kernel
theorem dX2_place_10 : decode cX2_place 10 = .ok (.iconst (-1), 1) := by decide +kernel
theorem dX2_place_11 : decode cX2_place 11 = .ok (.goto 7, 3) := by decide +kernel
theorem dX2_place_14 : decode cX2_place 14 = .ok (.aload_n 2, 1) := by decide +kernel
theorem dX2_place_15 : decode cX2_place 15 = .ok (.getfield 68, 3) := by decide +kernel
theorem dX2_place_18 : decode cX2_place 18 = .ok (.ireturn, 1) := by decide +kernel
theorem dX2_floats_0 : decode cX2_floats 0 = .ok (.aload_n 0, 1) := by decide +kernel
theorem dX2_floats_1 : decode cX2_floats 1 = .ok (.iload_n 1, 1) := by decide +kernel
theorem dX2_floats_2 : decode cX2_floats 2 = .ok (.invokevirtual 62, 3) := by decide +kernel
theorem dX2_floats_5 : decode cX2_floats 5 = .ok (.astore_n 3, 1) := by decide +kernel
theorem dX2_floats_6 : decode cX2_floats 6 = .ok (.aload_n 3, 1) := by decide +kernel
theorem dX2_floats_7 : decode cX2_floats 7 = .ok (.ifnonnull 5, 3) := by decide +kernel
theorem dX2_floats_10 : decode cX2_floats 10 = .ok (.iconst 0, 1) := by decide +kernel
theorem dX2_floats_11 : decode cX2_floats 11 = .ok (.ireturn, 1) := by decide +kernel
theorem dX2_floats_12 : decode cX2_floats 12 = .ok (.aload_n 3, 1) := by decide +kernel
theorem dX2_floats_13 : decode cX2_floats 13 = .ok (.getfield 93, 3) := by decide +kernel
theorem dX2_floats_16 : decode cX2_floats 16 = .ok (.istore 4, 2) := by decide +kernel
theorem dX2_floats_18 : decode cX2_floats 18 = .ok (.aload_n 3, 1) := by decide +kernel
theorem dX2_floats_19 : decode cX2_floats 19 = .ok (.iload_n 2, 1) := by decide +kernel
theorem dX2_floats_20 : decode cX2_floats 20 = .ok (.putfield 93, 3) := by decide +kernel
theorem dX2_floats_23 : decode cX2_floats 23 = .ok (.iload 4, 2) := by decide +kernel
theorem dX2_floats_25 : decode cX2_floats 25 = .ok (.ireturn, 1) := by decide +kernel
theorem dX2_home_0 : decode cX2_home 0 = .ok (.aload_n 0, 1) := by decide +kernel
theorem dX2_home_1 : decode cX2_home 1 = .ok (.iload_n 1, 1) := by decide +kernel
theorem dX2_home_2 : decode cX2_home 2 = .ok (.invokevirtual 62, 3) := by decide +kernel
theorem dX2_home_5 : decode cX2_home 5 = .ok (.astore_n 2, 1) := by decide +kernel
theorem dX2_home_6 : decode cX2_home 6 = .ok (.aload_n 2, 1) := by decide +kernel
theorem dX2_home_7 : decode cX2_home 7 = .ok (.ifnonnull 7, 3) := by decide +kernel
theorem dX2_home_10 : decode cX2_home 10 = .ok (.iconst (-1), 1) := by decide +kernel
theorem dX2_home_11 : decode cX2_home 11 = .ok (.goto 7, 3) := by decide +kernel
theorem dX2_home_14 : decode cX2_home 14 = .ok (.aload_n 2, 1) := by decide +kernel
theorem dX2_home_15 : decode cX2_home 15 = .ok (.getfield 97, 3) := by decide +kernel
theorem dX2_home_18 : decode cX2_home 18 = .ok (.ireturn, 1) := by decide +kernel
theorem dX2_weed_0 : decode cX2_weed 0 = .ok (.aload_n 0, 1) := by decide +kernel
theorem dX2_weed_1 : decode cX2_weed 1 = .ok (.iload_n 1, 1) := by decide +kernel
theorem dX2_weed_2 : decode cX2_weed 2 = .ok (.invokevirtual 62, 3) := by decide +kernel
theorem dX2_weed_5 : decode cX2_weed 5 = .ok (.astore_n 3, 1) := by decide +kernel
theorem dX2_weed_6 : decode cX2_weed 6 = .ok (.aload_n 3, 1) := by decide +kernel
theorem dX2_weed_7 : decode cX2_weed 7 = .ok (.ifnull 23, 3) := by decide +kernel
theorem dX2_weed_10 : decode cX2_weed 10 = .ok (.iload_n 2, 1) := by decide +kernel
theorem dX2_weed_11 : decode cX2_weed 11 = .ok (.ifCond .lt 19, 3) := by decide +kernel
theorem dX2_weed_14 : decode cX2_weed 14 = .ok (.iload_n 2, 1) := by decide +kernel
theorem dX2_weed_15 : decode cX2_weed 15 = .ok (.bipush 100, 2) := by decide +kernel
theorem dX2_weed_17 : decode cX2_weed 17 = .ok (.if_icmp .ge 13, 3) := by decide +kernel
theorem dX2_weed_20 : decode cX2_weed 20 = .ok (.aload_n 0, 1) := by decide +kernel
theorem dX2_weed_21 : decode cX2_weed 21 = .ok (.getfield 31, 3) := by decide +kernel
theorem dX2_weed_24 : decode cX2_weed 24 = .ok (.sipush 512, 3) := by decide +kernel
theorem dX2_weed_27 : decode cX2_weed 27 = .ok (.if_icmp .lt 5, 3) := by decide +kernel
theorem dX2_weed_30 : decode cX2_weed 30 = .ok (.iconst (-1), 1) := by decide +kernel
theorem dX2_weed_31 : decode cX2_weed 31 = .ok (.ireturn, 1) := by decide +kernel
theorem dX2_weed_32 : decode cX2_weed 32 = .ok (.aload_n 3, 1) := by decide +kernel
theorem dX2_weed_33 : decode cX2_weed 33 = .ok (.getfield 75, 3) := by decide +kernel
theorem dX2_weed_36 : decode cX2_weed 36 = .ok (.invokestatic 100, 3) := by decide +kernel
theorem dX2_weed_39 : decode cX2_weed 39 = .ok (.ifCond .eq 11, 3) := by decide +kernel
theorem dX2_weed_42 : decode cX2_weed 42 = .ok (.aload_n 3, 1) := by decide +kernel
theorem dX2_weed_43 : decode cX2_weed 43 = .ok (.getfield 103, 3) := by decide +kernel
theorem dX2_weed_46 : decode cX2_weed 46 = .ok (.iload_n 2, 1) := by decide +kernel
theorem dX2_weed_47 : decode cX2_weed 47 = .ok (.if_icmp .ne 6, 3) := by decide +kernel
theorem dX2_weed_50 : decode cX2_weed 50 = .ok (.bipush (-2), 2) := by decide +kernel
theorem dX2_weed_52 : decode cX2_weed 52 = .ok (.ireturn, 1) := by decide +kernel
theorem dX2_weed_53 : decode cX2_weed 53 = .ok (.aload_n 3, 1) := by decide +kernel
theorem dX2_weed_54 : decode cX2_weed 54 = .ok (.getfield 103, 3) := by decide +kernel
theorem dX2_weed_57 : decode cX2_weed 57 = .ok (.iconst (-1), 1) := by decide +kernel
theorem dX2_weed_58 : decode cX2_weed 58 = .ok (.if_icmp .ne 10, 3) := by decide +kernel
theorem dX2_weed_61 : decode cX2_weed 61 = .ok (.aload_n 3, 1) := by decide +kernel
theorem dX2_weed_62 : decode cX2_weed 62 = .ok (.iload_n 2, 1) := by decide +kernel
theorem dX2_weed_63 : decode cX2_weed 63 = .ok (.putfield 103, 3) := by decide +kernel
theorem dX2_weed_66 : decode cX2_weed 66 = .ok (.iconst 1, 1) := by decide +kernel
theorem dX2_weed_67 : decode cX2_weed 67 = .ok (.ireturn, 1) := by decide +kernel
theorem dX2_weed_68 : decode cX2_weed 68 = .ok (.aload_n 0, 1) := by decide +kernel
theorem dX2_weed_69 : decode cX2_weed 69 = .ok (.aload_n 3, 1) := by decide +kernel
theorem dX2_weed_70 : decode cX2_weed 70 = .ok (.aload_n 0, 1) := by decide +kernel
theorem dX2_weed_71 : decode cX2_weed 71 = .ok (.getfield 27, 3) := by decide +kernel
theorem dX2_weed_74 : decode cX2_weed 74 = .ok (.lconst 1, 1) := by decide +kernel
theorem dX2_weed_75 : decode cX2_weed 75 = .ok (.ladd, 1) := by decide +kernel
theorem dX2_weed_76 : decode cX2_weed 76 = .ok (.bipush 7, 2) := by decide +kernel
theorem dX2_weed_78 : decode cX2_weed 78 = .ok (.iconst 0, 1) := by decide +kernel
theorem dX2_weed_79 : decode cX2_weed 79 = .ok (.invokevirtual 85, 3) := by decide +kernel
theorem dX2_weed_82 : decode cX2_weed 82 = .ok (.aload_n 3, 1) := by decide +kernel
theorem dX2_weed_83 : decode cX2_weed 83 = .ok (.bipush 7, 2) := by decide +kernel
theorem dX2_weed_85 : decode cX2_weed 85 = .ok (.putfield 75, 3) := by decide +kernel
theorem dX2_weed_88 : decode cX2_weed 88 = .ok (.iconst 2, 1) := by decide +kernel
theorem dX2_weed_89 : decode cX2_weed 89 = .ok (.ireturn, 1) := by decide +kernel
theorem dX2_canBeWeeded_0 : decode cX2_canBeWeeded 0 = .ok (.iload_n 0, 1) := by decide +kernel
theorem dX2_canBeWeeded_1 : decode cX2_canBeWeeded 1 = .ok (.ifCond .eq 14, 3) := by decide +kernel
theorem dX2_canBeWeeded_4 : decode cX2_canBeWeeded 4 = .ok (.iload_n 0, 1) := by decide +kernel
theorem dX2_canBeWeeded_5 : decode cX2_canBeWeeded 5 = .ok (.iconst 3, 1) := by decide +kernel
theorem dX2_canBeWeeded_6 : decode cX2_canBeWeeded 6 = .ok (.if_icmp .eq 9, 3) := by decide +kernel
theorem dX2_canBeWeeded_9 : decode cX2_canBeWeeded 9 = .ok (.iload_n 0, 1) := by decide +kernel
theorem dX2_canBeWeeded_10 : decode cX2_canBeWeeded 10 = .ok (.bipush 6, 2) := by decide +kernel
theorem dX2_canBeWeeded_12 : decode cX2_canBeWeeded 12 = .ok (.if_icmp .ne 7, 3) := by decide +kernel
theorem dX2_canBeWeeded_15 : decode cX2_canBeWeeded 15 = .ok (.iconst 1, 1) := by decide +kernel
theorem dX2_canBeWeeded_16 : decode cX2_canBeWeeded 16 = .ok (.goto 4, 3) := by decide +kernel
theorem dX2_canBeWeeded_19 : decode cX2_canBeWeeded 19 = .ok (.iconst 0, 1) := by decide +kernel
theorem dX2_canBeWeeded_20 : decode cX2_canBeWeeded 20 = .ok (.ireturn, 1) := by decide +kernel
theorem dX2_owed_0 : decode cX2_owed 0 = .ok (.aload_n 0, 1) := by decide +kernel
theorem dX2_owed_1 : decode cX2_owed 1 = .ok (.iload_n 1, 1) := by decide +kernel
theorem dX2_owed_2 : decode cX2_owed 2 = .ok (.invokevirtual 62, 3) := by decide +kernel
theorem dX2_owed_5 : decode cX2_owed 5 = .ok (.astore_n 2, 1) := by decide +kernel
theorem dX2_owed_6 : decode cX2_owed 6 = .ok (.aload_n 2, 1) := by decide +kernel
theorem dX2_owed_7 : decode cX2_owed 7 = .ok (.ifnonnull 7, 3) := by decide +kernel
theorem dX2_owed_10 : decode cX2_owed 10 = .ok (.iconst (-1), 1) := by decide +kernel
theorem dX2_owed_11 : decode cX2_owed 11 = .ok (.goto 7, 3) := by decide +kernel
theorem dX2_owed_14 : decode cX2_owed 14 = .ok (.aload_n 2, 1) := by decide +kernel
theorem dX2_owed_15 : decode cX2_owed 15 = .ok (.getfield 106, 3) := by decide +kernel
theorem dX2_owed_18 : decode cX2_owed 18 = .ok (.ireturn, 1) := by decide +kernel
theorem dX2_history_0 : decode cX2_history 0 = .ok (.aload_n 0, 1) := by decide +kernel
theorem dX2_history_1 : decode cX2_history 1 = .ok (.iload_n 1, 1) := by decide +kernel
theorem dX2_history_2 : decode cX2_history 2 = .ok (.invokevirtual 62, 3) := by decide +kernel
theorem dX2_history_5 : decode cX2_history 5 = .ok (.astore 4, 2) := by decide +kernel
theorem dX2_history_7 : decode cX2_history 7 = .ok (.aload 4, 2) := by decide +kernel
theorem dX2_history_9 : decode cX2_history 9 = .ok (.ifnull 16, 3) := by decide +kernel
theorem dX2_history_12 : decode cX2_history 12 = .ok (.iload_n 2, 1) := by decide +kernel
theorem dX2_history_13 : decode cX2_history 13 = .ok (.ifCond .lt 12, 3) := by decide +kernel
theorem dX2_history_16 : decode cX2_history 16 = .ok (.iload_n 3, 1) := by decide +kernel
theorem dX2_history_17 : decode cX2_history 17 = .ok (.ifCond .lt 8, 3) := by decide +kernel
theorem dX2_history_20 : decode cX2_history 20 = .ok (.iload_n 3, 1) := by decide +kernel
theorem dX2_history_21 : decode cX2_history 21 = .ok (.iconst 1, 1) := by decide +kernel
theorem dX2_history_22 : decode cX2_history 22 = .ok (.if_icmp .le 5, 3) := by decide +kernel
theorem dX2_history_25 : decode cX2_history 25 = .ok (.iconst (-1), 1) := by decide +kernel
theorem dX2_history_26 : decode cX2_history 26 = .ok (.ireturn, 1) := by decide +kernel
theorem dX2_history_27 : decode cX2_history 27 = .ok (.aload 4, 2) := by decide +kernel
theorem dX2_history_29 : decode cX2_history 29 = .ok (.getfield 109, 3) := by decide +kernel
theorem dX2_history_32 : decode cX2_history 32 = .ok (.astore 5, 2) := by decide +kernel
theorem dX2_history_34 : decode cX2_history 34 = .ok (.iconst 0, 1) := by decide +kernel
theorem dX2_history_35 : decode cX2_history 35 = .ok (.istore 6, 2) := by decide +kernel
theorem dX2_history_37 : decode cX2_history 37 = .ok (.iload 6, 2) := by decide +kernel
theorem dX2_history_39 : decode cX2_history 39 = .ok (.iload_n 2, 1) := by decide +kernel
theorem dX2_history_40 : decode cX2_history 40 = .ok (.if_icmp .ge 21, 3) := by decide +kernel
theorem dX2_history_43 : decode cX2_history 43 = .ok (.aload 5, 2) := by decide +kernel
theorem dX2_history_45 : decode cX2_history 45 = .ok (.ifnull 16, 3) := by decide +kernel
theorem dX2_history_48 : decode cX2_history 48 = .ok (.aload 5, 2) := by decide +kernel
theorem dX2_history_50 : decode cX2_history 50 = .ok (.getfield 113, 3) := by decide +kernel
theorem dX2_history_53 : decode cX2_history 53 = .ok (.astore 5, 2) := by decide +kernel
theorem dX2_history_55 : decode cX2_history 55 = .ok (.iinc 6 1, 3) := by decide +kernel
theorem dX2_history_58 : decode cX2_history 58 = .ok (.goto (-21), 3) := by decide +kernel
theorem dX2_history_61 : decode cX2_history 61 = .ok (.aload 5, 2) := by decide +kernel
theorem dX2_history_63 : decode cX2_history 63 = .ok (.ifnonnull 5, 3) := by decide +kernel
theorem dX2_history_66 : decode cX2_history 66 = .ok (.iconst (-1), 1) := by decide +kernel
theorem dX2_history_67 : decode cX2_history 67 = .ok (.ireturn, 1) := by decide +kernel
theorem dX2_history_68 : decode cX2_history 68 = .ok (.iload_n 3, 1) := by decide +kernel
theorem dX2_history_69 : decode cX2_history 69 = .ok (.ifCond .ne 9, 3) := by decide +kernel
theorem dX2_history_72 : decode cX2_history 72 = .ok (.aload 5, 2) := by decide +kernel
theorem dX2_history_74 : decode cX2_history 74 = .ok (.getfield 118, 3) := by decide +kernel
theorem dX2_history_77 : decode cX2_history 77 = .ok (.ireturn, 1) := by decide +kernel
theorem dX2_history_78 : decode cX2_history 78 = .ok (.aload 5, 2) := by decide +kernel
theorem dX2_history_80 : decode cX2_history 80 = .ok (.getfield 119, 3) := by decide +kernel
theorem dX2_history_83 : decode cX2_history 83 = .ok (.ifCond .eq 7, 3) := by decide +kernel
theorem dX2_history_86 : decode cX2_history 86 = .ok (.iconst 1, 1) := by decide +kernel
theorem dX2_history_87 : decode cX2_history 87 = .ok (.goto 4, 3) := by decide +kernel
theorem dX2_history_90 : decode cX2_history 90 = .ok (.iconst 0, 1) := by decide +kernel
theorem dX2_history_91 : decode cX2_history 91 = .ok (.ireturn, 1) := by decide +kernel
theorem dX2_count_0 : decode cX2_count 0 = .ok (.iconst 0, 1) := by decide +kernel
theorem dX2_count_1 : decode cX2_count 1 = .ok (.istore_n 3, 1) := by decide +kernel
theorem dX2_count_2 : decode cX2_count 2 = .ok (.iconst 1, 1) := by decide +kernel
theorem dX2_count_3 : decode cX2_count 3 = .ok (.istore 4, 2) := by decide +kernel
theorem dX2_count_5 : decode cX2_count 5 = .ok (.iload 4, 2) := by decide +kernel
theorem dX2_count_7 : decode cX2_count 7 = .ok (.aload_n 0, 1) := by decide +kernel
theorem dX2_count_8 : decode cX2_count 8 = .ok (.getfield 15, 3) := by decide +kernel
theorem dX2_count_11 : decode cX2_count 11 = .ok (.if_icmp .gt 48, 3) := by decide +kernel
theorem dX2_count_14 : decode cX2_count 14 = .ok (.aload_n 0, 1) := by decide +kernel
theorem dX2_count_15 : decode cX2_count 15 = .ok (.iload 4, 2) := by decide +kernel
theorem dX2_count_17 : decode cX2_count 17 = .ok (.invokevirtual 62, 3) := by decide +kernel
theorem dX2_count_20 : decode cX2_count 20 = .ok (.astore 5, 2) := by decide +kernel
theorem dX2_count_22 : decode cX2_count 22 = .ok (.aload 5, 2) := by decide +kernel
theorem dX2_count_24 : decode cX2_count 24 = .ok (.ifnull 29, 3) := by decide +kernel
theorem dX2_count_27 : decode cX2_count 27 = .ok (.aload 5, 2) := by decide +kernel
theorem dX2_count_29 : decode cX2_count 29 = .ok (.getfield 75, 3) := by decide +kernel
theorem dX2_count_32 : decode cX2_count 32 = .ok (.iload_n 1, 1) := by decide +kernel
theorem dX2_count_33 : decode cX2_count 33 = .ok (.if_icmp .ne 20, 3) := by decide +kernel
theorem dX2_count_36 : decode cX2_count 36 = .ok (.iload_n 2, 1) := by decide +kernel
theorem dX2_count_37 : decode cX2_count 37 = .ok (.iconst (-1), 1) := by decide +kernel
theorem dX2_count_38 : decode cX2_count 38 = .ok (.if_icmp .eq 12, 3) := by decide +kernel
theorem dX2_count_41 : decode cX2_count 41 = .ok (.aload 5, 2) := by decide +kernel
theorem dX2_count_43 : decode cX2_count 43 = .ok (.getfield 97, 3) := by decide +kernel
theorem dX2_count_46 : decode cX2_count 46 = .ok (.iload_n 2, 1) := by decide +kernel
theorem dX2_count_47 : decode cX2_count 47 = .ok (.if_icmp .ne 6, 3) := by decide +kernel
theorem dX2_count_50 : decode cX2_count 50 = .ok (.iinc 3 1, 3) := by decide +kernel
theorem dX2_count_53 : decode cX2_count 53 = .ok (.iinc 4 1, 3) := by decide +kernel
theorem dX2_count_56 : decode cX2_count 56 = .ok (.goto (-51), 3) := by decide +kernel
theorem dX2_count_59 : decode cX2_count 59 = .ok (.iload_n 3, 1) := by decide +kernel
theorem dX2_count_60 : decode cX2_count 60 = .ok (.ireturn, 1) := by decide +kernel
end
section
theorem dX3_init_0 : decode cX3_init 0 = .ok (.aload_n 0, 1) := by decide +kernel
theorem dX3_init_1 : decode cX3_init 1 = .ok (.invokespecial 1, 3) := by decide +kernel
theorem dX3_init_4 : decode cX3_init 4 = .ok (.aload_n 0, 1) := by decide +kernel
theorem dX3_init_5 : decode cX3_init 5 = .ok (.bipush 81, 2) := by decide +kernel
theorem dX3_init_7 : decode cX3_init 7 = .ok (.newarray .int, 2) := by decide +kernel
theorem dX3_init_9 : decode cX3_init 9 = .ok (.putfield 7, 3) := by decide +kernel
theorem dX3_init_12 : decode cX3_init 12 = .ok (.aload_n 0, 1) := by decide +kernel
theorem dX3_init_13 : decode cX3_init 13 = .ok (.bipush 81, 2) := by decide +kernel
theorem dX3_init_15 : decode cX3_init 15 = .ok (.newarray .long, 2) := by decide +kernel
theorem dX3_init_17 : decode cX3_init 17 = .ok (.putfield 13, 3) := by decide +kernel
theorem dX3_init_20 : decode cX3_init 20 = .ok (.aload_n 0, 1) := by decide +kernel
theorem dX3_init_21 : decode cX3_init 21 = .ok (.bipush 81, 2) := by decide +kernel
theorem dX3_init_23 : decode cX3_init 23 = .ok (.newarray .int, 2) := by decide +kernel
theorem dX3_init_25 : decode cX3_init 25 = .ok (.putfield 17, 3) := by decide +kernel
theorem dX3_init_28 : decode cX3_init 28 = .ok (.aload_n 0, 1) := by decide +kernel
theorem dX3_init_29 : decode cX3_init 29 = .ok (.bipush 81, 2) := by decide +kernel
theorem dX3_init_31 : decode cX3_init 31 = .ok (.newarray .int, 2) := by decide +kernel
theorem dX3_init_33 : decode cX3_init 33 = .ok (.putfield 20, 3) := by decide +kernel
theorem dX3_init_36 : decode cX3_init 36 = .ok (.aload_n 0, 1) := by decide +kernel
theorem dX3_init_37 : decode cX3_init 37 = .ok (.bipush 81, 2) := by decide +kernel
theorem dX3_init_39 : decode cX3_init 39 = .ok (.newarray .int, 2) := by decide +kernel
theorem dX3_init_41 : decode cX3_init 41 = .ok (.putfield 23, 3) := by decide +kernel
theorem dX3_init_44 : decode cX3_init 44 = .ok (.aload_n 0, 1) := by decide +kernel
theorem dX3_init_45 : decode cX3_init 45 = .ok (.bipush 81, 2) := by decide +kernel
theorem dX3_init_47 : decode cX3_init 47 = .ok (.newarray .int, 2) := by decide +kernel
theorem dX3_init_49 : decode cX3_init 49 = .ok (.putfield 26, 3) := by decide +kernel
theorem dX3_init_52 : decode cX3_init 52 = .ok (.aload_n 0, 1) := by decide +kernel
theorem dX3_init_53 : decode cX3_init 53 = .ok (.bipush 81, 2) := by decide +kernel
theorem dX3_init_55 : decode cX3_init 55 = .ok (.newarray .boolean, 2) := by decide +kernel
theorem dX3_init_57 : decode cX3_init 57 = .ok (.putfield 29, 3) := by decide +kernel
theorem dX3_init_60 : decode cX3_init 60 = .ok (.aload_n 0, 1) := by decide +kernel
theorem dX3_init_61 : decode cX3_init 61 = .ok (.bipush 81, 2) := by decide +kernel
theorem dX3_init_63 : decode cX3_init 63 = .ok (.newarray .int, 2) := by decide +kernel
theorem dX3_init_65 : decode cX3_init 65 = .ok (.putfield 33, 3) := by decide +kernel
theorem dX3_init_68 : decode cX3_init 68 = .ok (.aload_n 0, 1) := by decide +kernel
theorem dX3_init_69 : decode cX3_init 69 = .ok (.bipush 81, 2) := by decide +kernel
theorem dX3_init_71 : decode cX3_init 71 = .ok (.newarray .int, 2) := by decide +kernel
theorem dX3_init_73 : decode cX3_init 73 = .ok (.putfield 36, 3) := by decide +kernel
theorem dX3_init_76 : decode cX3_init 76 = .ok (.aload_n 0, 1) := by decide +kernel
theorem dX3_init_77 : decode cX3_init 77 = .ok (.bipush 60, 2) := by decide +kernel
theorem dX3_init_79 : decode cX3_init 79 = .ok (.newarray .boolean, 2) := by decide +kernel
theorem dX3_init_81 : decode cX3_init 81 = .ok (.putfield 39, 3) := by decide +kernel
theorem dX3_init_84 : decode cX3_init 84 = .ok (.aload_n 0, 1) := by decide +kernel
theorem dX3_init_85 : decode cX3_init 85 = .ok (.bipush 6, 2) := by decide +kernel
theorem dX3_init_87 : decode cX3_init 87 = .ok (.newarray .int, 2) := by decide +kernel
theorem dX3_init_89 : decode cX3_init 89 = .ok (.putfield 42, 3) := by decide +kernel
theorem dX3_init_92 : decode cX3_init 92 = .ok (.aload_n 0, 1) := by decide +kernel
theorem dX3_init_93 : decode cX3_init 93 = .ok (.sipush 5000, 3) := by decide +kernel
theorem dX3_init_96 : decode cX3_init 96 = .ok (.newarray .int, 2) := by decide +kernel
theorem dX3_init_98 : decode cX3_init 98 = .ok (.putfield 45, 3) := by decide +kernel
theorem dX3_init_101 : decode cX3_init 101 = .ok (.aload_n 0, 1) := by decide +kernel
theorem dX3_init_102 : decode cX3_init 102 = .ok (.sipush 5000, 3) := by decide +kernel
theorem dX3_init_105 : decode cX3_init 105 = .ok (.newarray .int, 2) := by decide +kernel
theorem dX3_init_107 : decode cX3_init 107 = .ok (.putfield 48, 3) := by decide +kernel
theorem dX3_init_110 : decode cX3_init 110 = .ok (.aload_n 0, 1) := by decide +kernel
theorem dX3_init_111 : decode cX3_init 111 = .ok (.sipush 5000, 3) := by decide +kernel
theorem dX3_init_114 : decode cX3_init 114 = .ok (.newarray .boolean, 2) := by decide +kernel
theorem dX3_init_116 : decode cX3_init 116 = .ok (.putfield 51, 3) := by decide +kernel
theorem dX3_init_119 : decode cX3_init 119 = .ok (.aload_n 0, 1) := by decide +kernel
theorem dX3_init_120 : decode cX3_init 120 = .ok (.sipush 5000, 3) := by decide +kernel
theorem dX3_init_123 : decode cX3_init 123 = .ok (.newarray .long, 2) := by decide +kernel
theorem dX3_init_125 : decode cX3_init 125 = .ok (.putfield 54, 3) := by decide +kernel
theorem dX3_init_128 : decode cX3_init 128 = .ok (.return_, 1) := by decide +kernel
theorem dX3_check_0 : decode cX3_check 0 = .ok (.aload_n 0, 1) := by decide +kernel
theorem dX3_check_1 : decode cX3_check 1 = .ok (.iconst 0, 1) := by decide +kernel
theorem dX3_check_2 : decode cX3_check 2 = .ok (.putfield 57, 3) := by decide +kernel
theorem dX3_check_5 : decode cX3_check 5 = .ok (.iload_n 3, 1) := by decide +kernel
theorem dX3_check_6 : decode cX3_check 6 = .ok (.iconst 1, 1) := by decide +kernel
theorem dX3_check_7 : decode cX3_check 7 = .ok (.if_icmp .lt 24, 3) := by decide +kernel
theorem dX3_check_10 : decode cX3_check 10 = .ok (.iload_n 3, 1) := by decide +kernel
theorem dX3_check_11 : decode cX3_check 11 = .ok (.bipush 12, 2) := by decide +kernel
theorem dX3_check_13 : decode cX3_check 13 = .ok (.if_icmp .gt 18, 3) := by decide +kernel
theorem dX3_check_16 : decode cX3_check 16 = .ok (.lload_n 1, 1) := by decide +kernel
theorem dX3_check_17 : decode cX3_check 17 = .ok (.lconst 0, 1) := by decide +kernel
theorem dX3_check_18 : decode cX3_check 18 = .ok (.lcmp, 1) := by decide +kernel
theorem dX3_check_19 : decode cX3_check 19 = .ok (.ifCond .lt 12, 3) := by decide +kernel
theorem dX3_check_22 : decode cX3_check 22 = .ok (.lload_n 1, 1) := by decide +kernel
theorem dX3_check_23 : decode cX3_check 23 = .ok (.iload_n 3, 1) := by decide +kernel
theorem dX3_check_24 : decode cX3_check 24 = .ok (.invokestatic 63, 3) := by decide +kernel
theorem dX3_check_27 : decode cX3_check 27 = .ok (.lcmp, 1) := by decide +kernel
theorem dX3_check_28 : decode cX3_check 28 = .ok (.ifCond .lt 7, 3) := by decide +kernel
theorem dX3_check_31 : decode cX3_check 31 = .ok (.iconst (-1), 1) := by decide +kernel
theorem dX3_check_32 : decode cX3_check 32 = .ok (.goto 7, 3) := by decide +kernel
theorem dX3_check_35 : decode cX3_check 35 = .ok (.lload_n 1, 1) := by decide +kernel
theorem dX3_check_36 : decode cX3_check 36 = .ok (.invokestatic 67, 3) := by decide +kernel
theorem dX3_check_39 : decode cX3_check 39 = .ok (.ireturn, 1) := by decide +kernel
theorem dX3_ten_0 : decode cX3_ten 0 = .ok (.lconst 1, 1) := by decide +kernel
theorem dX3_ten_1 : decode cX3_ten 1 = .ok (.lstore_n 1, 1) := by decide +kernel
theorem dX3_ten_2 : decode cX3_ten 2 = .ok (.iconst 0, 1) := by decide +kernel
theorem dX3_ten_3 : decode cX3_ten 3 = .ok (.istore_n 3, 1) := by decide +kernel
theorem dX3_ten_4 : decode cX3_ten 4 = .ok (.iload_n 3, 1) := by decide +kernel
theorem dX3_ten_5 : decode cX3_ten 5 = .ok (.iload_n 0, 1) := by decide +kernel
theorem dX3_ten_6 : decode cX3_ten 6 = .ok (.if_icmp .ge 15, 3) := by decide +kernel
theorem dX3_ten_9 : decode cX3_ten 9 = .ok (.ldc2_w 61, 3) := by decide +kernel
theorem dX3_ten_12 : decode cX3_ten 12 = .ok (.lload_n 1, 1) := by decide +kernel
theorem dX3_ten_13 : decode cX3_ten 13 = .ok (.lmul, 1) := by decide +kernel
theorem dX3_ten_14 : decode cX3_ten 14 = .ok (.lstore_n 1, 1) := by decide +kernel
theorem dX3_ten_15 : decode cX3_ten 15 = .ok (.iinc 3 1, 3) := by decide +kernel
theorem dX3_ten_18 : decode cX3_ten 18 = .ok (.goto (-14), 3) := by decide +kernel
theorem dX3_ten_21 : decode cX3_ten 21 = .ok (.lload_n 1, 1) := by decide +kernel
theorem dX3_ten_22 : decode cX3_ten 22 = .ok (.lreturn, 1) := by decide +kernel
theorem dX3_sign_0 : decode cX3_sign 0 = .ok (.iconst 0, 1) := by decide +kernel
theorem dX3_sign_1 : decode cX3_sign 1 = .ok (.istore_n 2, 1) := by decide +kernel
theorem dX3_sign_2 : decode cX3_sign 2 = .ok (.iconst 1, 1) := by decide +kernel
theorem dX3_sign_3 : decode cX3_sign 3 = .ok (.istore_n 3, 1) := by decide +kernel
theorem dX3_sign_4 : decode cX3_sign 4 = .ok (.lload_n 0, 1) := by decide +kernel
theorem dX3_sign_5 : decode cX3_sign 5 = .ok (.lstore 4, 2) := by decide +kernel
theorem dX3_sign_7 : decode cX3_sign 7 = .ok (.lload 4, 2) := by decide +kernel
theorem dX3_sign_9 : decode cX3_sign 9 = .ok (.lconst 0, 1) := by decide +kernel
theorem dX3_sign_10 : decode cX3_sign 10 = .ok (.lcmp, 1) := by decide +kernel
theorem dX3_sign_11 : decode cX3_sign 11 = .ok (.ifCond .le 68, 3) := by decide +kernel
theorem dX3_sign_14 : decode cX3_sign 14 = .ok (.lload 4, 2) := by decide +kernel
theorem dX3_sign_16 : decode cX3_sign 16 = .ok (.ldc2_w 61, 3) := by decide +kernel
theorem dX3_sign_19 : decode cX3_sign 19 = .ok (.lrem, 1) := by decide +kernel
theorem dX3_sign_20 : decode cX3_sign 20 = .ok (.l2i, 1) := by decide +kernel
theorem dX3_sign_21 : decode cX3_sign 21 = .ok (.istore 6, 2) := by decide +kernel
theorem dX3_sign_23 : decode cX3_sign 23 = .ok (.iload_n 3, 1) := by decide +kernel
theorem dX3_sign_24 : decode cX3_sign 24 = .ok (.ifCond .eq 10, 3) := by decide +kernel
theorem dX3_sign_27 : decode cX3_sign 27 = .ok (.iconst 2, 1) := by decide +kernel
theorem dX3_sign_28 : decode cX3_sign 28 = .ok (.iload 6, 2) := by decide +kernel
theorem dX3_sign_30 : decode cX3_sign 30 = .ok (.imul, 1) := by decide +kernel
theorem dX3_sign_31 : decode cX3_sign 31 = .ok (.goto 5, 3) := by decide +kernel
theorem dX3_sign_34 : decode cX3_sign 34 = .ok (.iload 6, 2) := by decide +kernel
theorem dX3_sign_36 : decode cX3_sign 36 = .ok (.istore 7, 2) := by decide +kernel
theorem dX3_sign_38 : decode cX3_sign 38 = .ok (.iload_n 2, 1) := by decide +kernel
theorem dX3_sign_39 : decode cX3_sign 39 = .ok (.iload 7, 2) := by decide +kernel
theorem dX3_sign_41 : decode cX3_sign 41 = .ok (.bipush 9, 2) := by decide +kernel
theorem dX3_sign_43 : decode cX3_sign 43 = .ok (.if_icmp .le 11, 3) := by decide +kernel
theorem dX3_sign_46 : decode cX3_sign 46 = .ok (.iload 7, 2) := by decide +kernel
theorem dX3_sign_48 : decode cX3_sign 48 = .ok (.bipush 9, 2) := by decide +kernel
theorem dX3_sign_50 : decode cX3_sign 50 = .ok (.isub, 1) := by decide +kernel
theorem dX3_sign_51 : decode cX3_sign 51 = .ok (.goto 5, 3) := by decide +kernel
theorem dX3_sign_54 : decode cX3_sign 54 = .ok (.iload 7, 2) := by decide +kernel
theorem dX3_sign_56 : decode cX3_sign 56 = .ok (.iadd, 1) := by decide +kernel
theorem dX3_sign_57 : decode cX3_sign 57 = .ok (.istore_n 2, 1) := by decide +kernel
theorem dX3_sign_58 : decode cX3_sign 58 = .ok (.iload_n 3, 1) := by decide +kernel
theorem dX3_sign_59 : decode cX3_sign 59 = .ok (.ifCond .ne 7, 3) := by decide +kernel
theorem dX3_sign_62 : decode cX3_sign 62 = .ok (.iconst 1, 1) := by decide +kernel
theorem dX3_sign_63 : decode cX3_sign 63 = .ok (.goto 4, 3) := by decide +kernel
theorem dX3_sign_66 : decode cX3_sign 66 = .ok (.iconst 0, 1) := by decide +kernel
theorem dX3_sign_67 : decode cX3_sign 67 = .ok (.istore_n 3, 1) := by decide +kernel
theorem dX3_sign_68 : decode cX3_sign 68 = .ok (.lload 4, 2) := by decide +kernel
theorem dX3_sign_70 : decode cX3_sign 70 = .ok (.ldc2_w 61, 3) := by decide +kernel
theorem dX3_sign_73 : decode cX3_sign 73 = .ok (.ldiv, 1) := by decide +kernel
theorem dX3_sign_74 : decode cX3_sign 74 = .ok (.lstore 4, 2) := by decide +kernel
theorem dX3_sign_76 : decode cX3_sign 76 = .ok (.goto (-69), 3) := by decide +kernel
theorem dX3_sign_79 : decode cX3_sign 79 = .ok (.bipush 10, 2) := by decide +kernel
theorem dX3_sign_81 : decode cX3_sign 81 = .ok (.iload_n 2, 1) := by decide +kernel
theorem dX3_sign_82 : decode cX3_sign 82 = .ok (.bipush 10, 2) := by decide +kernel
theorem dX3_sign_84 : decode cX3_sign 84 = .ok (.irem, 1) := by decide +kernel
theorem dX3_sign_85 : decode cX3_sign 85 = .ok (.isub, 1) := by decide +kernel
theorem dX3_sign_86 : decode cX3_sign 86 = .ok (.bipush 10, 2) := by decide +kernel
theorem dX3_sign_88 : decode cX3_sign 88 = .ok (.irem, 1) := by decide +kernel
theorem dX3_sign_89 : decode cX3_sign 89 = .ok (.ireturn, 1) := by decide +kernel
theorem dX3_copy_0 : decode cX3_copy 0 = .ok (.aload_n 0, 1) := by decide +kernel
theorem dX3_copy_1 : decode cX3_copy 1 = .ok (.iconst 0, 1) := by decide +kernel
theorem dX3_copy_2 : decode cX3_copy 2 = .ok (.putfield 57, 3) := by decide +kernel
theorem dX3_copy_5 : decode cX3_copy 5 = .ok (.iload_n 1, 1) := by decide +kernel
theorem dX3_copy_6 : decode cX3_copy 6 = .ok (.ifCond .lt 69, 3) := by decide +kernel
theorem dX3_copy_9 : decode cX3_copy 9 = .ok (.iload_n 1, 1) := by decide +kernel
theorem dX3_copy_10 : decode cX3_copy 10 = .ok (.iconst 5, 1) := by decide +kernel
theorem dX3_copy_11 : decode cX3_copy 11 = .ok (.if_icmp .gt 64, 3) := by decide +kernel
theorem dX3_copy_14 : decode cX3_copy 14 = .ok (.iload 5, 2) := by decide +kernel
theorem dX3_copy_16 : decode cX3_copy 16 = .ok (.ifCond .lt 59, 3) := by decide +kernel
theorem dX3_copy_19 : decode cX3_copy 19 = .ok (.iload 5, 2) := by decide +kernel
theorem dX3_copy_21 : decode cX3_copy 21 = .ok (.bipush 9, 2) := by decide +kernel
theorem dX3_copy_23 : decode cX3_copy 23 = .ok (.if_icmp .gt 52, 3) := by decide +kernel
theorem dX3_copy_26 : decode cX3_copy 26 = .ok (.iload 4, 2) := by decide +kernel
theorem dX3_copy_28 : decode cX3_copy 28 = .ok (.iconst 1, 1) := by decide +kernel
theorem dX3_copy_29 : decode cX3_copy 29 = .ok (.if_icmp .lt 46, 3) := by decide +kernel
theorem dX3_copy_32 : decode cX3_copy 32 = .ok (.iload 4, 2) := by decide +kernel
theorem dX3_copy_34 : decode cX3_copy 34 = .ok (.bipush 12, 2) := by decide +kernel
theorem dX3_copy_36 : decode cX3_copy 36 = .ok (.if_icmp .gt 39, 3) := by decide +kernel
theorem dX3_copy_39 : decode cX3_copy 39 = .ok (.lload_n 2, 1) := by decide +kernel
theorem dX3_copy_40 : decode cX3_copy 40 = .ok (.lconst 0, 1) := by decide +kernel
theorem dX3_copy_41 : decode cX3_copy 41 = .ok (.lcmp, 1) := by decide +kernel
theorem dX3_copy_42 : decode cX3_copy 42 = .ok (.ifCond .lt 33, 3) := by decide +kernel
theorem dX3_copy_45 : decode cX3_copy 45 = .ok (.lload_n 2, 1) := by decide +kernel
theorem dX3_copy_46 : decode cX3_copy 46 = .ok (.iload 4, 2) := by decide +kernel
theorem dX3_copy_48 : decode cX3_copy 48 = .ok (.iconst 1, 1) := by decide +kernel
theorem dX3_copy_49 : decode cX3_copy 49 = .ok (.iadd, 1) := by decide +kernel
theorem dX3_copy_50 : decode cX3_copy 50 = .ok (.invokestatic 63, 3) := by decide +kernel
theorem dX3_copy_53 : decode cX3_copy 53 = .ok (.lcmp, 1) := by decide +kernel
theorem dX3_copy_54 : decode cX3_copy 54 = .ok (.ifCond .ge 21, 3) := by decide +kernel
theorem dX3_copy_57 : decode cX3_copy 57 = .ok (.lload_n 2, 1) := by decide +kernel
theorem dX3_copy_58 : decode cX3_copy 58 = .ok (.ldc2_w 61, 3) := by decide +kernel
theorem dX3_copy_61 : decode cX3_copy 61 = .ok (.ldiv, 1) := by decide +kernel
theorem dX3_copy_62 : decode cX3_copy 62 = .ok (.invokestatic 67, 3) := by decide +kernel
theorem dX3_copy_65 : decode cX3_copy 65 = .ok (.i2l, 1) := by decide +kernel
theorem dX3_copy_66 : decode cX3_copy 66 = .ok (.lload_n 2, 1) := by decide +kernel
theorem dX3_copy_67 : decode cX3_copy 67 = .ok (.ldc2_w 61, 3) := by decide +kernel
theorem dX3_copy_70 : decode cX3_copy 70 = .ok (.lrem, 1) := by decide +kernel
theorem dX3_copy_71 : decode cX3_copy 71 = .ok (.lcmp, 1) := by decide +kernel
theorem dX3_copy_72 : decode cX3_copy 72 = .ok (.ifCond .eq 5, 3) := by decide +kernel
theorem dX3_copy_75 : decode cX3_copy 75 = .ok (.iconst (-1), 1) := by decide +kernel
theorem dX3_copy_76 : decode cX3_copy 76 = .ok (.ireturn, 1) := by decide +kernel
theorem dX3_copy_77 : decode cX3_copy 77 = .ok (.iconst 1, 1) := by decide +kernel
theorem dX3_copy_78 : decode cX3_copy 78 = .ok (.istore 6, 2) := by decide +kernel
theorem dX3_copy_80 : decode cX3_copy 80 = .ok (.iload 6, 2) := by decide +kernel
theorem dX3_copy_82 : decode cX3_copy 82 = .ok (.aload_n 0, 1) := by decide +kernel
theorem dX3_copy_83 : decode cX3_copy 83 = .ok (.getfield 71, 3) := by decide +kernel
theorem dX3_copy_86 : decode cX3_copy 86 = .ok (.if_icmp .gt 35, 3) := by decide +kernel
theorem dX3_copy_89 : decode cX3_copy 89 = .ok (.aload_n 0, 1) := by decide +kernel
theorem dX3_copy_90 : decode cX3_copy 90 = .ok (.getfield 13, 3) := by decide +kernel
theorem dX3_copy_93 : decode cX3_copy 93 = .ok (.iload 6, 2) := by decide +kernel
theorem dX3_copy_95 : decode cX3_copy 95 = .ok (.laload, 1) := by decide +kernel
theorem dX3_copy_96 : decode cX3_copy 96 = .ok (.lload_n 2, 1) := by decide +kernel
theorem dX3_copy_97 : decode cX3_copy 97 = .ok (.lcmp, 1) := by decide +kernel
theorem dX3_copy_98 : decode cX3_copy 98 = .ok (.ifCond .ne 17, 3) := by decide +kernel
theorem dX3_copy_101 : decode cX3_copy 101 = .ok (.aload_n 0, 1) := by decide +kernel
theorem dX3_copy_102 : decode cX3_copy 102 = .ok (.getfield 17, 3) := by decide +kernel
theorem dX3_copy_105 : decode cX3_copy 105 = .ok (.iload 6, 2) := by decide +kernel
theorem dX3_copy_107 : decode cX3_copy 107 = .ok (.iaload, 1) := by decide +kernel
theorem dX3_copy_108 : decode cX3_copy 108 = .ok (.iload 4, 2) := by decide +kernel
theorem dX3_copy_110 : decode cX3_copy 110 = .ok (.if_icmp .ne 5, 3) := by decide +kernel
theorem dX3_copy_113 : decode cX3_copy 113 = .ok (.iconst (-1), 1) := by decide +kernel
theorem dX3_copy_114 : decode cX3_copy 114 = .ok (.ireturn, 1) := by decide +kernel
theorem dX3_copy_115 : decode cX3_copy 115 = .ok (.iinc 6 1, 3) := by decide +kernel
theorem dX3_copy_118 : decode cX3_copy 118 = .ok (.goto (-38), 3) := by decide +kernel
theorem dX3_copy_121 : decode cX3_copy 121 = .ok (.aload_n 0, 1) := by decide +kernel
theorem dX3_copy_122 : decode cX3_copy 122 = .ok (.getfield 71, 3) := by decide +kernel
theorem dX3_copy_125 : decode cX3_copy 125 = .ok (.bipush 80, 2) := by decide +kernel
theorem dX3_copy_127 : decode cX3_copy 127 = .ok (.if_icmp .ne 5, 3) := by decide +kernel
theorem dX3_copy_130 : decode cX3_copy 130 = .ok (.iconst (-1), 1) := by decide +kernel
theorem dX3_copy_131 : decode cX3_copy 131 = .ok (.ireturn, 1) := by decide +kernel
theorem dX3_copy_132 : decode cX3_copy 132 = .ok (.aload_n 0, 1) := by decide +kernel
theorem dX3_copy_133 : decode cX3_copy 133 = .ok (.getfield 39, 3) := by decide +kernel
theorem dX3_copy_136 : decode cX3_copy 136 = .ok (.bipush 6, 2) := by decide +kernel
theorem dX3_copy_138 : decode cX3_copy 138 = .ok (.iload 5, 2) := by decide +kernel
theorem dX3_copy_140 : decode cX3_copy 140 = .ok (.imul, 1) := by decide +kernel
theorem dX3_copy_141 : decode cX3_copy 141 = .ok (.iload_n 1, 1) := by decide +kernel
theorem dX3_copy_142 : decode cX3_copy 142 = .ok (.iadd, 1) := by decide +kernel
theorem dX3_copy_143 : decode cX3_copy 143 = .ok (.baload, 1) := by decide +kernel
theorem dX3_copy_144 : decode cX3_copy 144 = .ok (.ifCond .eq 6, 3) := by decide +kernel
theorem dX3_copy_147 : decode cX3_copy 147 = .ok (.bipush (-3), 2) := by decide +kernel
theorem dX3_copy_149 : decode cX3_copy 149 = .ok (.ireturn, 1) := by decide +kernel
theorem dX3_copy_150 : decode cX3_copy 150 = .ok (.aload_n 0, 1) := by decide +kernel
theorem dX3_copy_151 : decode cX3_copy 151 = .ok (.dup, 1) := by decide +kernel
theorem dX3_copy_152 : decode cX3_copy 152 = .ok (.getfield 71, 3) := by decide +kernel
theorem dX3_copy_155 : decode cX3_copy 155 = .ok (.iconst 1, 1) := by decide +kernel
theorem dX3_copy_156 : decode cX3_copy 156 = .ok (.iadd, 1) := by decide +kernel
theorem dX3_copy_157 : decode cX3_copy 157 = .ok (.putfield 71, 3) := by decide +kernel
theorem dX3_copy_160 : decode cX3_copy 160 = .ok (.aload_n 0, 1) := by decide +kernel
theorem dX3_copy_161 : decode cX3_copy 161 = .ok (.getfield 7, 3) := by decide +kernel
theorem dX3_copy_164 : decode cX3_copy 164 = .ok (.aload_n 0, 1) := by decide +kernel
theorem dX3_copy_165 : decode cX3_copy 165 = .ok (.getfield 71, 3) := by decide +kernel
theorem dX3_copy_168 : decode cX3_copy 168 = .ok (.iload_n 1, 1) := by decide +kernel
theorem dX3_copy_169 : decode cX3_copy 169 = .ok (.iastore, 1) := by decide +kernel
theorem dX3_copy_170 : decode cX3_copy 170 = .ok (.aload_n 0, 1) := by decide +kernel
theorem dX3_copy_171 : decode cX3_copy 171 = .ok (.getfield 13, 3) := by decide +kernel
theorem dX3_copy_174 : decode cX3_copy 174 = .ok (.aload_n 0, 1) := by decide +kernel
theorem dX3_copy_175 : decode cX3_copy 175 = .ok (.getfield 71, 3) := by decide +kernel
theorem dX3_copy_178 : decode cX3_copy 178 = .ok (.lload_n 2, 1) := by decide +kernel
theorem dX3_copy_179 : decode cX3_copy 179 = .ok (.lastore, 1) := by decide +kernel
theorem dX3_copy_180 : decode cX3_copy 180 = .ok (.aload_n 0, 1) := by decide +kernel
theorem dX3_copy_181 : decode cX3_copy 181 = .ok (.getfield 17, 3) := by decide +kernel
theorem dX3_copy_184 : decode cX3_copy 184 = .ok (.aload_n 0, 1) := by decide +kernel
theorem dX3_copy_185 : decode cX3_copy 185 = .ok (.getfield 71, 3) := by decide +kernel
theorem dX3_copy_188 : decode cX3_copy 188 = .ok (.iload 4, 2) := by decide +kernel
theorem dX3_copy_190 : decode cX3_copy 190 = .ok (.iastore, 1) := by decide +kernel
theorem dX3_copy_191 : decode cX3_copy 191 = .ok (.aload_n 0, 1) := by decide +kernel
theorem dX3_copy_192 : decode cX3_copy 192 = .ok (.getfield 20, 3) := by decide +kernel
theorem dX3_copy_195 : decode cX3_copy 195 = .ok (.aload_n 0, 1) := by decide +kernel
theorem dX3_copy_196 : decode cX3_copy 196 = .ok (.getfield 71, 3) := by decide +kernel
theorem dX3_copy_199 : decode cX3_copy 199 = .ok (.iload 5, 2) := by decide +kernel
theorem dX3_copy_201 : decode cX3_copy 201 = .ok (.iastore, 1) := by decide +kernel
theorem dX3_copy_202 : decode cX3_copy 202 = .ok (.aload_n 0, 1) := by decide +kernel
theorem dX3_copy_203 : decode cX3_copy 203 = .ok (.getfield 23, 3) := by decide +kernel
theorem dX3_copy_206 : decode cX3_copy 206 = .ok (.aload_n 0, 1) := by decide +kernel
theorem dX3_copy_207 : decode cX3_copy 207 = .ok (.getfield 71, 3) := by decide +kernel
theorem dX3_copy_210 : decode cX3_copy 210 = .ok (.iload 5, 2) := by decide +kernel
theorem dX3_copy_212 : decode cX3_copy 212 = .ok (.iastore, 1) := by decide +kernel
theorem dX3_copy_213 : decode cX3_copy 213 = .ok (.aload_n 0, 1) := by decide +kernel
theorem dX3_copy_214 : decode cX3_copy 214 = .ok (.getfield 26, 3) := by decide +kernel
theorem dX3_copy_217 : decode cX3_copy 217 = .ok (.aload_n 0, 1) := by decide +kernel
theorem dX3_copy_218 : decode cX3_copy 218 = .ok (.getfield 71, 3) := by decide +kernel
theorem dX3_copy_221 : decode cX3_copy 221 = .ok (.iconst 3, 1) := by decide +kernel
theorem dX3_copy_222 : decode cX3_copy 222 = .ok (.iastore, 1) := by decide +kernel
theorem dX3_copy_223 : decode cX3_copy 223 = .ok (.aload_n 0, 1) := by decide +kernel
theorem dX3_copy_224 : decode cX3_copy 224 = .ok (.getfield 33, 3) := by decide +kernel
theorem dX3_copy_227 : decode cX3_copy 227 = .ok (.aload_n 0, 1) := by decide +kernel
theorem dX3_copy_228 : decode cX3_copy 228 = .ok (.getfield 71, 3) := by decide +kernel
theorem dX3_copy_231 : decode cX3_copy 231 = .ok (.iconst (-1), 1) := by decide +kernel
theorem dX3_copy_232 : decode cX3_copy 232 = .ok (.iastore, 1) := by decide +kernel
theorem dX3_copy_233 : decode cX3_copy 233 = .ok (.aload_n 0, 1) := by decide +kernel
theorem dX3_copy_234 : decode cX3_copy 234 = .ok (.getfield 71, 3) := by decide +kernel
theorem dX3_copy_237 : decode cX3_copy 237 = .ok (.ireturn, 1) := by decide +kernel
theorem dX3_right_0 : decode cX3_right 0 = .ok (.aload_n 0, 1) := by decide +kernel
theorem dX3_right_1 : decode cX3_right 1 = .ok (.iconst 0, 1) := by decide +kernel
theorem dX3_right_2 : decode cX3_right 2 = .ok (.putfield 57, 3) := by decide +kernel
theorem dX3_right_5 : decode cX3_right 5 = .ok (.iload_n 1, 1) := by decide +kernel
theorem dX3_right_6 : decode cX3_right 6 = .ok (.ifCond .lt 18, 3) := by decide +kernel
theorem dX3_right_9 : decode cX3_right 9 = .ok (.iload_n 1, 1) := by decide +kernel
theorem dX3_right_10 : decode cX3_right 10 = .ok (.bipush 9, 2) := by decide +kernel
theorem dX3_right_12 : decode cX3_right 12 = .ok (.if_icmp .gt 12, 3) := by decide +kernel
theorem dX3_right_15 : decode cX3_right 15 = .ok (.iload_n 2, 1) := by decide +kernel
theorem dX3_right_16 : decode cX3_right 16 = .ok (.ifCond .lt 8, 3) := by decide +kernel
theorem dX3_right_19 : decode cX3_right 19 = .ok (.iload_n 2, 1) := by decide +kernel
theorem dX3_right_20 : decode cX3_right 20 = .ok (.iconst 5, 1) := by decide +kernel
theorem dX3_right_21 : decode cX3_right 21 = .ok (.if_icmp .le 5, 3) := by decide +kernel
theorem dX3_right_24 : decode cX3_right 24 = .ok (.iconst 0, 1) := by decide +kernel
theorem dX3_right_25 : decode cX3_right 25 = .ok (.ireturn, 1) := by decide +kernel
theorem dX3_right_26 : decode cX3_right 26 = .ok (.aload_n 0, 1) := by decide +kernel
theorem dX3_right_27 : decode cX3_right 27 = .ok (.getfield 39, 3) := by decide +kernel
theorem dX3_right_30 : decode cX3_right 30 = .ok (.bipush 6, 2) := by decide +kernel
theorem dX3_right_32 : decode cX3_right 32 = .ok (.iload_n 1, 1) := by decide +kernel
theorem dX3_right_33 : decode cX3_right 33 = .ok (.imul, 1) := by decide +kernel
theorem dX3_right_34 : decode cX3_right 34 = .ok (.iload_n 2, 1) := by decide +kernel
theorem dX3_right_35 : decode cX3_right 35 = .ok (.iadd, 1) := by decide +kernel
theorem dX3_right_36 : decode cX3_right 36 = .ok (.baload, 1) := by decide +kernel
theorem dX3_right_37 : decode cX3_right 37 = .ok (.ifCond .ne 7, 3) := by decide +kernel
theorem dX3_right_40 : decode cX3_right 40 = .ok (.iconst 1, 1) := by decide +kernel
theorem dX3_right_41 : decode cX3_right 41 = .ok (.goto 4, 3) := by decide +kernel
theorem dX3_right_44 : decode cX3_right 44 = .ok (.iconst 0, 1) := by decide +kernel
theorem dX3_right_45 : decode cX3_right 45 = .ok (.istore 4, 2) := by decide +kernel
theorem dX3_right_47 : decode cX3_right 47 = .ok (.aload_n 0, 1) := by decide +kernel
theorem dX3_right_48 : decode cX3_right 48 = .ok (.getfield 39, 3) := by decide +kernel
theorem dX3_right_51 : decode cX3_right 51 = .ok (.bipush 6, 2) := by decide +kernel
theorem dX3_right_53 : decode cX3_right 53 = .ok (.iload_n 1, 1) := by decide +kernel
theorem dX3_right_54 : decode cX3_right 54 = .ok (.imul, 1) := by decide +kernel
theorem dX3_right_55 : decode cX3_right 55 = .ok (.iload_n 2, 1) := by decide +kernel
theorem dX3_right_56 : decode cX3_right 56 = .ok (.iadd, 1) := by decide +kernel
theorem dX3_right_57 : decode cX3_right 57 = .ok (.iload_n 3, 1) := by decide +kernel
theorem dX3_right_58 : decode cX3_right 58 = .ok (.ifCond .ne 7, 3) := by decide +kernel
theorem dX3_right_61 : decode cX3_right 61 = .ok (.iconst 1, 1) := by decide +kernel
theorem dX3_right_62 : decode cX3_right 62 = .ok (.goto 4, 3) := by decide +kernel
theorem dX3_right_65 : decode cX3_right 65 = .ok (.iconst 0, 1) := by decide +kernel
theorem dX3_right_66 : decode cX3_right 66 = .ok (.bastore, 1) := by decide +kernel
theorem dX3_right_67 : decode cX3_right 67 = .ok (.iload 4, 2) := by decide +kernel
theorem dX3_right_69 : decode cX3_right 69 = .ok (.ireturn, 1) := by decide +kernel
theorem dX3_fee_0 : decode cX3_fee 0 = .ok (.aload_n 0, 1) := by decide +kernel
theorem dX3_fee_1 : decode cX3_fee 1 = .ok (.iconst 0, 1) := by decide +kernel
theorem dX3_fee_2 : decode cX3_fee 2 = .ok (.putfield 57, 3) := by decide +kernel
theorem dX3_fee_5 : decode cX3_fee 5 = .ok (.iload_n 1, 1) := by decide +kernel
theorem dX3_fee_6 : decode cX3_fee 6 = .ok (.ifCond .lt 18, 3) := by decide +kernel
theorem dX3_fee_9 : decode cX3_fee 9 = .ok (.iload_n 1, 1) := by decide +kernel
theorem dX3_fee_10 : decode cX3_fee 10 = .ok (.iconst 5, 1) := by decide +kernel
theorem dX3_fee_11 : decode cX3_fee 11 = .ok (.if_icmp .gt 13, 3) := by decide +kernel
theorem dX3_fee_14 : decode cX3_fee 14 = .ok (.iload_n 2, 1) := by decide +kernel
theorem dX3_fee_15 : decode cX3_fee 15 = .ok (.ifCond .lt 9, 3) := by decide +kernel
theorem dX3_fee_18 : decode cX3_fee 18 = .ok (.iload_n 2, 1) := by decide +kernel
theorem dX3_fee_19 : decode cX3_fee 19 = .ok (.ldc 74, 2) := by decide +kernel
theorem dX3_fee_21 : decode cX3_fee 21 = .ok (.if_icmp .le 5, 3) := by decide +kernel
theorem dX3_fee_24 : decode cX3_fee 24 = .ok (.iconst (-1), 1) := by decide +kernel
theorem dX3_fee_25 : decode cX3_fee 25 = .ok (.ireturn, 1) := by decide +kernel
theorem dX3_fee_26 : decode cX3_fee 26 = .ok (.aload_n 0, 1) := by decide +kernel
theorem dX3_fee_27 : decode cX3_fee 27 = .ok (.getfield 42, 3) := by decide +kernel
theorem dX3_fee_30 : decode cX3_fee 30 = .ok (.iload_n 1, 1) := by decide +kernel
theorem dX3_fee_31 : decode cX3_fee 31 = .ok (.iaload, 1) := by decide +kernel
theorem dX3_fee_32 : decode cX3_fee 32 = .ok (.istore_n 3, 1) := by decide +kernel
theorem dX3_fee_33 : decode cX3_fee 33 = .ok (.aload_n 0, 1) := by decide +kernel
theorem dX3_fee_34 : decode cX3_fee 34 = .ok (.getfield 42, 3) := by decide +kernel
theorem dX3_fee_37 : decode cX3_fee 37 = .ok (.iload_n 1, 1) := by decide +kernel
theorem dX3_fee_38 : decode cX3_fee 38 = .ok (.iload_n 2, 1) := by decide +kernel
theorem dX3_fee_39 : decode cX3_fee 39 = .ok (.iastore, 1) := by decide +kernel
theorem dX3_fee_40 : decode cX3_fee 40 = .ok (.iload_n 3, 1) := by decide +kernel
theorem dX3_fee_41 : decode cX3_fee 41 = .ok (.ireturn, 1) := by decide +kernel
theorem dX3_state_0 : decode cX3_state 0 = .ok (.aload_n 0, 1) := by decide +kernel
theorem dX3_state_1 : decode cX3_state 1 = .ok (.iconst 0, 1) := by decide +kernel
theorem dX3_state_2 : decode cX3_state 2 = .ok (.putfield 57, 3) := by decide +kernel
theorem dX3_state_5 : decode cX3_state 5 = .ok (.aload_n 0, 1) := by decide +kernel
theorem dX3_state_6 : decode cX3_state 6 = .ok (.iload_n 1, 1) := by decide +kernel
theorem dX3_state_7 : decode cX3_state 7 = .ok (.invokevirtual 78, 3) := by decide +kernel
theorem dX3_state_10 : decode cX3_state 10 = .ok (.ifCond .ne 5, 3) := by decide +kernel
theorem dX3_state_13 : decode cX3_state 13 = .ok (.iconst (-1), 1) := by decide +kernel
theorem dX3_state_14 : decode cX3_state 14 = .ok (.ireturn, 1) := by decide +kernel
theorem dX3_state_15 : decode cX3_state 15 = .ok (.aload_n 0, 1) := by decide +kernel
theorem dX3_state_16 : decode cX3_state 16 = .ok (.iload_n 1, 1) := by decide +kernel
theorem dX3_state_17 : decode cX3_state 17 = .ok (.lload_n 2, 1) := by decide +kernel
theorem dX3_state_18 : decode cX3_state 18 = .ok (.invokevirtual 82, 3) := by decide +kernel
theorem dX3_state_21 : decode cX3_state 21 = .ok (.istore 4, 2) := by decide +kernel
theorem dX3_state_23 : decode cX3_state 23 = .ok (.iload 4, 2) := by decide +kernel
theorem dX3_state_25 : decode cX3_state 25 = .ok (.iconst (-1), 1) := by decide +kernel
theorem dX3_state_26 : decode cX3_state 26 = .ok (.if_icmp .ne 7, 3) := by decide +kernel
theorem dX3_state_29 : decode cX3_state 29 = .ok (.iconst 3, 1) := by decide +kernel
theorem dX3_state_30 : decode cX3_state 30 = .ok (.goto 10, 3) := by decide +kernel
theorem dX3_state_33 : decode cX3_state 33 = .ok (.aload_n 0, 1) := by decide +kernel
theorem dX3_state_34 : decode cX3_state 34 = .ok (.getfield 48, 3) := by decide +kernel
theorem dX3_state_37 : decode cX3_state 37 = .ok (.iload 4, 2) := by decide +kernel
theorem dX3_state_39 : decode cX3_state 39 = .ok (.iaload, 1) := by decide +kernel
theorem dX3_state_40 : decode cX3_state 40 = .ok (.ireturn, 1) := by decide +kernel
theorem dX3_isCopy_0 : decode cX3_isCopy 0 = .ok (.iload_n 1, 1) := by decide +kernel
theorem dX3_isCopy_1 : decode cX3_isCopy 1 = .ok (.ifCond .le 15, 3) := by decide +kernel
theorem dX3_isCopy_4 : decode cX3_isCopy 4 = .ok (.iload_n 1, 1) := by decide +kernel
theorem dX3_isCopy_5 : decode cX3_isCopy 5 = .ok (.aload_n 0, 1) := by decide +kernel
theorem dX3_isCopy_6 : decode cX3_isCopy 6 = .ok (.getfield 71, 3) := by decide +kernel
theorem dX3_isCopy_9 : decode cX3_isCopy 9 = .ok (.if_icmp .gt 7, 3) := by decide +kernel
theorem dX3_isCopy_12 : decode cX3_isCopy 12 = .ok (.iconst 1, 1) := by decide +kernel
theorem dX3_isCopy_13 : decode cX3_isCopy 13 = .ok (.goto 4, 3) := by decide +kernel
theorem dX3_isCopy_16 : decode cX3_isCopy 16 = .ok (.iconst 0, 1) := by decide +kernel
theorem dX3_isCopy_17 : decode cX3_isCopy 17 = .ok (.ireturn, 1) := by decide +kernel
theorem dX3_last_0 : decode cX3_last 0 = .ok (.aload_n 0, 1) := by decide +kernel
theorem dX3_last_1 : decode cX3_last 1 = .ok (.getfield 75, 3) := by decide +kernel
theorem dX3_last_4 : decode cX3_last 4 = .ok (.iconst 1, 1) := by decide +kernel
theorem dX3_last_5 : decode cX3_last 5 = .ok (.isub, 1) := by decide +kernel
theorem dX3_last_6 : decode cX3_last 6 = .ok (.istore 4, 2) := by decide +kernel
theorem dX3_last_8 : decode cX3_last 8 = .ok (.iload 4, 2) := by decide +kernel
theorem dX3_last_10 : decode cX3_last 10 = .ok (.ifCond .lt 32, 3) := by decide +kernel
theorem dX3_last_13 : decode cX3_last 13 = .ok (.aload_n 0, 1) := by decide +kernel
theorem dX3_last_14 : decode cX3_last 14 = .ok (.getfield 45, 3) := by decide +kernel
theorem dX3_last_17 : decode cX3_last 17 = .ok (.iload 4, 2) := by decide +kernel
theorem dX3_last_19 : decode cX3_last 19 = .ok (.iaload, 1) := by decide +kernel
theorem dX3_last_20 : decode cX3_last 20 = .ok (.iload_n 1, 1) := by decide +kernel
theorem dX3_last_21 : decode cX3_last 21 = .ok (.if_icmp .ne 15, 3) := by decide +kernel
theorem dX3_last_24 : decode cX3_last 24 = .ok (.aload_n 0, 1) := by decide +kernel
theorem dX3_last_25 : decode cX3_last 25 = .ok (.getfield 54, 3) := by decide +kernel
theorem dX3_last_28 : decode cX3_last 28 = .ok (.iload 4, 2) := by decide +kernel
theorem dX3_last_30 : decode cX3_last 30 = .ok (.laload, 1) := by decide +kernel
theorem dX3_last_31 : decode cX3_last 31 = .ok (.lload_n 2, 1) := by decide +kernel
theorem dX3_last_32 : decode cX3_last 32 = .ok (.lcmp, 1) := by decide +kernel
theorem dX3_last_33 : decode cX3_last 33 = .ok (.ifCond .le 9, 3) := by decide +kernel
theorem dX3_last_36 : decode cX3_last 36 = .ok (.iinc 4 (-1), 3) := by decide +kernel
theorem dX3_last_39 : decode cX3_last 39 = .ok (.goto (-31), 3) := by decide +kernel
theorem dX3_last_42 : decode cX3_last 42 = .ok (.iload 4, 2) := by decide +kernel
theorem dX3_last_44 : decode cX3_last 44 = .ok (.ireturn, 1) := by decide +kernel
theorem dX3_act_0 : decode cX3_act 0 = .ok (.aload_n 0, 1) := by decide +kernel
theorem dX3_act_1 : decode cX3_act 1 = .ok (.iconst 0, 1) := by decide +kernel
theorem dX3_act_2 : decode cX3_act 2 = .ok (.putfield 57, 3) := by decide +kernel
theorem dX3_act_5 : decode cX3_act 5 = .ok (.aload_n 0, 1) := by decide +kernel
theorem dX3_act_6 : decode cX3_act 6 = .ok (.iload_n 1, 1) := by decide +kernel
theorem dX3_act_7 : decode cX3_act 7 = .ok (.invokevirtual 78, 3) := by decide +kernel
theorem dX3_act_10 : decode cX3_act 10 = .ok (.ifCond .eq 54, 3) := by decide +kernel
theorem dX3_act_13 : decode cX3_act 13 = .ok (.iload_n 2, 1) := by decide +kernel
theorem dX3_act_14 : decode cX3_act 14 = .ok (.ifCond .lt 50, 3) := by decide +kernel
theorem dX3_act_17 : decode cX3_act 17 = .ok (.iload_n 2, 1) := by decide +kernel
theorem dX3_act_18 : decode cX3_act 18 = .ok (.bipush 6, 2) := by decide +kernel
theorem dX3_act_20 : decode cX3_act 20 = .ok (.if_icmp .gt 44, 3) := by decide +kernel
theorem dX3_act_23 : decode cX3_act 23 = .ok (.lload 4, 2) := by decide +kernel
theorem dX3_act_25 : decode cX3_act 25 = .ok (.lconst 0, 1) := by decide +kernel
theorem dX3_act_26 : decode cX3_act 26 = .ok (.lcmp, 1) := by decide +kernel
theorem dX3_act_27 : decode cX3_act 27 = .ok (.ifCond .lt 37, 3) := by decide +kernel
theorem dX3_act_30 : decode cX3_act 30 = .ok (.lload 4, 2) := by decide +kernel
theorem dX3_act_32 : decode cX3_act 32 = .ok (.ldc2_w 90, 3) := by decide +kernel
theorem dX3_act_35 : decode cX3_act 35 = .ok (.lcmp, 1) := by decide +kernel
theorem dX3_act_36 : decode cX3_act 36 = .ok (.ifCond .gt 28, 3) := by decide +kernel
theorem dX3_act_39 : decode cX3_act 39 = .ok (.iload_n 2, 1) := by decide +kernel
theorem dX3_act_40 : decode cX3_act 40 = .ok (.iconst 2, 1) := by decide +kernel
theorem dX3_act_41 : decode cX3_act 41 = .ok (.if_icmp .ne 25, 3) := by decide +kernel
theorem dX3_act_44 : decode cX3_act 44 = .ok (.iload_n 3, 1) := by decide +kernel
theorem dX3_act_45 : decode cX3_act 45 = .ok (.ifCond .lt 19, 3) := by decide +kernel
theorem dX3_act_48 : decode cX3_act 48 = .ok (.iload_n 3, 1) := by decide +kernel
theorem dX3_act_49 : decode cX3_act 49 = .ok (.bipush 9, 2) := by decide +kernel
theorem dX3_act_51 : decode cX3_act 51 = .ok (.if_icmp .gt 13, 3) := by decide +kernel
theorem dX3_act_54 : decode cX3_act 54 = .ok (.iload_n 3, 1) := by decide +kernel
theorem dX3_act_55 : decode cX3_act 55 = .ok (.aload_n 0, 1) := by decide +kernel
theorem dX3_act_56 : decode cX3_act 56 = .ok (.getfield 23, 3) := by decide +kernel
theorem dX3_act_59 : decode cX3_act 59 = .ok (.iload_n 1, 1) := by decide +kernel
theorem dX3_act_60 : decode cX3_act 60 = .ok (.iaload, 1) := by decide +kernel
theorem dX3_act_61 : decode cX3_act 61 = .ok (.if_icmp .ne 5, 3) := by decide +kernel
theorem dX3_act_64 : decode cX3_act 64 = .ok (.iconst (-1), 1) := by decide +kernel
theorem dX3_act_65 : decode cX3_act 65 = .ok (.ireturn, 1) := by decide +kernel
theorem dX3_act_66 : decode cX3_act 66 = .ok (.lload 4, 2) := by decide +kernel
theorem dX3_act_68 : decode cX3_act 68 = .ok (.aload_n 0, 1) := by decide +kernel
theorem dX3_act_69 : decode cX3_act 69 = .ok (.getfield 86, 3) := by decide +kernel
theorem dX3_act_72 : decode cX3_act 72 = .ok (.lcmp, 1) := by decide +kernel
theorem dX3_act_73 : decode cX3_act 73 = .ok (.ifCond .ge 7, 3) := by decide +kernel
theorem dX3_act_76 : decode cX3_act 76 = .ok (.iconst 1, 1) := by decide +kernel
theorem dX3_act_77 : decode cX3_act 77 = .ok (.goto 4, 3) := by decide +kernel
theorem dX3_act_80 : decode cX3_act 80 = .ok (.iconst 0, 1) := by decide +kernel
theorem dX3_act_81 : decode cX3_act 81 = .ok (.istore 6, 2) := by decide +kernel
theorem dX3_act_83 : decode cX3_act 83 = .ok (.iload 6, 2) := by decide +kernel
theorem dX3_act_85 : decode cX3_act 85 = .ok (.ifCond .eq 13, 3) := by decide +kernel
theorem dX3_act_88 : decode cX3_act 88 = .ok (.aload_n 0, 1) := by decide +kernel
theorem dX3_act_89 : decode cX3_act 89 = .ok (.iload_n 1, 1) := by decide +kernel
theorem dX3_act_90 : decode cX3_act 90 = .ok (.lload 4, 2) := by decide +kernel
theorem dX3_act_92 : decode cX3_act 92 = .ok (.invokevirtual 82, 3) := by decide +kernel
theorem dX3_act_95 : decode cX3_act 95 = .ok (.goto 4, 3) := by decide +kernel
theorem dX3_act_98 : decode cX3_act 98 = .ok (.iconst (-1), 1) := by decide +kernel
theorem dX3_act_99 : decode cX3_act 99 = .ok (.istore 7, 2) := by decide +kernel
theorem dX3_act_101 : decode cX3_act 101 = .ok (.iload 6, 2) := by decide +kernel
theorem dX3_act_103 : decode cX3_act 103 = .ok (.ifCond .ne 12, 3) := by decide +kernel
theorem dX3_act_106 : decode cX3_act 106 = .ok (.aload_n 0, 1) := by decide +kernel
theorem dX3_act_107 : decode cX3_act 107 = .ok (.getfield 26, 3) := by decide +kernel
theorem dX3_act_110 : decode cX3_act 110 = .ok (.iload_n 1, 1) := by decide +kernel
theorem dX3_act_111 : decode cX3_act 111 = .ok (.iaload, 1) := by decide +kernel
theorem dX3_act_112 : decode cX3_act 112 = .ok (.goto 20, 3) := by decide +kernel
theorem dX3_act_115 : decode cX3_act 115 = .ok (.iload 7, 2) := by decide +kernel
theorem dX3_act_117 : decode cX3_act 117 = .ok (.iconst (-1), 1) := by decide +kernel
theorem dX3_act_118 : decode cX3_act 118 = .ok (.if_icmp .ne 7, 3) := by decide +kernel
theorem dX3_act_121 : decode cX3_act 121 = .ok (.iconst 3, 1) := by decide +kernel
theorem dX3_act_122 : decode cX3_act 122 = .ok (.goto 10, 3) := by decide +kernel
theorem dX3_act_125 : decode cX3_act 125 = .ok (.aload_n 0, 1) := by decide +kernel
theorem dX3_act_126 : decode cX3_act 126 = .ok (.getfield 48, 3) := by decide +kernel
theorem dX3_act_129 : decode cX3_act 129 = .ok (.iload 7, 2) := by decide +kernel
theorem dX3_act_131 : decode cX3_act 131 = .ok (.iaload, 1) := by decide +kernel
theorem dX3_act_132 : decode cX3_act 132 = .ok (.istore 8, 2) := by decide +kernel
theorem dX3_act_134 : decode cX3_act 134 = .ok (.iload_n 2, 1) := by decide +kernel
theorem dX3_act_135 : decode cX3_act 135 = .ok (.iload 8, 2) := by decide +kernel
theorem dX3_act_137 : decode cX3_act 137 = .ok (.invokestatic 92, 3) := by decide +kernel
theorem dX3_act_140 : decode cX3_act 140 = .ok (.ifCond .ne 6, 3) := by decide +kernel
theorem dX3_act_143 : decode cX3_act 143 = .ok (.bipush (-2), 2) := by decide +kernel
theorem dX3_act_145 : decode cX3_act 145 = .ok (.ireturn, 1) := by decide +kernel
theorem dX3_act_146 : decode cX3_act 146 = .ok (.iload_n 2, 1) := by decide +kernel
theorem dX3_act_147 : decode cX3_act 147 = .ok (.iconst 2, 1) := by decide +kernel
theorem dX3_act_148 : decode cX3_act 148 = .ok (.if_icmp .ne 22, 3) := by decide +kernel
theorem dX3_act_151 : decode cX3_act 151 = .ok (.aload_n 0, 1) := by decide +kernel
theorem dX3_act_152 : decode cX3_act 152 = .ok (.getfield 39, 3) := by decide +kernel
theorem dX3_act_155 : decode cX3_act 155 = .ok (.bipush 6, 2) := by decide +kernel
theorem dX3_act_157 : decode cX3_act 157 = .ok (.iload_n 3, 1) := by decide +kernel
theorem dX3_act_158 : decode cX3_act 158 = .ok (.imul, 1) := by decide +kernel
theorem dX3_act_159 : decode cX3_act 159 = .ok (.aload_n 0, 1) := by decide +kernel
theorem dX3_act_160 : decode cX3_act 160 = .ok (.getfield 7, 3) := by decide +kernel
theorem dX3_act_163 : decode cX3_act 163 = .ok (.iload_n 1, 1) := by decide +kernel
theorem dX3_act_164 : decode cX3_act 164 = .ok (.iaload, 1) := by decide +kernel
theorem dX3_act_165 : decode cX3_act 165 = .ok (.iadd, 1) := by decide +kernel
theorem dX3_act_166 : decode cX3_act 166 = .ok (.baload, 1) := by decide +kernel
theorem dX3_act_167 : decode cX3_act 167 = .ok (.ifCond .ne 42, 3) := by decide +kernel
theorem dX3_act_170 : decode cX3_act 170 = .ok (.iload_n 2, 1) := by decide +kernel
theorem dX3_act_171 : decode cX3_act 171 = .ok (.ifCond .ne 41, 3) := by decide +kernel
theorem dX3_act_174 : decode cX3_act 174 = .ok (.iload 6, 2) := by decide +kernel
theorem dX3_act_176 : decode cX3_act 176 = .ok (.ifCond .ne 36, 3) := by decide +kernel
theorem dX3_act_179 : decode cX3_act 179 = .ok (.iload 8, 2) := by decide +kernel
theorem dX3_act_181 : decode cX3_act 181 = .ok (.iconst 2, 1) := by decide +kernel
theorem dX3_act_182 : decode cX3_act 182 = .ok (.if_icmp .ne 30, 3) := by decide +kernel
theorem dX3_act_185 : decode cX3_act 185 = .ok (.aload_n 0, 1) := by decide +kernel
theorem dX3_act_186 : decode cX3_act 186 = .ok (.getfield 39, 3) := by decide +kernel
theorem dX3_act_189 : decode cX3_act 189 = .ok (.bipush 6, 2) := by decide +kernel
theorem dX3_act_191 : decode cX3_act 191 = .ok (.aload_n 0, 1) := by decide +kernel
theorem dX3_act_192 : decode cX3_act 192 = .ok (.getfield 23, 3) := by decide +kernel
theorem dX3_act_195 : decode cX3_act 195 = .ok (.iload_n 1, 1) := by decide +kernel
theorem dX3_act_196 : decode cX3_act 196 = .ok (.iaload, 1) := by decide +kernel
theorem dX3_act_197 : decode cX3_act 197 = .ok (.imul, 1) := by decide +kernel
theorem dX3_act_198 : decode cX3_act 198 = .ok (.aload_n 0, 1) := by decide +kernel
theorem dX3_act_199 : decode cX3_act 199 = .ok (.getfield 7, 3) := by decide +kernel
theorem dX3_act_202 : decode cX3_act 202 = .ok (.iload_n 1, 1) := by decide +kernel
theorem dX3_act_203 : decode cX3_act 203 = .ok (.iaload, 1) := by decide +kernel
theorem dX3_act_204 : decode cX3_act 204 = .ok (.iadd, 1) := by decide +kernel
theorem dX3_act_205 : decode cX3_act 205 = .ok (.baload, 1) := by decide +kernel
theorem dX3_act_206 : decode cX3_act 206 = .ok (.ifCond .eq 6, 3) := by decide +kernel
theorem dX3_act_209 : decode cX3_act 209 = .ok (.bipush (-3), 2) := by decide +kernel
theorem dX3_act_211 : decode cX3_act 211 = .ok (.ireturn, 1) := by decide +kernel
theorem dX3_act_212 : decode cX3_act 212 = .ok (.aload_n 0, 1) := by decide +kernel
theorem dX3_act_213 : decode cX3_act 213 = .ok (.iload_n 1, 1) := by decide +kernel
theorem dX3_act_214 : decode cX3_act 214 = .ok (.iload_n 2, 1) := by decide +kernel
theorem dX3_act_215 : decode cX3_act 215 = .ok (.iload 6, 2) := by decide +kernel
theorem dX3_act_217 : decode cX3_act 217 = .ok (.lload 4, 2) := by decide +kernel
theorem dX3_act_219 : decode cX3_act 219 = .ok (.invokevirtual 96, 3) := by decide +kernel
theorem dX3_act_222 : decode cX3_act 222 = .ok (.iload 6, 2) := by decide +kernel
theorem dX3_act_224 : decode cX3_act 224 = .ok (.ifCond .eq 5, 3) := by decide +kernel
theorem dX3_act_227 : decode cX3_act 227 = .ok (.iload_n 2, 1) := by decide +kernel
theorem dX3_act_228 : decode cX3_act 228 = .ok (.ireturn, 1) := by decide +kernel
theorem dX3_act_229 : decode cX3_act 229 = .ok (.aload_n 0, 1) := by decide +kernel
theorem dX3_act_230 : decode cX3_act 230 = .ok (.getfield 36, 3) := by decide +kernel
theorem dX3_act_233 : decode cX3_act 233 = .ok (.iload_n 1, 1) := by decide +kernel
theorem dX3_act_234 : decode cX3_act 234 = .ok (.dup2, 1) := by decide +kernel
theorem dX3_act_235 : decode cX3_act 235 = .ok (.iaload, 1) := by decide +kernel
theorem dX3_act_236 : decode cX3_act 236 = .ok (.iload_n 2, 1) := by decide +kernel
theorem dX3_act_237 : decode cX3_act 237 = .ok (.bipush 6, 2) := by decide +kernel
theorem dX3_act_239 : decode cX3_act 239 = .ok (.if_icmp .ne 23, 3) := by decide +kernel
theorem dX3_act_242 : decode cX3_act 242 = .ok (.iload 8, 2) := by decide +kernel
theorem dX3_act_244 : decode cX3_act 244 = .ok (.iconst 1, 1) := by decide +kernel
theorem dX3_act_245 : decode cX3_act 245 = .ok (.if_icmp .ne 17, 3) := by decide +kernel
theorem dX3_act_248 : decode cX3_act 248 = .ok (.aload_n 0, 1) := by decide +kernel
theorem dX3_act_249 : decode cX3_act 249 = .ok (.getfield 42, 3) := by decide +kernel
theorem dX3_act_252 : decode cX3_act 252 = .ok (.aload_n 0, 1) := by decide +kernel
theorem dX3_act_253 : decode cX3_act 253 = .ok (.getfield 7, 3) := by decide +kernel
theorem dX3_act_256 : decode cX3_act 256 = .ok (.iload_n 1, 1) := by decide +kernel
theorem dX3_act_257 : decode cX3_act 257 = .ok (.iaload, 1) := by decide +kernel
theorem dX3_act_258 : decode cX3_act 258 = .ok (.iaload, 1) := by decide +kernel
theorem dX3_act_259 : decode cX3_act 259 = .ok (.goto 4, 3) := by decide +kernel
theorem dX3_act_262 : decode cX3_act 262 = .ok (.iconst 0, 1) := by decide +kernel
theorem dX3_act_263 : decode cX3_act 263 = .ok (.iadd, 1) := by decide +kernel
theorem dX3_act_264 : decode cX3_act 264 = .ok (.iastore, 1) := by decide +kernel
theorem dX3_act_265 : decode cX3_act 265 = .ok (.aload_n 0, 1) := by decide +kernel
theorem dX3_act_266 : decode cX3_act 266 = .ok (.getfield 26, 3) := by decide +kernel
theorem dX3_act_269 : decode cX3_act 269 = .ok (.iload_n 1, 1) := by decide +kernel
theorem dX3_act_270 : decode cX3_act 270 = .ok (.iload_n 2, 1) := by decide +kernel
theorem dX3_act_271 : decode cX3_act 271 = .ok (.iastore, 1) := by decide +kernel
theorem dX3_act_272 : decode cX3_act 272 = .ok (.aload_n 0, 1) := by decide +kernel
theorem dX3_act_273 : decode cX3_act 273 = .ok (.getfield 23, 3) := by decide +kernel
theorem dX3_act_276 : decode cX3_act 276 = .ok (.iload_n 1, 1) := by decide +kernel
theorem dX3_act_277 : decode cX3_act 277 = .ok (.iload_n 2, 1) := by decide +kernel
theorem dX3_act_278 : decode cX3_act 278 = .ok (.iconst 2, 1) := by decide +kernel
theorem dX3_act_279 : decode cX3_act 279 = .ok (.if_icmp .ne 7, 3) := by decide +kernel
theorem dX3_act_282 : decode cX3_act 282 = .ok (.iload_n 3, 1) := by decide +kernel
theorem dX3_act_283 : decode cX3_act 283 = .ok (.goto 9, 3) := by decide +kernel
theorem dX3_act_286 : decode cX3_act 286 = .ok (.aload_n 0, 1) := by decide +kernel
theorem dX3_act_287 : decode cX3_act 287 = .ok (.getfield 23, 3) := by decide +kernel
theorem dX3_act_290 : decode cX3_act 290 = .ok (.iload_n 1, 1) := by decide +kernel
theorem dX3_act_291 : decode cX3_act 291 = .ok (.iaload, 1) := by decide +kernel
theorem dX3_act_292 : decode cX3_act 292 = .ok (.iastore, 1) := by decide +kernel
theorem dX3_act_293 : decode cX3_act 293 = .ok (.aload_n 0, 1) := by decide +kernel
theorem dX3_act_294 : decode cX3_act 294 = .ok (.getfield 20, 3) := by decide +kernel
theorem dX3_act_297 : decode cX3_act 297 = .ok (.iload_n 1, 1) := by decide +kernel
theorem dX3_act_298 : decode cX3_act 298 = .ok (.iload_n 2, 1) := by decide +kernel
theorem dX3_act_299 : decode cX3_act 299 = .ok (.ifCond .ne 21, 3) := by decide +kernel
theorem dX3_act_302 : decode cX3_act 302 = .ok (.aload_n 0, 1) := by decide +kernel
theorem dX3_act_303 : decode cX3_act 303 = .ok (.getfield 29, 3) := by decide +kernel
theorem dX3_act_306 : decode cX3_act 306 = .ok (.iload_n 1, 1) := by decide +kernel
theorem dX3_act_307 : decode cX3_act 307 = .ok (.baload, 1) := by decide +kernel
theorem dX3_act_308 : decode cX3_act 308 = .ok (.ifCond .eq 12, 3) := by decide +kernel
theorem dX3_act_311 : decode cX3_act 311 = .ok (.aload_n 0, 1) := by decide +kernel
theorem dX3_act_312 : decode cX3_act 312 = .ok (.getfield 23, 3) := by decide +kernel
theorem dX3_act_315 : decode cX3_act 315 = .ok (.iload_n 1, 1) := by decide +kernel
theorem dX3_act_316 : decode cX3_act 316 = .ok (.iaload, 1) := by decide +kernel
theorem dX3_act_317 : decode cX3_act 317 = .ok (.goto 9, 3) := by decide +kernel
theorem dX3_act_320 : decode cX3_act 320 = .ok (.aload_n 0, 1) := by decide +kernel
theorem dX3_act_321 : decode cX3_act 321 = .ok (.getfield 20, 3) := by decide +kernel
theorem dX3_act_324 : decode cX3_act 324 = .ok (.iload_n 1, 1) := by decide +kernel
theorem dX3_act_325 : decode cX3_act 325 = .ok (.iaload, 1) := by decide +kernel
theorem dX3_act_326 : decode cX3_act 326 = .ok (.iastore, 1) := by decide +kernel
theorem dX3_act_327 : decode cX3_act 327 = .ok (.aload_n 0, 1) := by decide +kernel
theorem dX3_act_328 : decode cX3_act 328 = .ok (.getfield 33, 3) := by decide +kernel
theorem dX3_act_331 : decode cX3_act 331 = .ok (.iload_n 1, 1) := by decide +kernel
theorem dX3_act_332 : decode cX3_act 332 = .ok (.iconst (-1), 1) := by decide +kernel
theorem dX3_act_333 : decode cX3_act 333 = .ok (.iastore, 1) := by decide +kernel
theorem dX3_act_334 : decode cX3_act 334 = .ok (.iload_n 2, 1) := by decide +kernel
theorem dX3_act_335 : decode cX3_act 335 = .ok (.ireturn, 1) := by decide +kernel
theorem dX3_follows_0 : decode cX3_follows 0 = .ok (.iload_n 0, 1) := by decide +kernel
theorem dX3_follows_1 : decode cX3_follows 1 = .ok (.tableswitch 126 0 5 #[39, 55, 70, 85, 101, 111], 39) := by decide +kernel
theorem dX3_follows_40 : decode cX3_follows 40 = .ok (.iload_n 1, 1) := by decide +kernel
theorem dX3_follows_41 : decode cX3_follows 41 = .ok (.ifCond .le 13, 3) := by decide +kernel
theorem dX3_follows_44 : decode cX3_follows 44 = .ok (.iload_n 1, 1) := by decide +kernel
theorem dX3_follows_45 : decode cX3_follows 45 = .ok (.bipush 7, 2) := by decide +kernel
theorem dX3_follows_47 : decode cX3_follows 47 = .ok (.if_icmp .ge 7, 3) := by decide +kernel
theorem dX3_follows_50 : decode cX3_follows 50 = .ok (.iconst 1, 1) := by decide +kernel
theorem dX3_follows_51 : decode cX3_follows 51 = .ok (.goto 4, 3) := by decide +kernel
theorem dX3_follows_54 : decode cX3_follows 54 = .ok (.iconst 0, 1) := by decide +kernel
theorem dX3_follows_55 : decode cX3_follows 55 = .ok (.ireturn, 1) := by decide +kernel
theorem dX3_follows_56 : decode cX3_follows 56 = .ok (.iload_n 1, 1) := by decide +kernel
theorem dX3_follows_57 : decode cX3_follows 57 = .ok (.ifCond .eq 8, 3) := by decide +kernel
theorem dX3_follows_60 : decode cX3_follows 60 = .ok (.iload_n 1, 1) := by decide +kernel
theorem dX3_follows_61 : decode cX3_follows 61 = .ok (.iconst 4, 1) := by decide +kernel
theorem dX3_follows_62 : decode cX3_follows 62 = .ok (.if_icmp .ne 7, 3) := by decide +kernel
theorem dX3_follows_65 : decode cX3_follows 65 = .ok (.iconst 1, 1) := by decide +kernel
theorem dX3_follows_66 : decode cX3_follows 66 = .ok (.goto 4, 3) := by decide +kernel
theorem dX3_follows_69 : decode cX3_follows 69 = .ok (.iconst 0, 1) := by decide +kernel
theorem dX3_follows_70 : decode cX3_follows 70 = .ok (.ireturn, 1) := by decide +kernel
theorem dX3_follows_71 : decode cX3_follows 71 = .ok (.iload_n 1, 1) := by decide +kernel
theorem dX3_follows_72 : decode cX3_follows 72 = .ok (.ifCond .eq 8, 3) := by decide +kernel
theorem dX3_follows_75 : decode cX3_follows 75 = .ok (.iload_n 1, 1) := by decide +kernel
theorem dX3_follows_76 : decode cX3_follows 76 = .ok (.iconst 3, 1) := by decide +kernel
theorem dX3_follows_77 : decode cX3_follows 77 = .ok (.if_icmp .ne 7, 3) := by decide +kernel
theorem dX3_follows_80 : decode cX3_follows 80 = .ok (.iconst 1, 1) := by decide +kernel
theorem dX3_follows_81 : decode cX3_follows 81 = .ok (.goto 4, 3) := by decide +kernel
theorem dX3_follows_84 : decode cX3_follows 84 = .ok (.iconst 0, 1) := by decide +kernel
theorem dX3_follows_85 : decode cX3_follows 85 = .ok (.ireturn, 1) := by decide +kernel
theorem dX3_follows_86 : decode cX3_follows 86 = .ok (.iload_n 1, 1) := by decide +kernel
theorem dX3_follows_87 : decode cX3_follows 87 = .ok (.ifCond .eq 9, 3) := by decide +kernel
theorem dX3_follows_90 : decode cX3_follows 90 = .ok (.iload_n 1, 1) := by decide +kernel
theorem dX3_follows_91 : decode cX3_follows 91 = .ok (.bipush 6, 2) := by decide +kernel
theorem dX3_follows_93 : decode cX3_follows 93 = .ok (.if_icmp .ne 7, 3) := by decide +kernel
theorem dX3_follows_96 : decode cX3_follows 96 = .ok (.iconst 1, 1) := by decide +kernel
theorem dX3_follows_97 : decode cX3_follows 97 = .ok (.goto 4, 3) := by decide +kernel
theorem dX3_follows_100 : decode cX3_follows 100 = .ok (.iconst 0, 1) := by decide +kernel
theorem dX3_follows_101 : decode cX3_follows 101 = .ok (.ireturn, 1) := by decide +kernel
theorem dX3_follows_102 : decode cX3_follows 102 = .ok (.iload_n 1, 1) := by decide +kernel
theorem dX3_follows_103 : decode cX3_follows 103 = .ok (.ifCond .ne 7, 3) := by decide +kernel
theorem dX3_follows_106 : decode cX3_follows 106 = .ok (.iconst 1, 1) := by decide +kernel
theorem dX3_follows_107 : decode cX3_follows 107 = .ok (.goto 4, 3) := by decide +kernel
theorem dX3_follows_110 : decode cX3_follows 110 = .ok (.iconst 0, 1) := by decide +kernel
theorem dX3_follows_111 : decode cX3_follows 111 = .ok (.ireturn, 1) := by decide +kernel
theorem dX3_follows_112 : decode cX3_follows 112 = .ok (.iload_n 1, 1) := by decide +kernel
theorem dX3_follows_113 : decode cX3_follows 113 = .ok (.ifCond .eq 8, 3) := by decide +kernel
theorem dX3_follows_116 : decode cX3_follows 116 = .ok (.iload_n 1, 1) := by decide +kernel
theorem dX3_follows_117 : decode cX3_follows 117 = .ok (.iconst 3, 1) := by decide +kernel
theorem dX3_follows_118 : decode cX3_follows 118 = .ok (.if_icmp .ne 7, 3) := by decide +kernel
theorem dX3_follows_121 : decode cX3_follows 121 = .ok (.iconst 1, 1) := by decide +kernel
theorem dX3_follows_122 : decode cX3_follows 122 = .ok (.goto 4, 3) := by decide +kernel
theorem dX3_follows_125 : decode cX3_follows 125 = .ok (.iconst 0, 1) := by decide +kernel
theorem dX3_follows_126 : decode cX3_follows 126 = .ok (.ireturn, 1) := by decide +kernel
theorem dX3_follows_127 : decode cX3_follows 127 = .ok (.iload_n 1, 1) := by decide +kernel
theorem dX3_follows_128 : decode cX3_follows 128 = .ok (.bipush 6, 2) := by decide +kernel
theorem dX3_follows_130 : decode cX3_follows 130 = .ok (.if_icmp .ge 7, 3) := by decide +kernel
theorem dX3_follows_133 : decode cX3_follows 133 = .ok (.iconst 1, 1) := by decide +kernel
theorem dX3_follows_134 : decode cX3_follows 134 = .ok (.goto 4, 3) := by decide +kernel
theorem dX3_follows_137 : decode cX3_follows 137 = .ok (.iconst 0, 1) := by decide +kernel
theorem dX3_follows_138 : decode cX3_follows 138 = .ok (.ireturn, 1) := by decide +kernel
theorem dX3_enter_0 : decode cX3_enter 0 = .ok (.aload_n 0, 1) := by decide +kernel
theorem dX3_enter_1 : decode cX3_enter 1 = .ok (.getfield 75, 3) := by decide +kernel
theorem dX3_enter_4 : decode cX3_enter 4 = .ok (.istore 6, 2) := by decide +kernel
theorem dX3_enter_6 : decode cX3_enter 6 = .ok (.iload 6, 2) := by decide +kernel
theorem dX3_enter_8 : decode cX3_enter 8 = .ok (.ifCond .le 88, 3) := by decide +kernel
theorem dX3_enter_11 : decode cX3_enter 11 = .ok (.aload_n 0, 1) := by decide +kernel
theorem dX3_enter_12 : decode cX3_enter 12 = .ok (.getfield 54, 3) := by decide +kernel
theorem dX3_enter_15 : decode cX3_enter 15 = .ok (.iload 6, 2) := by decide +kernel
theorem dX3_enter_17 : decode cX3_enter 17 = .ok (.iconst 1, 1) := by decide +kernel
theorem dX3_enter_18 : decode cX3_enter 18 = .ok (.isub, 1) := by decide +kernel
theorem dX3_enter_19 : decode cX3_enter 19 = .ok (.laload, 1) := by decide +kernel
theorem dX3_enter_20 : decode cX3_enter 20 = .ok (.lload 4, 2) := by decide +kernel
theorem dX3_enter_22 : decode cX3_enter 22 = .ok (.lcmp, 1) := by decide +kernel
theorem dX3_enter_23 : decode cX3_enter 23 = .ok (.ifCond .le 73, 3) := by decide +kernel
theorem dX3_enter_26 : decode cX3_enter 26 = .ok (.aload_n 0, 1) := by decide +kernel
theorem dX3_enter_27 : decode cX3_enter 27 = .ok (.getfield 45, 3) := by decide +kernel
theorem dX3_enter_30 : decode cX3_enter 30 = .ok (.iload 6, 2) := by decide +kernel
theorem dX3_enter_32 : decode cX3_enter 32 = .ok (.aload_n 0, 1) := by decide +kernel
theorem dX3_enter_33 : decode cX3_enter 33 = .ok (.getfield 45, 3) := by decide +kernel
theorem dX3_enter_36 : decode cX3_enter 36 = .ok (.iload 6, 2) := by decide +kernel
theorem dX3_enter_38 : decode cX3_enter 38 = .ok (.iconst 1, 1) := by decide +kernel
theorem dX3_enter_39 : decode cX3_enter 39 = .ok (.isub, 1) := by decide +kernel
theorem dX3_enter_40 : decode cX3_enter 40 = .ok (.iaload, 1) := by decide +kernel
theorem dX3_enter_41 : decode cX3_enter 41 = .ok (.iastore, 1) := by decide +kernel
theorem dX3_enter_42 : decode cX3_enter 42 = .ok (.aload_n 0, 1) := by decide +kernel
theorem dX3_enter_43 : decode cX3_enter 43 = .ok (.getfield 48, 3) := by decide +kernel
theorem dX3_enter_46 : decode cX3_enter 46 = .ok (.iload 6, 2) := by decide +kernel
theorem dX3_enter_48 : decode cX3_enter 48 = .ok (.aload_n 0, 1) := by decide +kernel
theorem dX3_enter_49 : decode cX3_enter 49 = .ok (.getfield 48, 3) := by decide +kernel
theorem dX3_enter_52 : decode cX3_enter 52 = .ok (.iload 6, 2) := by decide +kernel
theorem dX3_enter_54 : decode cX3_enter 54 = .ok (.iconst 1, 1) := by decide +kernel
theorem dX3_enter_55 : decode cX3_enter 55 = .ok (.isub, 1) := by decide +kernel
theorem dX3_enter_56 : decode cX3_enter 56 = .ok (.iaload, 1) := by decide +kernel
theorem dX3_enter_57 : decode cX3_enter 57 = .ok (.iastore, 1) := by decide +kernel
theorem dX3_enter_58 : decode cX3_enter 58 = .ok (.aload_n 0, 1) := by decide +kernel
theorem dX3_enter_59 : decode cX3_enter 59 = .ok (.getfield 51, 3) := by decide +kernel
theorem dX3_enter_62 : decode cX3_enter 62 = .ok (.iload 6, 2) := by decide +kernel
theorem dX3_enter_64 : decode cX3_enter 64 = .ok (.aload_n 0, 1) := by decide +kernel
theorem dX3_enter_65 : decode cX3_enter 65 = .ok (.getfield 51, 3) := by decide +kernel
theorem dX3_enter_68 : decode cX3_enter 68 = .ok (.iload 6, 2) := by decide +kernel
theorem dX3_enter_70 : decode cX3_enter 70 = .ok (.iconst 1, 1) := by decide +kernel
theorem dX3_enter_71 : decode cX3_enter 71 = .ok (.isub, 1) := by decide +kernel
theorem dX3_enter_72 : decode cX3_enter 72 = .ok (.baload, 1) := by decide +kernel
theorem dX3_enter_73 : decode cX3_enter 73 = .ok (.bastore, 1) := by decide +kernel
theorem dX3_enter_74 : decode cX3_enter 74 = .ok (.aload_n 0, 1) := by decide +kernel
theorem dX3_enter_75 : decode cX3_enter 75 = .ok (.getfield 54, 3) := by decide +kernel
theorem dX3_enter_78 : decode cX3_enter 78 = .ok (.iload 6, 2) := by decide +kernel
theorem dX3_enter_80 : decode cX3_enter 80 = .ok (.aload_n 0, 1) := by decide +kernel
theorem dX3_enter_81 : decode cX3_enter 81 = .ok (.getfield 54, 3) := by decide +kernel
theorem dX3_enter_84 : decode cX3_enter 84 = .ok (.iload 6, 2) := by decide +kernel
theorem dX3_enter_86 : decode cX3_enter 86 = .ok (.iconst 1, 1) := by decide +kernel
theorem dX3_enter_87 : decode cX3_enter 87 = .ok (.isub, 1) := by decide +kernel
theorem dX3_enter_88 : decode cX3_enter 88 = .ok (.laload, 1) := by decide +kernel
theorem dX3_enter_89 : decode cX3_enter 89 = .ok (.lastore, 1) := by decide +kernel
theorem dX3_enter_90 : decode cX3_enter 90 = .ok (.iinc 6 (-1), 3) := by decide +kernel
theorem dX3_enter_93 : decode cX3_enter 93 = .ok (.goto (-87), 3) := by decide +kernel
theorem dX3_enter_96 : decode cX3_enter 96 = .ok (.aload_n 0, 1) := by decide +kernel
theorem dX3_enter_97 : decode cX3_enter 97 = .ok (.getfield 45, 3) := by decide +kernel
theorem dX3_enter_100 : decode cX3_enter 100 = .ok (.iload 6, 2) := by decide +kernel
theorem dX3_enter_102 : decode cX3_enter 102 = .ok (.iload_n 1, 1) := by decide +kernel
theorem dX3_enter_103 : decode cX3_enter 103 = .ok (.iastore, 1) := by decide +kernel
theorem dX3_enter_104 : decode cX3_enter 104 = .ok (.aload_n 0, 1) := by decide +kernel
theorem dX3_enter_105 : decode cX3_enter 105 = .ok (.getfield 48, 3) := by decide +kernel
theorem dX3_enter_108 : decode cX3_enter 108 = .ok (.iload 6, 2) := by decide +kernel
theorem dX3_enter_110 : decode cX3_enter 110 = .ok (.iload_n 2, 1) := by decide +kernel
theorem dX3_enter_111 : decode cX3_enter 111 = .ok (.iastore, 1) := by decide +kernel
theorem dX3_enter_112 : decode cX3_enter 112 = .ok (.aload_n 0, 1) := by decide +kernel
theorem dX3_enter_113 : decode cX3_enter 113 = .ok (.getfield 51, 3) := by decide +kernel
theorem dX3_enter_116 : decode cX3_enter 116 = .ok (.iload 6, 2) := by decide +kernel
theorem dX3_enter_118 : decode cX3_enter 118 = .ok (.iload_n 3, 1) := by decide +kernel
theorem dX3_enter_119 : decode cX3_enter 119 = .ok (.bastore, 1) := by decide +kernel
theorem dX3_enter_120 : decode cX3_enter 120 = .ok (.aload_n 0, 1) := by decide +kernel
theorem dX3_enter_121 : decode cX3_enter 121 = .ok (.getfield 54, 3) := by decide +kernel
theorem dX3_enter_124 : decode cX3_enter 124 = .ok (.iload 6, 2) := by decide +kernel
theorem dX3_enter_126 : decode cX3_enter 126 = .ok (.lload 4, 2) := by decide +kernel
theorem dX3_enter_128 : decode cX3_enter 128 = .ok (.lastore, 1) := by decide +kernel
theorem dX3_enter_129 : decode cX3_enter 129 = .ok (.aload_n 0, 1) := by decide +kernel
theorem dX3_enter_130 : decode cX3_enter 130 = .ok (.dup, 1) := by decide +kernel
theorem dX3_enter_131 : decode cX3_enter 131 = .ok (.getfield 75, 3) := by decide +kernel
theorem dX3_enter_134 : decode cX3_enter 134 = .ok (.iconst 1, 1) := by decide +kernel
theorem dX3_enter_135 : decode cX3_enter 135 = .ok (.iadd, 1) := by decide +kernel
theorem dX3_enter_136 : decode cX3_enter 136 = .ok (.putfield 75, 3) := by decide +kernel
theorem dX3_enter_139 : decode cX3_enter 139 = .ok (.aload_n 0, 1) := by decide +kernel
theorem dX3_enter_140 : decode cX3_enter 140 = .ok (.lload 4, 2) := by decide +kernel
theorem dX3_enter_142 : decode cX3_enter 142 = .ok (.aload_n 0, 1) := by decide +kernel
theorem dX3_enter_143 : decode cX3_enter 143 = .ok (.getfield 86, 3) := by decide +kernel
theorem dX3_enter_146 : decode cX3_enter 146 = .ok (.lcmp, 1) := by decide +kernel
theorem dX3_enter_147 : decode cX3_enter 147 = .ok (.ifCond .le 8, 3) := by decide +kernel
theorem dX3_enter_150 : decode cX3_enter 150 = .ok (.lload 4, 2) := by decide +kernel
theorem dX3_enter_152 : decode cX3_enter 152 = .ok (.goto 7, 3) := by decide +kernel
theorem dX3_enter_155 : decode cX3_enter 155 = .ok (.aload_n 0, 1) := by decide +kernel
theorem dX3_enter_156 : decode cX3_enter 156 = .ok (.getfield 86, 3) := by decide +kernel
theorem dX3_enter_159 : decode cX3_enter 159 = .ok (.putfield 86, 3) := by decide +kernel
theorem dX3_enter_162 : decode cX3_enter 162 = .ok (.return_, 1) := by decide +kernel
theorem dX3_weed_0 : decode cX3_weed 0 = .ok (.aload_n 0, 1) := by decide +kernel
theorem dX3_weed_1 : decode cX3_weed 1 = .ok (.iconst 0, 1) := by decide +kernel
theorem dX3_weed_2 : decode cX3_weed 2 = .ok (.putfield 57, 3) := by decide +kernel
theorem dX3_weed_5 : decode cX3_weed 5 = .ok (.aload_n 0, 1) := by decide +kernel
theorem dX3_weed_6 : decode cX3_weed 6 = .ok (.iload_n 1, 1) := by decide +kernel
theorem dX3_weed_7 : decode cX3_weed 7 = .ok (.invokevirtual 78, 3) := by decide +kernel
theorem dX3_weed_10 : decode cX3_weed 10 = .ok (.ifCond .eq 13, 3) := by decide +kernel
theorem dX3_weed_13 : decode cX3_weed 13 = .ok (.iload_n 2, 1) := by decide +kernel
theorem dX3_weed_14 : decode cX3_weed 14 = .ok (.ifCond .lt 9, 3) := by decide +kernel
theorem dX3_weed_17 : decode cX3_weed 17 = .ok (.iload_n 2, 1) := by decide +kernel
theorem dX3_weed_18 : decode cX3_weed 18 = .ok (.bipush 99, 2) := by decide +kernel
theorem dX3_weed_20 : decode cX3_weed 20 = .ok (.if_icmp .le 5, 3) := by decide +kernel
theorem dX3_weed_23 : decode cX3_weed 23 = .ok (.iconst (-1), 1) := by decide +kernel
theorem dX3_weed_24 : decode cX3_weed 24 = .ok (.ireturn, 1) := by decide +kernel
theorem dX3_weed_25 : decode cX3_weed 25 = .ok (.aload_n 0, 1) := by decide +kernel
theorem dX3_weed_26 : decode cX3_weed 26 = .ok (.getfield 26, 3) := by decide +kernel
theorem dX3_weed_29 : decode cX3_weed 29 = .ok (.iload_n 1, 1) := by decide +kernel
theorem dX3_weed_30 : decode cX3_weed 30 = .ok (.iaload, 1) := by decide +kernel
theorem dX3_weed_31 : decode cX3_weed 31 = .ok (.istore_n 3, 1) := by decide +kernel
theorem dX3_weed_32 : decode cX3_weed 32 = .ok (.iload_n 3, 1) := by decide +kernel
theorem dX3_weed_33 : decode cX3_weed 33 = .ok (.ifCond .eq 14, 3) := by decide +kernel
theorem dX3_weed_36 : decode cX3_weed 36 = .ok (.iload_n 3, 1) := by decide +kernel
theorem dX3_weed_37 : decode cX3_weed 37 = .ok (.iconst 3, 1) := by decide +kernel
theorem dX3_weed_38 : decode cX3_weed 38 = .ok (.if_icmp .eq 9, 3) := by decide +kernel
theorem dX3_weed_41 : decode cX3_weed 41 = .ok (.iload_n 3, 1) := by decide +kernel
theorem dX3_weed_42 : decode cX3_weed 42 = .ok (.bipush 6, 2) := by decide +kernel
theorem dX3_weed_44 : decode cX3_weed 44 = .ok (.if_icmp .ne 13, 3) := by decide +kernel
theorem dX3_weed_47 : decode cX3_weed 47 = .ok (.aload_n 0, 1) := by decide +kernel
theorem dX3_weed_48 : decode cX3_weed 48 = .ok (.getfield 33, 3) := by decide +kernel
theorem dX3_weed_51 : decode cX3_weed 51 = .ok (.iload_n 1, 1) := by decide +kernel
theorem dX3_weed_52 : decode cX3_weed 52 = .ok (.iaload, 1) := by decide +kernel
theorem dX3_weed_53 : decode cX3_weed 53 = .ok (.iload_n 2, 1) := by decide +kernel
theorem dX3_weed_54 : decode cX3_weed 54 = .ok (.if_icmp .ne 6, 3) := by decide +kernel
theorem dX3_weed_57 : decode cX3_weed 57 = .ok (.bipush (-2), 2) := by decide +kernel
theorem dX3_weed_59 : decode cX3_weed 59 = .ok (.ireturn, 1) := by decide +kernel
theorem dX3_weed_60 : decode cX3_weed 60 = .ok (.aload_n 0, 1) := by decide +kernel
theorem dX3_weed_61 : decode cX3_weed 61 = .ok (.getfield 33, 3) := by decide +kernel
theorem dX3_weed_64 : decode cX3_weed 64 = .ok (.iload_n 1, 1) := by decide +kernel
theorem dX3_weed_65 : decode cX3_weed 65 = .ok (.iaload, 1) := by decide +kernel
theorem dX3_weed_66 : decode cX3_weed 66 = .ok (.iconst (-1), 1) := by decide +kernel
theorem dX3_weed_67 : decode cX3_weed 67 = .ok (.if_icmp .ne 12, 3) := by decide +kernel
theorem dX3_weed_70 : decode cX3_weed 70 = .ok (.aload_n 0, 1) := by decide +kernel
theorem dX3_weed_71 : decode cX3_weed 71 = .ok (.getfield 33, 3) := by decide +kernel
theorem dX3_weed_74 : decode cX3_weed 74 = .ok (.iload_n 1, 1) := by decide +kernel
theorem dX3_weed_75 : decode cX3_weed 75 = .ok (.iload_n 2, 1) := by decide +kernel
theorem dX3_weed_76 : decode cX3_weed 76 = .ok (.iastore, 1) := by decide +kernel
theorem dX3_weed_77 : decode cX3_weed 77 = .ok (.iconst 1, 1) := by decide +kernel
theorem dX3_weed_78 : decode cX3_weed 78 = .ok (.ireturn, 1) := by decide +kernel
theorem dX3_weed_79 : decode cX3_weed 79 = .ok (.aload_n 0, 1) := by decide +kernel
theorem dX3_weed_80 : decode cX3_weed 80 = .ok (.iload_n 1, 1) := by decide +kernel
theorem dX3_weed_81 : decode cX3_weed 81 = .ok (.bipush 7, 2) := by decide +kernel
theorem dX3_weed_83 : decode cX3_weed 83 = .ok (.iconst 0, 1) := by decide +kernel
theorem dX3_weed_84 : decode cX3_weed 84 = .ok (.aload_n 0, 1) := by decide +kernel
theorem dX3_weed_85 : decode cX3_weed 85 = .ok (.getfield 86, 3) := by decide +kernel
theorem dX3_weed_88 : decode cX3_weed 88 = .ok (.lconst 1, 1) := by decide +kernel
theorem dX3_weed_89 : decode cX3_weed 89 = .ok (.ladd, 1) := by decide +kernel
theorem dX3_weed_90 : decode cX3_weed 90 = .ok (.invokevirtual 96, 3) := by decide +kernel
theorem dX3_weed_93 : decode cX3_weed 93 = .ok (.aload_n 0, 1) := by decide +kernel
theorem dX3_weed_94 : decode cX3_weed 94 = .ok (.getfield 26, 3) := by decide +kernel
theorem dX3_weed_97 : decode cX3_weed 97 = .ok (.iload_n 1, 1) := by decide +kernel
theorem dX3_weed_98 : decode cX3_weed 98 = .ok (.bipush 7, 2) := by decide +kernel
theorem dX3_weed_100 : decode cX3_weed 100 = .ok (.iastore, 1) := by decide +kernel
theorem dX3_weed_101 : decode cX3_weed 101 = .ok (.iconst 2, 1) := by decide +kernel
theorem dX3_weed_102 : decode cX3_weed 102 = .ok (.ireturn, 1) := by decide +kernel
theorem dX3_place_0 : decode cX3_place 0 = .ok (.aload_n 0, 1) := by decide +kernel
theorem dX3_place_1 : decode cX3_place 1 = .ok (.iconst 0, 1) := by decide +kernel
theorem dX3_place_2 : decode cX3_place 2 = .ok (.putfield 57, 3) := by decide +kernel
theorem dX3_place_5 : decode cX3_place 5 = .ok (.aload_n 0, 1) := by decide +kernel
theorem dX3_place_6 : decode cX3_place 6 = .ok (.iload_n 1, 1) := by decide +kernel
theorem dX3_place_7 : decode cX3_place 7 = .ok (.invokevirtual 78, 3) := by decide +kernel
theorem dX3_place_10 : decode cX3_place 10 = .ok (.ifCond .eq 12, 3) := by decide +kernel
theorem dX3_place_13 : decode cX3_place 13 = .ok (.aload_n 0, 1) := by decide +kernel
theorem dX3_place_14 : decode cX3_place 14 = .ok (.getfield 23, 3) := by decide +kernel
theorem dX3_place_17 : decode cX3_place 17 = .ok (.iload_n 1, 1) := by decide +kernel
theorem dX3_place_18 : decode cX3_place 18 = .ok (.iaload, 1) := by decide +kernel
theorem dX3_place_19 : decode cX3_place 19 = .ok (.goto 4, 3) := by decide +kernel
theorem dX3_place_22 : decode cX3_place 22 = .ok (.iconst (-1), 1) := by decide +kernel
theorem dX3_place_23 : decode cX3_place 23 = .ok (.ireturn, 1) := by decide +kernel
theorem dX3_floats_0 : decode cX3_floats 0 = .ok (.aload_n 0, 1) := by decide +kernel
theorem dX3_floats_1 : decode cX3_floats 1 = .ok (.iconst 0, 1) := by decide +kernel
theorem dX3_floats_2 : decode cX3_floats 2 = .ok (.putfield 57, 3) := by decide +kernel
theorem dX3_floats_5 : decode cX3_floats 5 = .ok (.aload_n 0, 1) := by decide +kernel
theorem dX3_floats_6 : decode cX3_floats 6 = .ok (.iload_n 1, 1) := by decide +kernel
theorem dX3_floats_7 : decode cX3_floats 7 = .ok (.invokevirtual 78, 3) := by decide +kernel
theorem dX3_floats_10 : decode cX3_floats 10 = .ok (.ifCond .ne 5, 3) := by decide +kernel
theorem dX3_floats_13 : decode cX3_floats 13 = .ok (.iconst 0, 1) := by decide +kernel
theorem dX3_floats_14 : decode cX3_floats 14 = .ok (.ireturn, 1) := by decide +kernel
theorem dX3_floats_15 : decode cX3_floats 15 = .ok (.aload_n 0, 1) := by decide +kernel
theorem dX3_floats_16 : decode cX3_floats 16 = .ok (.getfield 29, 3) := by decide +kernel
theorem dX3_floats_19 : decode cX3_floats 19 = .ok (.iload_n 1, 1) := by decide +kernel
theorem dX3_floats_20 : decode cX3_floats 20 = .ok (.baload, 1) := by decide +kernel
theorem dX3_floats_21 : decode cX3_floats 21 = .ok (.istore_n 3, 1) := by decide +kernel
theorem dX3_floats_22 : decode cX3_floats 22 = .ok (.aload_n 0, 1) := by decide +kernel
theorem dX3_floats_23 : decode cX3_floats 23 = .ok (.getfield 29, 3) := by decide +kernel
theorem dX3_floats_26 : decode cX3_floats 26 = .ok (.iload_n 1, 1) := by decide +kernel
theorem dX3_floats_27 : decode cX3_floats 27 = .ok (.iload_n 2, 1) := by decide +kernel
theorem dX3_floats_28 : decode cX3_floats 28 = .ok (.bastore, 1) := by decide +kernel
theorem dX3_floats_29 : decode cX3_floats 29 = .ok (.iload_n 3, 1) := by decide +kernel
theorem dX3_floats_30 : decode cX3_floats 30 = .ok (.ireturn, 1) := by decide +kernel
theorem dX3_home_0 : decode cX3_home 0 = .ok (.aload_n 0, 1) := by decide +kernel
theorem dX3_home_1 : decode cX3_home 1 = .ok (.iconst 0, 1) := by decide +kernel
theorem dX3_home_2 : decode cX3_home 2 = .ok (.putfield 57, 3) := by decide +kernel
theorem dX3_home_5 : decode cX3_home 5 = .ok (.aload_n 0, 1) := by decide +kernel
theorem dX3_home_6 : decode cX3_home 6 = .ok (.iload_n 1, 1) := by decide +kernel
theorem dX3_home_7 : decode cX3_home 7 = .ok (.invokevirtual 78, 3) := by decide +kernel
theorem dX3_home_10 : decode cX3_home 10 = .ok (.ifCond .eq 12, 3) := by decide +kernel
theorem dX3_home_13 : decode cX3_home 13 = .ok (.aload_n 0, 1) := by decide +kernel
theorem dX3_home_14 : decode cX3_home 14 = .ok (.getfield 20, 3) := by decide +kernel
theorem dX3_home_17 : decode cX3_home 17 = .ok (.iload_n 1, 1) := by decide +kernel
theorem dX3_home_18 : decode cX3_home 18 = .ok (.iaload, 1) := by decide +kernel
theorem dX3_home_19 : decode cX3_home 19 = .ok (.goto 4, 3) := by decide +kernel
theorem dX3_home_22 : decode cX3_home 22 = .ok (.iconst (-1), 1) := by decide +kernel
theorem dX3_home_23 : decode cX3_home 23 = .ok (.ireturn, 1) := by decide +kernel
theorem dX3_owed_0 : decode cX3_owed 0 = .ok (.aload_n 0, 1) := by decide +kernel
theorem dX3_owed_1 : decode cX3_owed 1 = .ok (.iconst 0, 1) := by decide +kernel
theorem dX3_owed_2 : decode cX3_owed 2 = .ok (.putfield 57, 3) := by decide +kernel
theorem dX3_owed_5 : decode cX3_owed 5 = .ok (.aload_n 0, 1) := by decide +kernel
theorem dX3_owed_6 : decode cX3_owed 6 = .ok (.iload_n 1, 1) := by decide +kernel
theorem dX3_owed_7 : decode cX3_owed 7 = .ok (.invokevirtual 78, 3) := by decide +kernel
theorem dX3_owed_10 : decode cX3_owed 10 = .ok (.ifCond .eq 12, 3) := by decide +kernel
theorem dX3_owed_13 : decode cX3_owed 13 = .ok (.aload_n 0, 1) := by decide +kernel
theorem dX3_owed_14 : decode cX3_owed 14 = .ok (.getfield 36, 3) := by decide +kernel
theorem dX3_owed_17 : decode cX3_owed 17 = .ok (.iload_n 1, 1) := by decide +kernel
theorem dX3_owed_18 : decode cX3_owed 18 = .ok (.iaload, 1) := by decide +kernel
theorem dX3_owed_19 : decode cX3_owed 19 = .ok (.goto 4, 3) := by decide +kernel
theorem dX3_owed_22 : decode cX3_owed 22 = .ok (.iconst (-1), 1) := by decide +kernel
theorem dX3_owed_23 : decode cX3_owed 23 = .ok (.ireturn, 1) := by decide +kernel
theorem dX3_history_0 : decode cX3_history 0 = .ok (.aload_n 0, 1) := by decide +kernel
theorem dX3_history_1 : decode cX3_history 1 = .ok (.iconst 0, 1) := by decide +kernel
theorem dX3_history_2 : decode cX3_history 2 = .ok (.putfield 57, 3) := by decide +kernel
theorem dX3_history_5 : decode cX3_history 5 = .ok (.iconst 0, 1) := by decide +kernel
theorem dX3_history_6 : decode cX3_history 6 = .ok (.istore 4, 2) := by decide +kernel
theorem dX3_history_8 : decode cX3_history 8 = .ok (.iconst 0, 1) := by decide +kernel
theorem dX3_history_9 : decode cX3_history 9 = .ok (.istore 5, 2) := by decide +kernel
theorem dX3_history_11 : decode cX3_history 11 = .ok (.iload 5, 2) := by decide +kernel
theorem dX3_history_13 : decode cX3_history 13 = .ok (.aload_n 0, 1) := by decide +kernel
theorem dX3_history_14 : decode cX3_history 14 = .ok (.getfield 75, 3) := by decide +kernel
theorem dX3_history_17 : decode cX3_history 17 = .ok (.if_icmp .ge 80, 3) := by decide +kernel
theorem dX3_history_20 : decode cX3_history 20 = .ok (.iload_n 2, 1) := by decide +kernel
theorem dX3_history_21 : decode cX3_history 21 = .ok (.ifCond .lt 76, 3) := by decide +kernel
theorem dX3_history_24 : decode cX3_history 24 = .ok (.aload_n 0, 1) := by decide +kernel
theorem dX3_history_25 : decode cX3_history 25 = .ok (.iload_n 1, 1) := by decide +kernel
theorem dX3_history_26 : decode cX3_history 26 = .ok (.invokevirtual 78, 3) := by decide +kernel
theorem dX3_history_29 : decode cX3_history 29 = .ok (.ifCond .eq 68, 3) := by decide +kernel
theorem dX3_history_32 : decode cX3_history 32 = .ok (.aload_n 0, 1) := by decide +kernel
theorem dX3_history_33 : decode cX3_history 33 = .ok (.getfield 45, 3) := by decide +kernel
theorem dX3_history_36 : decode cX3_history 36 = .ok (.iload 5, 2) := by decide +kernel
theorem dX3_history_38 : decode cX3_history 38 = .ok (.iaload, 1) := by decide +kernel
theorem dX3_history_39 : decode cX3_history 39 = .ok (.iload_n 1, 1) := by decide +kernel
theorem dX3_history_40 : decode cX3_history 40 = .ok (.if_icmp .ne 51, 3) := by decide +kernel
theorem dX3_history_43 : decode cX3_history 43 = .ok (.iload 4, 2) := by decide +kernel
theorem dX3_history_45 : decode cX3_history 45 = .ok (.iload_n 2, 1) := by decide +kernel
theorem dX3_history_46 : decode cX3_history 46 = .ok (.if_icmp .ne 42, 3) := by decide +kernel
theorem dX3_history_49 : decode cX3_history 49 = .ok (.iload_n 3, 1) := by decide +kernel
theorem dX3_history_50 : decode cX3_history 50 = .ok (.ifCond .ne 13, 3) := by decide +kernel
theorem dX3_history_53 : decode cX3_history 53 = .ok (.aload_n 0, 1) := by decide +kernel
theorem dX3_history_54 : decode cX3_history 54 = .ok (.getfield 48, 3) := by decide +kernel
theorem dX3_history_57 : decode cX3_history 57 = .ok (.iload 5, 2) := by decide +kernel
theorem dX3_history_59 : decode cX3_history 59 = .ok (.iaload, 1) := by decide +kernel
theorem dX3_history_60 : decode cX3_history 60 = .ok (.goto 27, 3) := by decide +kernel
theorem dX3_history_63 : decode cX3_history 63 = .ok (.iload_n 3, 1) := by decide +kernel
theorem dX3_history_64 : decode cX3_history 64 = .ok (.iconst 1, 1) := by decide +kernel
theorem dX3_history_65 : decode cX3_history 65 = .ok (.if_icmp .ne 21, 3) := by decide +kernel
theorem dX3_history_68 : decode cX3_history 68 = .ok (.aload_n 0, 1) := by decide +kernel
theorem dX3_history_69 : decode cX3_history 69 = .ok (.getfield 51, 3) := by decide +kernel
theorem dX3_history_72 : decode cX3_history 72 = .ok (.iload 5, 2) := by decide +kernel
theorem dX3_history_74 : decode cX3_history 74 = .ok (.baload, 1) := by decide +kernel
theorem dX3_history_75 : decode cX3_history 75 = .ok (.ifCond .eq 7, 3) := by decide +kernel
theorem dX3_history_78 : decode cX3_history 78 = .ok (.iconst 1, 1) := by decide +kernel
theorem dX3_history_79 : decode cX3_history 79 = .ok (.goto 8, 3) := by decide +kernel
theorem dX3_history_82 : decode cX3_history 82 = .ok (.iconst 0, 1) := by decide +kernel
theorem dX3_history_83 : decode cX3_history 83 = .ok (.goto 4, 3) := by decide +kernel
theorem dX3_history_86 : decode cX3_history 86 = .ok (.iconst (-1), 1) := by decide +kernel
theorem dX3_history_87 : decode cX3_history 87 = .ok (.ireturn, 1) := by decide +kernel
theorem dX3_history_88 : decode cX3_history 88 = .ok (.iinc 4 1, 3) := by decide +kernel
theorem dX3_history_91 : decode cX3_history 91 = .ok (.iinc 5 1, 3) := by decide +kernel
theorem dX3_history_94 : decode cX3_history 94 = .ok (.goto (-83), 3) := by decide +kernel
theorem dX3_history_97 : decode cX3_history 97 = .ok (.iconst (-1), 1) := by decide +kernel
theorem dX3_history_98 : decode cX3_history 98 = .ok (.ireturn, 1) := by decide +kernel
theorem dX3_count_0 : decode cX3_count 0 = .ok (.aload_n 0, 1) := by decide +kernel
theorem dX3_count_1 : decode cX3_count 1 = .ok (.iconst 0, 1) := by decide +kernel
theorem dX3_count_2 : decode cX3_count 2 = .ok (.putfield 57, 3) := by decide +kernel
theorem dX3_count_5 : decode cX3_count 5 = .ok (.iconst 0, 1) := by decide +kernel
theorem dX3_count_6 : decode cX3_count 6 = .ok (.istore_n 3, 1) := by decide +kernel
theorem dX3_count_7 : decode cX3_count 7 = .ok (.iconst 1, 1) := by decide +kernel
theorem dX3_count_8 : decode cX3_count 8 = .ok (.istore 4, 2) := by decide +kernel
theorem dX3_count_10 : decode cX3_count 10 = .ok (.iload 4, 2) := by decide +kernel
theorem dX3_count_12 : decode cX3_count 12 = .ok (.aload_n 0, 1) := by decide +kernel
theorem dX3_count_13 : decode cX3_count 13 = .ok (.getfield 71, 3) := by decide +kernel
theorem dX3_count_16 : decode cX3_count 16 = .ok (.if_icmp .gt 44, 3) := by decide +kernel
theorem dX3_count_19 : decode cX3_count 19 = .ok (.iload_n 3, 1) := by decide +kernel
theorem dX3_count_20 : decode cX3_count 20 = .ok (.aload_n 0, 1) := by decide +kernel
theorem dX3_count_21 : decode cX3_count 21 = .ok (.getfield 26, 3) := by decide +kernel
theorem dX3_count_24 : decode cX3_count 24 = .ok (.iload 4, 2) := by decide +kernel
theorem dX3_count_26 : decode cX3_count 26 = .ok (.iaload, 1) := by decide +kernel
theorem dX3_count_27 : decode cX3_count 27 = .ok (.iload_n 1, 1) := by decide +kernel
theorem dX3_count_28 : decode cX3_count 28 = .ok (.if_icmp .ne 23, 3) := by decide +kernel
theorem dX3_count_31 : decode cX3_count 31 = .ok (.iload_n 2, 1) := by decide +kernel
theorem dX3_count_32 : decode cX3_count 32 = .ok (.iconst (-1), 1) := by decide +kernel
theorem dX3_count_33 : decode cX3_count 33 = .ok (.if_icmp .eq 14, 3) := by decide +kernel
theorem dX3_count_36 : decode cX3_count 36 = .ok (.aload_n 0, 1) := by decide +kernel
theorem dX3_count_37 : decode cX3_count 37 = .ok (.getfield 20, 3) := by decide +kernel
theorem dX3_count_40 : decode cX3_count 40 = .ok (.iload 4, 2) := by decide +kernel
theorem dX3_count_42 : decode cX3_count 42 = .ok (.iaload, 1) := by decide +kernel
theorem dX3_count_43 : decode cX3_count 43 = .ok (.iload_n 2, 1) := by decide +kernel
theorem dX3_count_44 : decode cX3_count 44 = .ok (.if_icmp .ne 7, 3) := by decide +kernel
theorem dX3_count_47 : decode cX3_count 47 = .ok (.iconst 1, 1) := by decide +kernel
theorem dX3_count_48 : decode cX3_count 48 = .ok (.goto 4, 3) := by decide +kernel
theorem dX3_count_51 : decode cX3_count 51 = .ok (.iconst 0, 1) := by decide +kernel
theorem dX3_count_52 : decode cX3_count 52 = .ok (.iadd, 1) := by decide +kernel
theorem dX3_count_53 : decode cX3_count 53 = .ok (.istore_n 3, 1) := by decide +kernel
theorem dX3_count_54 : decode cX3_count 54 = .ok (.iinc 4 1, 3) := by decide +kernel
theorem dX3_count_57 : decode cX3_count 57 = .ok (.goto (-47), 3) := by decide +kernel
theorem dX3_count_60 : decode cX3_count 60 = .ok (.iload_n 3, 1) := by decide +kernel
theorem dX3_count_61 : decode cX3_count 61 = .ok (.ireturn, 1) := by decide +kernel
theorem dL_law_0 : decode code 0 = .ok (.new 7, 3) := by decide +kernel
theorem dL_law_3 : decode code 3 = .ok (.dup, 1) := by decide +kernel
theorem dL_law_4 : decode code 4 = .ok (.invokespecial 9, 3) := by decide +kernel
theorem dL_law_7 : decode code 7 = .ok (.astore_n 1, 1) := by decide +kernel
theorem dL_law_8 : decode code 8 = .ok (.new 10, 3) := by decide +kernel
theorem dL_law_11 : decode code 11 = .ok (.dup, 1) := by decide +kernel
theorem dL_law_12 : decode code 12 = .ok (.invokespecial 12, 3) := by decide +kernel
theorem dL_law_15 : decode code 15 = .ok (.astore_n 2, 1) := by decide +kernel
theorem dL_law_16 : decode code 16 = .ok (.iconst 0, 1) := by decide +kernel
theorem dL_law_17 : decode code 17 = .ok (.istore_n 3, 1) := by decide +kernel
theorem dL_law_18 : decode code 18 = .ok (.iload_n 3, 1) := by decide +kernel
theorem dL_law_19 : decode code 19 = .ok (.aload_n 0, 1) := by decide +kernel
theorem dL_law_20 : decode code 20 = .ok (.arraylength, 1) := by decide +kernel
theorem dL_law_21 : decode code 21 = .ok (.bipush 6, 2) := by decide +kernel
theorem dL_law_23 : decode code 23 = .ok (.isub, 1) := by decide +kernel
theorem dL_law_24 : decode code 24 = .ok (.if_icmp .gt 693, 3) := by decide +kernel
theorem dL_law_27 : decode code 27 = .ok (.aload_n 0, 1) := by decide +kernel
theorem dL_law_28 : decode code 28 = .ok (.iload_n 3, 1) := by decide +kernel
theorem dL_law_29 : decode code 29 = .ok (.iaload, 1) := by decide +kernel
theorem dL_law_30 : decode code 30 = .ok (.bipush 15, 2) := by decide +kernel
theorem dL_law_32 : decode code 32 = .ok (.iand, 1) := by decide +kernel
theorem dL_law_33 : decode code 33 = .ok (.tableswitch 678 0 12 #[67, 130, 213, 272, 305, 388, 451, 474, 523, 546, 579, 602, 645], 67) := by decide +kernel
theorem dL_law_100 : decode code 100 = .ok (.aload_n 1, 1) := by decide +kernel
theorem dL_law_101 : decode code 101 = .ok (.aload_n 0, 1) := by decide +kernel
theorem dL_law_102 : decode code 102 = .ok (.iload_n 3, 1) := by decide +kernel
theorem dL_law_103 : decode code 103 = .ok (.iconst 1, 1) := by decide +kernel
theorem dL_law_104 : decode code 104 = .ok (.iadd, 1) := by decide +kernel
theorem dL_law_105 : decode code 105 = .ok (.iaload, 1) := by decide +kernel
theorem dL_law_106 : decode code 106 = .ok (.i2l, 1) := by decide +kernel
theorem dL_law_107 : decode code 107 = .ok (.bipush 32, 2) := by decide +kernel
theorem dL_law_109 : decode code 109 = .ok (.lshl, 1) := by decide +kernel
theorem dL_law_110 : decode code 110 = .ok (.aload_n 0, 1) := by decide +kernel
theorem dL_law_111 : decode code 111 = .ok (.iload_n 3, 1) := by decide +kernel
theorem dL_law_112 : decode code 112 = .ok (.iconst 2, 1) := by decide +kernel
theorem dL_law_113 : decode code 113 = .ok (.iadd, 1) := by decide +kernel
theorem dL_law_114 : decode code 114 = .ok (.iaload, 1) := by decide +kernel
theorem dL_law_115 : decode code 115 = .ok (.i2l, 1) := by decide +kernel
theorem dL_law_116 : decode code 116 = .ok (.ldc2_w 13, 3) := by decide +kernel
theorem dL_law_119 : decode code 119 = .ok (.land, 1) := by decide +kernel
theorem dL_law_120 : decode code 120 = .ok (.lor, 1) := by decide +kernel
theorem dL_law_121 : decode code 121 = .ok (.aload_n 0, 1) := by decide +kernel
theorem dL_law_122 : decode code 122 = .ok (.iload_n 3, 1) := by decide +kernel
theorem dL_law_123 : decode code 123 = .ok (.iconst 3, 1) := by decide +kernel
theorem dL_law_124 : decode code 124 = .ok (.iadd, 1) := by decide +kernel
theorem dL_law_125 : decode code 125 = .ok (.iaload, 1) := by decide +kernel
theorem dL_law_126 : decode code 126 = .ok (.invokevirtual 15, 3) := by decide +kernel
theorem dL_law_129 : decode code 129 = .ok (.aload_n 2, 1) := by decide +kernel
theorem dL_law_130 : decode code 130 = .ok (.aload_n 0, 1) := by decide +kernel
theorem dL_law_131 : decode code 131 = .ok (.iload_n 3, 1) := by decide +kernel
theorem dL_law_132 : decode code 132 = .ok (.iconst 1, 1) := by decide +kernel
theorem dL_law_133 : decode code 133 = .ok (.iadd, 1) := by decide +kernel
theorem dL_law_134 : decode code 134 = .ok (.iaload, 1) := by decide +kernel
theorem dL_law_135 : decode code 135 = .ok (.i2l, 1) := by decide +kernel
theorem dL_law_136 : decode code 136 = .ok (.bipush 32, 2) := by decide +kernel
theorem dL_law_138 : decode code 138 = .ok (.lshl, 1) := by decide +kernel
theorem dL_law_139 : decode code 139 = .ok (.aload_n 0, 1) := by decide +kernel
theorem dL_law_140 : decode code 140 = .ok (.iload_n 3, 1) := by decide +kernel
theorem dL_law_141 : decode code 141 = .ok (.iconst 2, 1) := by decide +kernel
theorem dL_law_142 : decode code 142 = .ok (.iadd, 1) := by decide +kernel
theorem dL_law_143 : decode code 143 = .ok (.iaload, 1) := by decide +kernel
theorem dL_law_144 : decode code 144 = .ok (.i2l, 1) := by decide +kernel
theorem dL_law_145 : decode code 145 = .ok (.ldc2_w 13, 3) := by decide +kernel
theorem dL_law_148 : decode code 148 = .ok (.land, 1) := by decide +kernel
theorem dL_law_149 : decode code 149 = .ok (.lor, 1) := by decide +kernel
theorem dL_law_150 : decode code 150 = .ok (.aload_n 0, 1) := by decide +kernel
theorem dL_law_151 : decode code 151 = .ok (.iload_n 3, 1) := by decide +kernel
theorem dL_law_152 : decode code 152 = .ok (.iconst 3, 1) := by decide +kernel
theorem dL_law_153 : decode code 153 = .ok (.iadd, 1) := by decide +kernel
theorem dL_law_154 : decode code 154 = .ok (.iaload, 1) := by decide +kernel
theorem dL_law_155 : decode code 155 = .ok (.invokevirtual 19, 3) := by decide +kernel
theorem dL_law_158 : decode code 158 = .ok (.if_icmp .eq 553, 3) := by decide +kernel
theorem dL_law_161 : decode code 161 = .ok (.iconst 0, 1) := by decide +kernel
theorem dL_law_162 : decode code 162 = .ok (.ireturn, 1) := by decide +kernel
theorem dL_law_163 : decode code 163 = .ok (.aload_n 1, 1) := by decide +kernel
theorem dL_law_164 : decode code 164 = .ok (.aload_n 0, 1) := by decide +kernel
theorem dL_law_165 : decode code 165 = .ok (.iload_n 3, 1) := by decide +kernel
theorem dL_law_166 : decode code 166 = .ok (.iconst 1, 1) := by decide +kernel
theorem dL_law_167 : decode code 167 = .ok (.iadd, 1) := by decide +kernel
theorem dL_law_168 : decode code 168 = .ok (.iaload, 1) := by decide +kernel
theorem dL_law_169 : decode code 169 = .ok (.aload_n 0, 1) := by decide +kernel
theorem dL_law_170 : decode code 170 = .ok (.iload_n 3, 1) := by decide +kernel
theorem dL_law_171 : decode code 171 = .ok (.iconst 2, 1) := by decide +kernel
theorem dL_law_172 : decode code 172 = .ok (.iadd, 1) := by decide +kernel
theorem dL_law_173 : decode code 173 = .ok (.iaload, 1) := by decide +kernel
theorem dL_law_174 : decode code 174 = .ok (.i2l, 1) := by decide +kernel
theorem dL_law_175 : decode code 175 = .ok (.bipush 32, 2) := by decide +kernel
theorem dL_law_177 : decode code 177 = .ok (.lshl, 1) := by decide +kernel
theorem dL_law_178 : decode code 178 = .ok (.aload_n 0, 1) := by decide +kernel
theorem dL_law_179 : decode code 179 = .ok (.iload_n 3, 1) := by decide +kernel
theorem dL_law_180 : decode code 180 = .ok (.iconst 3, 1) := by decide +kernel
theorem dL_law_181 : decode code 181 = .ok (.iadd, 1) := by decide +kernel
theorem dL_law_182 : decode code 182 = .ok (.iaload, 1) := by decide +kernel
theorem dL_law_183 : decode code 183 = .ok (.i2l, 1) := by decide +kernel
theorem dL_law_184 : decode code 184 = .ok (.ldc2_w 13, 3) := by decide +kernel
theorem dL_law_187 : decode code 187 = .ok (.land, 1) := by decide +kernel
theorem dL_law_188 : decode code 188 = .ok (.lor, 1) := by decide +kernel
theorem dL_law_189 : decode code 189 = .ok (.aload_n 0, 1) := by decide +kernel
theorem dL_law_190 : decode code 190 = .ok (.iload_n 3, 1) := by decide +kernel
theorem dL_law_191 : decode code 191 = .ok (.iconst 4, 1) := by decide +kernel
theorem dL_law_192 : decode code 192 = .ok (.iadd, 1) := by decide +kernel
theorem dL_law_193 : decode code 193 = .ok (.iaload, 1) := by decide +kernel
theorem dL_law_194 : decode code 194 = .ok (.aload_n 0, 1) := by decide +kernel
theorem dL_law_195 : decode code 195 = .ok (.iload_n 3, 1) := by decide +kernel
theorem dL_law_196 : decode code 196 = .ok (.iconst 5, 1) := by decide +kernel
theorem dL_law_197 : decode code 197 = .ok (.iadd, 1) := by decide +kernel
theorem dL_law_198 : decode code 198 = .ok (.iaload, 1) := by decide +kernel
theorem dL_law_199 : decode code 199 = .ok (.invokevirtual 20, 3) := by decide +kernel
theorem dL_law_202 : decode code 202 = .ok (.aload_n 2, 1) := by decide +kernel
theorem dL_law_203 : decode code 203 = .ok (.aload_n 0, 1) := by decide +kernel
theorem dL_law_204 : decode code 204 = .ok (.iload_n 3, 1) := by decide +kernel
theorem dL_law_205 : decode code 205 = .ok (.iconst 1, 1) := by decide +kernel
theorem dL_law_206 : decode code 206 = .ok (.iadd, 1) := by decide +kernel
theorem dL_law_207 : decode code 207 = .ok (.iaload, 1) := by decide +kernel
theorem dL_law_208 : decode code 208 = .ok (.aload_n 0, 1) := by decide +kernel
theorem dL_law_209 : decode code 209 = .ok (.iload_n 3, 1) := by decide +kernel
theorem dL_law_210 : decode code 210 = .ok (.iconst 2, 1) := by decide +kernel
theorem dL_law_211 : decode code 211 = .ok (.iadd, 1) := by decide +kernel
theorem dL_law_212 : decode code 212 = .ok (.iaload, 1) := by decide +kernel
theorem dL_law_213 : decode code 213 = .ok (.i2l, 1) := by decide +kernel
theorem dL_law_214 : decode code 214 = .ok (.bipush 32, 2) := by decide +kernel
theorem dL_law_216 : decode code 216 = .ok (.lshl, 1) := by decide +kernel
theorem dL_law_217 : decode code 217 = .ok (.aload_n 0, 1) := by decide +kernel
theorem dL_law_218 : decode code 218 = .ok (.iload_n 3, 1) := by decide +kernel
theorem dL_law_219 : decode code 219 = .ok (.iconst 3, 1) := by decide +kernel
theorem dL_law_220 : decode code 220 = .ok (.iadd, 1) := by decide +kernel
theorem dL_law_221 : decode code 221 = .ok (.iaload, 1) := by decide +kernel
theorem dL_law_222 : decode code 222 = .ok (.i2l, 1) := by decide +kernel
theorem dL_law_223 : decode code 223 = .ok (.ldc2_w 13, 3) := by decide +kernel
theorem dL_law_226 : decode code 226 = .ok (.land, 1) := by decide +kernel
theorem dL_law_227 : decode code 227 = .ok (.lor, 1) := by decide +kernel
theorem dL_law_228 : decode code 228 = .ok (.aload_n 0, 1) := by decide +kernel
theorem dL_law_229 : decode code 229 = .ok (.iload_n 3, 1) := by decide +kernel
theorem dL_law_230 : decode code 230 = .ok (.iconst 4, 1) := by decide +kernel
theorem dL_law_231 : decode code 231 = .ok (.iadd, 1) := by decide +kernel
theorem dL_law_232 : decode code 232 = .ok (.iaload, 1) := by decide +kernel
theorem dL_law_233 : decode code 233 = .ok (.aload_n 0, 1) := by decide +kernel
theorem dL_law_234 : decode code 234 = .ok (.iload_n 3, 1) := by decide +kernel
theorem dL_law_235 : decode code 235 = .ok (.iconst 5, 1) := by decide +kernel
theorem dL_law_236 : decode code 236 = .ok (.iadd, 1) := by decide +kernel
theorem dL_law_237 : decode code 237 = .ok (.iaload, 1) := by decide +kernel
theorem dL_law_238 : decode code 238 = .ok (.invokevirtual 24, 3) := by decide +kernel
theorem dL_law_241 : decode code 241 = .ok (.if_icmp .eq 470, 3) := by decide +kernel
theorem dL_law_244 : decode code 244 = .ok (.iconst 0, 1) := by decide +kernel
theorem dL_law_245 : decode code 245 = .ok (.ireturn, 1) := by decide +kernel
theorem dL_law_246 : decode code 246 = .ok (.aload_n 1, 1) := by decide +kernel
theorem dL_law_247 : decode code 247 = .ok (.aload_n 0, 1) := by decide +kernel
theorem dL_law_248 : decode code 248 = .ok (.iload_n 3, 1) := by decide +kernel
theorem dL_law_249 : decode code 249 = .ok (.iconst 1, 1) := by decide +kernel
theorem dL_law_250 : decode code 250 = .ok (.iadd, 1) := by decide +kernel
theorem dL_law_251 : decode code 251 = .ok (.iaload, 1) := by decide +kernel
theorem dL_law_252 : decode code 252 = .ok (.aload_n 0, 1) := by decide +kernel
theorem dL_law_253 : decode code 253 = .ok (.iload_n 3, 1) := by decide +kernel
theorem dL_law_254 : decode code 254 = .ok (.iconst 2, 1) := by decide +kernel
theorem dL_law_255 : decode code 255 = .ok (.iadd, 1) := by decide +kernel
theorem dL_law_256 : decode code 256 = .ok (.iaload, 1) := by decide +kernel
theorem dL_law_257 : decode code 257 = .ok (.aload_n 0, 1) := by decide +kernel
theorem dL_law_258 : decode code 258 = .ok (.iload_n 3, 1) := by decide +kernel
theorem dL_law_259 : decode code 259 = .ok (.iconst 3, 1) := by decide +kernel
theorem dL_law_260 : decode code 260 = .ok (.iadd, 1) := by decide +kernel
theorem dL_law_261 : decode code 261 = .ok (.iaload, 1) := by decide +kernel
theorem dL_law_262 : decode code 262 = .ok (.ifCond .eq 7, 3) := by decide +kernel
theorem dL_law_265 : decode code 265 = .ok (.iconst 1, 1) := by decide +kernel
theorem dL_law_266 : decode code 266 = .ok (.goto 4, 3) := by decide +kernel
theorem dL_law_269 : decode code 269 = .ok (.iconst 0, 1) := by decide +kernel
theorem dL_law_270 : decode code 270 = .ok (.invokevirtual 25, 3) := by decide +kernel
theorem dL_law_273 : decode code 273 = .ok (.aload_n 2, 1) := by decide +kernel
theorem dL_law_274 : decode code 274 = .ok (.aload_n 0, 1) := by decide +kernel
theorem dL_law_275 : decode code 275 = .ok (.iload_n 3, 1) := by decide +kernel
theorem dL_law_276 : decode code 276 = .ok (.iconst 1, 1) := by decide +kernel
theorem dL_law_277 : decode code 277 = .ok (.iadd, 1) := by decide +kernel
theorem dL_law_278 : decode code 278 = .ok (.iaload, 1) := by decide +kernel
theorem dL_law_279 : decode code 279 = .ok (.aload_n 0, 1) := by decide +kernel
theorem dL_law_280 : decode code 280 = .ok (.iload_n 3, 1) := by decide +kernel
theorem dL_law_281 : decode code 281 = .ok (.iconst 2, 1) := by decide +kernel
theorem dL_law_282 : decode code 282 = .ok (.iadd, 1) := by decide +kernel
theorem dL_law_283 : decode code 283 = .ok (.iaload, 1) := by decide +kernel
theorem dL_law_284 : decode code 284 = .ok (.aload_n 0, 1) := by decide +kernel
theorem dL_law_285 : decode code 285 = .ok (.iload_n 3, 1) := by decide +kernel
theorem dL_law_286 : decode code 286 = .ok (.iconst 3, 1) := by decide +kernel
theorem dL_law_287 : decode code 287 = .ok (.iadd, 1) := by decide +kernel
theorem dL_law_288 : decode code 288 = .ok (.iaload, 1) := by decide +kernel
theorem dL_law_289 : decode code 289 = .ok (.ifCond .eq 7, 3) := by decide +kernel
theorem dL_law_292 : decode code 292 = .ok (.iconst 1, 1) := by decide +kernel
theorem dL_law_293 : decode code 293 = .ok (.goto 4, 3) := by decide +kernel
theorem dL_law_296 : decode code 296 = .ok (.iconst 0, 1) := by decide +kernel
theorem dL_law_297 : decode code 297 = .ok (.invokevirtual 29, 3) := by decide +kernel
theorem dL_law_300 : decode code 300 = .ok (.if_icmp .eq 411, 3) := by decide +kernel
theorem dL_law_303 : decode code 303 = .ok (.iconst 0, 1) := by decide +kernel
theorem dL_law_304 : decode code 304 = .ok (.ireturn, 1) := by decide +kernel
theorem dL_law_305 : decode code 305 = .ok (.aload_n 1, 1) := by decide +kernel
theorem dL_law_306 : decode code 306 = .ok (.aload_n 0, 1) := by decide +kernel
theorem dL_law_307 : decode code 307 = .ok (.iload_n 3, 1) := by decide +kernel
theorem dL_law_308 : decode code 308 = .ok (.iconst 1, 1) := by decide +kernel
theorem dL_law_309 : decode code 309 = .ok (.iadd, 1) := by decide +kernel
theorem dL_law_310 : decode code 310 = .ok (.iaload, 1) := by decide +kernel
theorem dL_law_311 : decode code 311 = .ok (.aload_n 0, 1) := by decide +kernel
theorem dL_law_312 : decode code 312 = .ok (.iload_n 3, 1) := by decide +kernel
theorem dL_law_313 : decode code 313 = .ok (.iconst 2, 1) := by decide +kernel
theorem dL_law_314 : decode code 314 = .ok (.iadd, 1) := by decide +kernel
theorem dL_law_315 : decode code 315 = .ok (.iaload, 1) := by decide +kernel
theorem dL_law_316 : decode code 316 = .ok (.invokevirtual 30, 3) := by decide +kernel
theorem dL_law_319 : decode code 319 = .ok (.aload_n 2, 1) := by decide +kernel
theorem dL_law_320 : decode code 320 = .ok (.aload_n 0, 1) := by decide +kernel
theorem dL_law_321 : decode code 321 = .ok (.iload_n 3, 1) := by decide +kernel
theorem dL_law_322 : decode code 322 = .ok (.iconst 1, 1) := by decide +kernel
theorem dL_law_323 : decode code 323 = .ok (.iadd, 1) := by decide +kernel
theorem dL_law_324 : decode code 324 = .ok (.iaload, 1) := by decide +kernel
theorem dL_law_325 : decode code 325 = .ok (.aload_n 0, 1) := by decide +kernel
theorem dL_law_326 : decode code 326 = .ok (.iload_n 3, 1) := by decide +kernel
theorem dL_law_327 : decode code 327 = .ok (.iconst 2, 1) := by decide +kernel
theorem dL_law_328 : decode code 328 = .ok (.iadd, 1) := by decide +kernel
theorem dL_law_329 : decode code 329 = .ok (.iaload, 1) := by decide +kernel
theorem dL_law_330 : decode code 330 = .ok (.invokevirtual 34, 3) := by decide +kernel
theorem dL_law_333 : decode code 333 = .ok (.if_icmp .eq 378, 3) := by decide +kernel
theorem dL_law_336 : decode code 336 = .ok (.iconst 0, 1) := by decide +kernel
theorem dL_law_337 : decode code 337 = .ok (.ireturn, 1) := by decide +kernel
theorem dL_law_338 : decode code 338 = .ok (.aload_n 1, 1) := by decide +kernel
theorem dL_law_339 : decode code 339 = .ok (.aload_n 0, 1) := by decide +kernel
theorem dL_law_340 : decode code 340 = .ok (.iload_n 3, 1) := by decide +kernel
theorem dL_law_341 : decode code 341 = .ok (.iconst 1, 1) := by decide +kernel
theorem dL_law_342 : decode code 342 = .ok (.iadd, 1) := by decide +kernel
theorem dL_law_343 : decode code 343 = .ok (.iaload, 1) := by decide +kernel
theorem dL_law_344 : decode code 344 = .ok (.aload_n 0, 1) := by decide +kernel
theorem dL_law_345 : decode code 345 = .ok (.iload_n 3, 1) := by decide +kernel
theorem dL_law_346 : decode code 346 = .ok (.iconst 2, 1) := by decide +kernel
theorem dL_law_347 : decode code 347 = .ok (.iadd, 1) := by decide +kernel
theorem dL_law_348 : decode code 348 = .ok (.iaload, 1) := by decide +kernel
theorem dL_law_349 : decode code 349 = .ok (.aload_n 0, 1) := by decide +kernel
theorem dL_law_350 : decode code 350 = .ok (.iload_n 3, 1) := by decide +kernel
theorem dL_law_351 : decode code 351 = .ok (.iconst 3, 1) := by decide +kernel
theorem dL_law_352 : decode code 352 = .ok (.iadd, 1) := by decide +kernel
theorem dL_law_353 : decode code 353 = .ok (.iaload, 1) := by decide +kernel
theorem dL_law_354 : decode code 354 = .ok (.aload_n 0, 1) := by decide +kernel
theorem dL_law_355 : decode code 355 = .ok (.iload_n 3, 1) := by decide +kernel
theorem dL_law_356 : decode code 356 = .ok (.iconst 4, 1) := by decide +kernel
theorem dL_law_357 : decode code 357 = .ok (.iadd, 1) := by decide +kernel
theorem dL_law_358 : decode code 358 = .ok (.iaload, 1) := by decide +kernel
theorem dL_law_359 : decode code 359 = .ok (.i2l, 1) := by decide +kernel
theorem dL_law_360 : decode code 360 = .ok (.bipush 32, 2) := by decide +kernel
theorem dL_law_362 : decode code 362 = .ok (.lshl, 1) := by decide +kernel
theorem dL_law_363 : decode code 363 = .ok (.aload_n 0, 1) := by decide +kernel
theorem dL_law_364 : decode code 364 = .ok (.iload_n 3, 1) := by decide +kernel
theorem dL_law_365 : decode code 365 = .ok (.iconst 5, 1) := by decide +kernel
theorem dL_law_366 : decode code 366 = .ok (.iadd, 1) := by decide +kernel
theorem dL_law_367 : decode code 367 = .ok (.iaload, 1) := by decide +kernel
theorem dL_law_368 : decode code 368 = .ok (.i2l, 1) := by decide +kernel
theorem dL_law_369 : decode code 369 = .ok (.ldc2_w 13, 3) := by decide +kernel
theorem dL_law_372 : decode code 372 = .ok (.land, 1) := by decide +kernel
theorem dL_law_373 : decode code 373 = .ok (.lor, 1) := by decide +kernel
theorem dL_law_374 : decode code 374 = .ok (.invokevirtual 35, 3) := by decide +kernel
theorem dL_law_377 : decode code 377 = .ok (.aload_n 2, 1) := by decide +kernel
theorem dL_law_378 : decode code 378 = .ok (.aload_n 0, 1) := by decide +kernel
theorem dL_law_379 : decode code 379 = .ok (.iload_n 3, 1) := by decide +kernel
theorem dL_law_380 : decode code 380 = .ok (.iconst 1, 1) := by decide +kernel
theorem dL_law_381 : decode code 381 = .ok (.iadd, 1) := by decide +kernel
theorem dL_law_382 : decode code 382 = .ok (.iaload, 1) := by decide +kernel
theorem dL_law_383 : decode code 383 = .ok (.aload_n 0, 1) := by decide +kernel
theorem dL_law_384 : decode code 384 = .ok (.iload_n 3, 1) := by decide +kernel
theorem dL_law_385 : decode code 385 = .ok (.iconst 2, 1) := by decide +kernel
theorem dL_law_386 : decode code 386 = .ok (.iadd, 1) := by decide +kernel
theorem dL_law_387 : decode code 387 = .ok (.iaload, 1) := by decide +kernel
theorem dL_law_388 : decode code 388 = .ok (.aload_n 0, 1) := by decide +kernel
theorem dL_law_389 : decode code 389 = .ok (.iload_n 3, 1) := by decide +kernel
theorem dL_law_390 : decode code 390 = .ok (.iconst 3, 1) := by decide +kernel
theorem dL_law_391 : decode code 391 = .ok (.iadd, 1) := by decide +kernel
theorem dL_law_392 : decode code 392 = .ok (.iaload, 1) := by decide +kernel
theorem dL_law_393 : decode code 393 = .ok (.aload_n 0, 1) := by decide +kernel
theorem dL_law_394 : decode code 394 = .ok (.iload_n 3, 1) := by decide +kernel
theorem dL_law_395 : decode code 395 = .ok (.iconst 4, 1) := by decide +kernel
theorem dL_law_396 : decode code 396 = .ok (.iadd, 1) := by decide +kernel
theorem dL_law_397 : decode code 397 = .ok (.iaload, 1) := by decide +kernel
theorem dL_law_398 : decode code 398 = .ok (.i2l, 1) := by decide +kernel
theorem dL_law_399 : decode code 399 = .ok (.bipush 32, 2) := by decide +kernel
theorem dL_law_401 : decode code 401 = .ok (.lshl, 1) := by decide +kernel
theorem dL_law_402 : decode code 402 = .ok (.aload_n 0, 1) := by decide +kernel
theorem dL_law_403 : decode code 403 = .ok (.iload_n 3, 1) := by decide +kernel
theorem dL_law_404 : decode code 404 = .ok (.iconst 5, 1) := by decide +kernel
theorem dL_law_405 : decode code 405 = .ok (.iadd, 1) := by decide +kernel
theorem dL_law_406 : decode code 406 = .ok (.iaload, 1) := by decide +kernel
theorem dL_law_407 : decode code 407 = .ok (.i2l, 1) := by decide +kernel
theorem dL_law_408 : decode code 408 = .ok (.ldc2_w 13, 3) := by decide +kernel
theorem dL_law_411 : decode code 411 = .ok (.land, 1) := by decide +kernel
theorem dL_law_412 : decode code 412 = .ok (.lor, 1) := by decide +kernel
theorem dL_law_413 : decode code 413 = .ok (.invokevirtual 39, 3) := by decide +kernel
theorem dL_law_416 : decode code 416 = .ok (.if_icmp .eq 295, 3) := by decide +kernel
theorem dL_law_419 : decode code 419 = .ok (.iconst 0, 1) := by decide +kernel
theorem dL_law_420 : decode code 420 = .ok (.ireturn, 1) := by decide +kernel
theorem dL_law_421 : decode code 421 = .ok (.aload_n 1, 1) := by decide +kernel
theorem dL_law_422 : decode code 422 = .ok (.aload_n 0, 1) := by decide +kernel
theorem dL_law_423 : decode code 423 = .ok (.iload_n 3, 1) := by decide +kernel
theorem dL_law_424 : decode code 424 = .ok (.iconst 1, 1) := by decide +kernel
theorem dL_law_425 : decode code 425 = .ok (.iadd, 1) := by decide +kernel
theorem dL_law_426 : decode code 426 = .ok (.iaload, 1) := by decide +kernel
theorem dL_law_427 : decode code 427 = .ok (.aload_n 0, 1) := by decide +kernel
theorem dL_law_428 : decode code 428 = .ok (.iload_n 3, 1) := by decide +kernel
theorem dL_law_429 : decode code 429 = .ok (.iconst 2, 1) := by decide +kernel
theorem dL_law_430 : decode code 430 = .ok (.iadd, 1) := by decide +kernel
theorem dL_law_431 : decode code 431 = .ok (.iaload, 1) := by decide +kernel
theorem dL_law_432 : decode code 432 = .ok (.i2l, 1) := by decide +kernel
theorem dL_law_433 : decode code 433 = .ok (.bipush 32, 2) := by decide +kernel
theorem dL_law_435 : decode code 435 = .ok (.lshl, 1) := by decide +kernel
theorem dL_law_436 : decode code 436 = .ok (.aload_n 0, 1) := by decide +kernel
theorem dL_law_437 : decode code 437 = .ok (.iload_n 3, 1) := by decide +kernel
theorem dL_law_438 : decode code 438 = .ok (.iconst 3, 1) := by decide +kernel
theorem dL_law_439 : decode code 439 = .ok (.iadd, 1) := by decide +kernel
theorem dL_law_440 : decode code 440 = .ok (.iaload, 1) := by decide +kernel
theorem dL_law_441 : decode code 441 = .ok (.i2l, 1) := by decide +kernel
theorem dL_law_442 : decode code 442 = .ok (.ldc2_w 13, 3) := by decide +kernel
theorem dL_law_445 : decode code 445 = .ok (.land, 1) := by decide +kernel
theorem dL_law_446 : decode code 446 = .ok (.lor, 1) := by decide +kernel
theorem dL_law_447 : decode code 447 = .ok (.invokevirtual 40, 3) := by decide +kernel
theorem dL_law_450 : decode code 450 = .ok (.aload_n 2, 1) := by decide +kernel
theorem dL_law_451 : decode code 451 = .ok (.aload_n 0, 1) := by decide +kernel
theorem dL_law_452 : decode code 452 = .ok (.iload_n 3, 1) := by decide +kernel
theorem dL_law_453 : decode code 453 = .ok (.iconst 1, 1) := by decide +kernel
theorem dL_law_454 : decode code 454 = .ok (.iadd, 1) := by decide +kernel
theorem dL_law_455 : decode code 455 = .ok (.iaload, 1) := by decide +kernel
theorem dL_law_456 : decode code 456 = .ok (.aload_n 0, 1) := by decide +kernel
theorem dL_law_457 : decode code 457 = .ok (.iload_n 3, 1) := by decide +kernel
theorem dL_law_458 : decode code 458 = .ok (.iconst 2, 1) := by decide +kernel
theorem dL_law_459 : decode code 459 = .ok (.iadd, 1) := by decide +kernel
theorem dL_law_460 : decode code 460 = .ok (.iaload, 1) := by decide +kernel
theorem dL_law_461 : decode code 461 = .ok (.i2l, 1) := by decide +kernel
theorem dL_law_462 : decode code 462 = .ok (.bipush 32, 2) := by decide +kernel
theorem dL_law_464 : decode code 464 = .ok (.lshl, 1) := by decide +kernel
theorem dL_law_465 : decode code 465 = .ok (.aload_n 0, 1) := by decide +kernel
theorem dL_law_466 : decode code 466 = .ok (.iload_n 3, 1) := by decide +kernel
theorem dL_law_467 : decode code 467 = .ok (.iconst 3, 1) := by decide +kernel
theorem dL_law_468 : decode code 468 = .ok (.iadd, 1) := by decide +kernel
theorem dL_law_469 : decode code 469 = .ok (.iaload, 1) := by decide +kernel
theorem dL_law_470 : decode code 470 = .ok (.i2l, 1) := by decide +kernel
theorem dL_law_471 : decode code 471 = .ok (.ldc2_w 13, 3) := by decide +kernel
theorem dL_law_474 : decode code 474 = .ok (.land, 1) := by decide +kernel
theorem dL_law_475 : decode code 475 = .ok (.lor, 1) := by decide +kernel
theorem dL_law_476 : decode code 476 = .ok (.invokevirtual 44, 3) := by decide +kernel
theorem dL_law_479 : decode code 479 = .ok (.if_icmp .eq 232, 3) := by decide +kernel
theorem dL_law_482 : decode code 482 = .ok (.iconst 0, 1) := by decide +kernel
theorem dL_law_483 : decode code 483 = .ok (.ireturn, 1) := by decide +kernel
theorem dL_law_484 : decode code 484 = .ok (.aload_n 1, 1) := by decide +kernel
theorem dL_law_485 : decode code 485 = .ok (.aload_n 0, 1) := by decide +kernel
theorem dL_law_486 : decode code 486 = .ok (.iload_n 3, 1) := by decide +kernel
theorem dL_law_487 : decode code 487 = .ok (.iconst 1, 1) := by decide +kernel
theorem dL_law_488 : decode code 488 = .ok (.iadd, 1) := by decide +kernel
theorem dL_law_489 : decode code 489 = .ok (.iaload, 1) := by decide +kernel
theorem dL_law_490 : decode code 490 = .ok (.invokevirtual 45, 3) := by decide +kernel
theorem dL_law_493 : decode code 493 = .ok (.aload_n 2, 1) := by decide +kernel
theorem dL_law_494 : decode code 494 = .ok (.aload_n 0, 1) := by decide +kernel
theorem dL_law_495 : decode code 495 = .ok (.iload_n 3, 1) := by decide +kernel
theorem dL_law_496 : decode code 496 = .ok (.iconst 1, 1) := by decide +kernel
theorem dL_law_497 : decode code 497 = .ok (.iadd, 1) := by decide +kernel
theorem dL_law_498 : decode code 498 = .ok (.iaload, 1) := by decide +kernel
theorem dL_law_499 : decode code 499 = .ok (.invokevirtual 49, 3) := by decide +kernel
theorem dL_law_502 : decode code 502 = .ok (.if_icmp .eq 209, 3) := by decide +kernel
theorem dL_law_505 : decode code 505 = .ok (.iconst 0, 1) := by decide +kernel
theorem dL_law_506 : decode code 506 = .ok (.ireturn, 1) := by decide +kernel
theorem dL_law_507 : decode code 507 = .ok (.aload_n 1, 1) := by decide +kernel
theorem dL_law_508 : decode code 508 = .ok (.aload_n 0, 1) := by decide +kernel
theorem dL_law_509 : decode code 509 = .ok (.iload_n 3, 1) := by decide +kernel
theorem dL_law_510 : decode code 510 = .ok (.iconst 1, 1) := by decide +kernel
theorem dL_law_511 : decode code 511 = .ok (.iadd, 1) := by decide +kernel
theorem dL_law_512 : decode code 512 = .ok (.iaload, 1) := by decide +kernel
theorem dL_law_513 : decode code 513 = .ok (.aload_n 0, 1) := by decide +kernel
theorem dL_law_514 : decode code 514 = .ok (.iload_n 3, 1) := by decide +kernel
theorem dL_law_515 : decode code 515 = .ok (.iconst 2, 1) := by decide +kernel
theorem dL_law_516 : decode code 516 = .ok (.iadd, 1) := by decide +kernel
theorem dL_law_517 : decode code 517 = .ok (.iaload, 1) := by decide +kernel
theorem dL_law_518 : decode code 518 = .ok (.ifCond .eq 7, 3) := by decide +kernel
theorem dL_law_521 : decode code 521 = .ok (.iconst 1, 1) := by decide +kernel
theorem dL_law_522 : decode code 522 = .ok (.goto 4, 3) := by decide +kernel
theorem dL_law_525 : decode code 525 = .ok (.iconst 0, 1) := by decide +kernel
theorem dL_law_526 : decode code 526 = .ok (.invokevirtual 50, 3) := by decide +kernel
theorem dL_law_529 : decode code 529 = .ok (.aload_n 2, 1) := by decide +kernel
theorem dL_law_530 : decode code 530 = .ok (.aload_n 0, 1) := by decide +kernel
theorem dL_law_531 : decode code 531 = .ok (.iload_n 3, 1) := by decide +kernel
theorem dL_law_532 : decode code 532 = .ok (.iconst 1, 1) := by decide +kernel
theorem dL_law_533 : decode code 533 = .ok (.iadd, 1) := by decide +kernel
theorem dL_law_534 : decode code 534 = .ok (.iaload, 1) := by decide +kernel
theorem dL_law_535 : decode code 535 = .ok (.aload_n 0, 1) := by decide +kernel
theorem dL_law_536 : decode code 536 = .ok (.iload_n 3, 1) := by decide +kernel
theorem dL_law_537 : decode code 537 = .ok (.iconst 2, 1) := by decide +kernel
theorem dL_law_538 : decode code 538 = .ok (.iadd, 1) := by decide +kernel
theorem dL_law_539 : decode code 539 = .ok (.iaload, 1) := by decide +kernel
theorem dL_law_540 : decode code 540 = .ok (.ifCond .eq 7, 3) := by decide +kernel
theorem dL_law_543 : decode code 543 = .ok (.iconst 1, 1) := by decide +kernel
theorem dL_law_544 : decode code 544 = .ok (.goto 4, 3) := by decide +kernel
theorem dL_law_547 : decode code 547 = .ok (.iconst 0, 1) := by decide +kernel
theorem dL_law_548 : decode code 548 = .ok (.invokevirtual 54, 3) := by decide +kernel
theorem dL_law_551 : decode code 551 = .ok (.if_icmp .eq 160, 3) := by decide +kernel
theorem dL_law_554 : decode code 554 = .ok (.iconst 0, 1) := by decide +kernel
theorem dL_law_555 : decode code 555 = .ok (.ireturn, 1) := by decide +kernel
theorem dL_law_556 : decode code 556 = .ok (.aload_n 1, 1) := by decide +kernel
theorem dL_law_557 : decode code 557 = .ok (.aload_n 0, 1) := by decide +kernel
theorem dL_law_558 : decode code 558 = .ok (.iload_n 3, 1) := by decide +kernel
theorem dL_law_559 : decode code 559 = .ok (.iconst 1, 1) := by decide +kernel
theorem dL_law_560 : decode code 560 = .ok (.iadd, 1) := by decide +kernel
theorem dL_law_561 : decode code 561 = .ok (.iaload, 1) := by decide +kernel
theorem dL_law_562 : decode code 562 = .ok (.invokevirtual 55, 3) := by decide +kernel
theorem dL_law_565 : decode code 565 = .ok (.aload_n 2, 1) := by decide +kernel
theorem dL_law_566 : decode code 566 = .ok (.aload_n 0, 1) := by decide +kernel
theorem dL_law_567 : decode code 567 = .ok (.iload_n 3, 1) := by decide +kernel
theorem dL_law_568 : decode code 568 = .ok (.iconst 1, 1) := by decide +kernel
theorem dL_law_569 : decode code 569 = .ok (.iadd, 1) := by decide +kernel
theorem dL_law_570 : decode code 570 = .ok (.iaload, 1) := by decide +kernel
theorem dL_law_571 : decode code 571 = .ok (.invokevirtual 58, 3) := by decide +kernel
theorem dL_law_574 : decode code 574 = .ok (.if_icmp .eq 137, 3) := by decide +kernel
theorem dL_law_577 : decode code 577 = .ok (.iconst 0, 1) := by decide +kernel
theorem dL_law_578 : decode code 578 = .ok (.ireturn, 1) := by decide +kernel
theorem dL_law_579 : decode code 579 = .ok (.aload_n 1, 1) := by decide +kernel
theorem dL_law_580 : decode code 580 = .ok (.aload_n 0, 1) := by decide +kernel
theorem dL_law_581 : decode code 581 = .ok (.iload_n 3, 1) := by decide +kernel
theorem dL_law_582 : decode code 582 = .ok (.iconst 1, 1) := by decide +kernel
theorem dL_law_583 : decode code 583 = .ok (.iadd, 1) := by decide +kernel
theorem dL_law_584 : decode code 584 = .ok (.iaload, 1) := by decide +kernel
theorem dL_law_585 : decode code 585 = .ok (.aload_n 0, 1) := by decide +kernel
theorem dL_law_586 : decode code 586 = .ok (.iload_n 3, 1) := by decide +kernel
theorem dL_law_587 : decode code 587 = .ok (.iconst 2, 1) := by decide +kernel
theorem dL_law_588 : decode code 588 = .ok (.iadd, 1) := by decide +kernel
theorem dL_law_589 : decode code 589 = .ok (.iaload, 1) := by decide +kernel
theorem dL_law_590 : decode code 590 = .ok (.invokevirtual 59, 3) := by decide +kernel
theorem dL_law_593 : decode code 593 = .ok (.aload_n 2, 1) := by decide +kernel
theorem dL_law_594 : decode code 594 = .ok (.aload_n 0, 1) := by decide +kernel
theorem dL_law_595 : decode code 595 = .ok (.iload_n 3, 1) := by decide +kernel
theorem dL_law_596 : decode code 596 = .ok (.iconst 1, 1) := by decide +kernel
theorem dL_law_597 : decode code 597 = .ok (.iadd, 1) := by decide +kernel
theorem dL_law_598 : decode code 598 = .ok (.iaload, 1) := by decide +kernel
theorem dL_law_599 : decode code 599 = .ok (.aload_n 0, 1) := by decide +kernel
theorem dL_law_600 : decode code 600 = .ok (.iload_n 3, 1) := by decide +kernel
theorem dL_law_601 : decode code 601 = .ok (.iconst 2, 1) := by decide +kernel
theorem dL_law_602 : decode code 602 = .ok (.iadd, 1) := by decide +kernel
theorem dL_law_603 : decode code 603 = .ok (.iaload, 1) := by decide +kernel
theorem dL_law_604 : decode code 604 = .ok (.invokevirtual 62, 3) := by decide +kernel
theorem dL_law_607 : decode code 607 = .ok (.if_icmp .eq 104, 3) := by decide +kernel
theorem dL_law_610 : decode code 610 = .ok (.iconst 0, 1) := by decide +kernel
theorem dL_law_611 : decode code 611 = .ok (.ireturn, 1) := by decide +kernel
theorem dL_law_612 : decode code 612 = .ok (.aload_n 1, 1) := by decide +kernel
theorem dL_law_613 : decode code 613 = .ok (.aload_n 0, 1) := by decide +kernel
theorem dL_law_614 : decode code 614 = .ok (.iload_n 3, 1) := by decide +kernel
theorem dL_law_615 : decode code 615 = .ok (.iconst 1, 1) := by decide +kernel
theorem dL_law_616 : decode code 616 = .ok (.iadd, 1) := by decide +kernel
theorem dL_law_617 : decode code 617 = .ok (.iaload, 1) := by decide +kernel
theorem dL_law_618 : decode code 618 = .ok (.invokevirtual 63, 3) := by decide +kernel
theorem dL_law_621 : decode code 621 = .ok (.aload_n 2, 1) := by decide +kernel
theorem dL_law_622 : decode code 622 = .ok (.aload_n 0, 1) := by decide +kernel
theorem dL_law_623 : decode code 623 = .ok (.iload_n 3, 1) := by decide +kernel
theorem dL_law_624 : decode code 624 = .ok (.iconst 1, 1) := by decide +kernel
theorem dL_law_625 : decode code 625 = .ok (.iadd, 1) := by decide +kernel
theorem dL_law_626 : decode code 626 = .ok (.iaload, 1) := by decide +kernel
theorem dL_law_627 : decode code 627 = .ok (.invokevirtual 66, 3) := by decide +kernel
theorem dL_law_630 : decode code 630 = .ok (.if_icmp .eq 81, 3) := by decide +kernel
theorem dL_law_633 : decode code 633 = .ok (.iconst 0, 1) := by decide +kernel
theorem dL_law_634 : decode code 634 = .ok (.ireturn, 1) := by decide +kernel
theorem dL_law_635 : decode code 635 = .ok (.aload_n 1, 1) := by decide +kernel
theorem dL_law_636 : decode code 636 = .ok (.aload_n 0, 1) := by decide +kernel
theorem dL_law_637 : decode code 637 = .ok (.iload_n 3, 1) := by decide +kernel
theorem dL_law_638 : decode code 638 = .ok (.iconst 1, 1) := by decide +kernel
theorem dL_law_639 : decode code 639 = .ok (.iadd, 1) := by decide +kernel
theorem dL_law_640 : decode code 640 = .ok (.iaload, 1) := by decide +kernel
theorem dL_law_641 : decode code 641 = .ok (.aload_n 0, 1) := by decide +kernel
theorem dL_law_642 : decode code 642 = .ok (.iload_n 3, 1) := by decide +kernel
theorem dL_law_643 : decode code 643 = .ok (.iconst 2, 1) := by decide +kernel
theorem dL_law_644 : decode code 644 = .ok (.iadd, 1) := by decide +kernel
theorem dL_law_645 : decode code 645 = .ok (.iaload, 1) := by decide +kernel
theorem dL_law_646 : decode code 646 = .ok (.aload_n 0, 1) := by decide +kernel
theorem dL_law_647 : decode code 647 = .ok (.iload_n 3, 1) := by decide +kernel
theorem dL_law_648 : decode code 648 = .ok (.iconst 3, 1) := by decide +kernel
theorem dL_law_649 : decode code 649 = .ok (.iadd, 1) := by decide +kernel
theorem dL_law_650 : decode code 650 = .ok (.iaload, 1) := by decide +kernel
theorem dL_law_651 : decode code 651 = .ok (.invokevirtual 67, 3) := by decide +kernel
theorem dL_law_654 : decode code 654 = .ok (.aload_n 2, 1) := by decide +kernel
theorem dL_law_655 : decode code 655 = .ok (.aload_n 0, 1) := by decide +kernel
theorem dL_law_656 : decode code 656 = .ok (.iload_n 3, 1) := by decide +kernel
theorem dL_law_657 : decode code 657 = .ok (.iconst 1, 1) := by decide +kernel
theorem dL_law_658 : decode code 658 = .ok (.iadd, 1) := by decide +kernel
theorem dL_law_659 : decode code 659 = .ok (.iaload, 1) := by decide +kernel
theorem dL_law_660 : decode code 660 = .ok (.aload_n 0, 1) := by decide +kernel
theorem dL_law_661 : decode code 661 = .ok (.iload_n 3, 1) := by decide +kernel
theorem dL_law_662 : decode code 662 = .ok (.iconst 2, 1) := by decide +kernel
theorem dL_law_663 : decode code 663 = .ok (.iadd, 1) := by decide +kernel
theorem dL_law_664 : decode code 664 = .ok (.iaload, 1) := by decide +kernel
theorem dL_law_665 : decode code 665 = .ok (.aload_n 0, 1) := by decide +kernel
theorem dL_law_666 : decode code 666 = .ok (.iload_n 3, 1) := by decide +kernel
theorem dL_law_667 : decode code 667 = .ok (.iconst 3, 1) := by decide +kernel
theorem dL_law_668 : decode code 668 = .ok (.iadd, 1) := by decide +kernel
theorem dL_law_669 : decode code 669 = .ok (.iaload, 1) := by decide +kernel
theorem dL_law_670 : decode code 670 = .ok (.invokevirtual 71, 3) := by decide +kernel
theorem dL_law_673 : decode code 673 = .ok (.if_icmp .eq 38, 3) := by decide +kernel
theorem dL_law_676 : decode code 676 = .ok (.iconst 0, 1) := by decide +kernel
theorem dL_law_677 : decode code 677 = .ok (.ireturn, 1) := by decide +kernel
theorem dL_law_678 : decode code 678 = .ok (.aload_n 1, 1) := by decide +kernel
theorem dL_law_679 : decode code 679 = .ok (.aload_n 0, 1) := by decide +kernel
theorem dL_law_680 : decode code 680 = .ok (.iload_n 3, 1) := by decide +kernel
theorem dL_law_681 : decode code 681 = .ok (.iconst 1, 1) := by decide +kernel
theorem dL_law_682 : decode code 682 = .ok (.iadd, 1) := by decide +kernel
theorem dL_law_683 : decode code 683 = .ok (.iaload, 1) := by decide +kernel
theorem dL_law_684 : decode code 684 = .ok (.aload_n 0, 1) := by decide +kernel
theorem dL_law_685 : decode code 685 = .ok (.iload_n 3, 1) := by decide +kernel
theorem dL_law_686 : decode code 686 = .ok (.iconst 2, 1) := by decide +kernel
theorem dL_law_687 : decode code 687 = .ok (.iadd, 1) := by decide +kernel
theorem dL_law_688 : decode code 688 = .ok (.iaload, 1) := by decide +kernel
theorem dL_law_689 : decode code 689 = .ok (.invokevirtual 72, 3) := by decide +kernel
theorem dL_law_692 : decode code 692 = .ok (.aload_n 2, 1) := by decide +kernel
theorem dL_law_693 : decode code 693 = .ok (.aload_n 0, 1) := by decide +kernel
theorem dL_law_694 : decode code 694 = .ok (.iload_n 3, 1) := by decide +kernel
theorem dL_law_695 : decode code 695 = .ok (.iconst 1, 1) := by decide +kernel
theorem dL_law_696 : decode code 696 = .ok (.iadd, 1) := by decide +kernel
theorem dL_law_697 : decode code 697 = .ok (.iaload, 1) := by decide +kernel
theorem dL_law_698 : decode code 698 = .ok (.aload_n 0, 1) := by decide +kernel
theorem dL_law_699 : decode code 699 = .ok (.iload_n 3, 1) := by decide +kernel
theorem dL_law_700 : decode code 700 = .ok (.iconst 2, 1) := by decide +kernel
theorem dL_law_701 : decode code 701 = .ok (.iadd, 1) := by decide +kernel
theorem dL_law_702 : decode code 702 = .ok (.iaload, 1) := by decide +kernel
theorem dL_law_703 : decode code 703 = .ok (.invokevirtual 75, 3) := by decide +kernel
theorem dL_law_706 : decode code 706 = .ok (.if_icmp .eq 5, 3) := by decide +kernel
theorem dL_law_709 : decode code 709 = .ok (.iconst 0, 1) := by decide +kernel
theorem dL_law_710 : decode code 710 = .ok (.ireturn, 1) := by decide +kernel
theorem dL_law_711 : decode code 711 = .ok (.iinc 3 6, 3) := by decide +kernel
theorem dL_law_714 : decode code 714 = .ok (.goto (-696), 3) := by decide +kernel
theorem dL_law_717 : decode code 717 = .ok (.iconst 1, 1) := by decide +kernel
theorem dL_law_718 : decode code 718 = .ok (.ireturn, 1) := by decide +kernel
end
section
def zT (dA : Nat → ClassId) : List (ClassId × FieldType) := [(dA 0, .int), (dA 1, .boolean), (dA 2, .object "ItemStates$Copy"), (dA 3, .long)]
/-! the world as a map: address to cell; a method's world is a map M, its footprint the places where M is some -/
abbrev zMap : Type := Nat → Option va_E
def zu (M : zMap) (a : Nat) (e : va_E) : zMap := fun b => if b = a then some e else M b
theorem zu_s (M : zMap) (a : Nat) (e : va_E) : zu M a e a = some e := if_pos rfl
theorem zu_n {M : zMap} {a b : Nat} {e : va_E} (h : b ≠ a) : zu M a e b = M b := if_neg h
theorem zu_u (M : zMap) (a : Nat) (e e' : va_E) : zu (zu M a e) a e' = zu M a e' := by
  funext b
  by_cases h : b = a
  · subst h; rw [zu_s, zu_s]
  · rw [zu_n h, zu_n h, zu_n h]
theorem zu_c (M : zMap) {a b : Nat} (e e' : va_E) (h : a ≠ b) : zu (zu M a e) b e' = zu (zu M b e') a e := by
  funext x
  by_cases h1 : x = b
  · subst h1; rw [zu_s, zu_n (Ne.symm h), zu_s]
  · by_cases h2 : x = a
    · subst h2; rw [zu_n h1, zu_s, zu_s]
    · rw [zu_n h1, zu_n h2, zu_n h2, zu_n h1]
theorem zu_id {M : zMap} {a : Nat} {e : va_E} (h : M a = some e) : zu M a e = M := by
  funext b
  by_cases h1 : b = a
  · subst h1; rw [zu_s, h]
  · rw [zu_n h1]
theorem zne {M : zMap} {a b : Nat} {x y : va_E} (ha : M a = some x) (hb : M b = some y) (h : x ≠ y) : a ≠ b := fun e => h (Option.some.inj (ha.symm.trans (e ▸ hb)))
abbrev zG : Type := (Nat → ClassId) × (Nat → Nat → Nat) × (Nat → ClassId)
abbrev zD (G : zG) : va_G := (G.1, G.2.1)
def zM (A : Nat → Prop) (G : zG) (M : zMap) (H : Heap) : Prop := ∀ (a : Nat) (e : va_E), M a = some e → A a ∧ va_at (zD G) vwCl (a, e) H
theorem zM.one {A : Nat → Prop} {G : zG} {M : zMap} {H : Heap} {a : Nat} {e : va_E} (h : zM A G M H) (he : M a = some e) : va_P (zD G) vwCl [(a, e)] H := by
  intro k q hk
  have hz : k < 1 := (List.getElem?_eq_some_iff.mp hk).1
  rw [show k = 0 by omega] at hk
  cases hk
  exact (h a e he).2
theorem zM.lt {A : Nat → Prop} {G : zG} {M : zMap} {H : Heap} {a : Nat} {e : va_E} (h : zM A G M H) (he : M a = some e) : a < H.size := (h a e he).2.lt
theorem zM.fresh {A : Nat → Prop} {G : zG} {M : zMap} {H : Heap} {a : Nat} (h : zM A G M H) (ha : H.size ≤ a) : M a = none := by
  cases hq : M a with
  | none => rfl
  | some e => exact absurd (h.lt hq) (by omega)
theorem zM.put {A : Nat → Prop} {G : zG} {M : zMap} {H H1 : Heap} {a : Nat} {e : va_E} (h : zM A G M H) (ha : A a) (he : va_at (zD G) vwCl (a, e) H1) (oq : ∀ q : Nat, q ≠ a → H1[q]? = H[q]?) : zM A G (zu M a e) H1 := by
  intro b x hb
  by_cases hba : b = a
  · subst hba
    rw [zu_s] at hb
    cases hb
    exact ⟨ha, he⟩
  · rw [zu_n hba] at hb
    exact ⟨(h b x hb).1, (h b x hb).2.kept (oq b hba)⟩
theorem zM.new {A : Nat → Prop} {G : zG} {M : zMap} {H H1 : Heap} {e : va_E} (h : zM A G M H) (ha : A H.size) (he : va_at (zD G) vwCl (H.size, e) H1) (oq : ∀ q : Nat, q < H.size → H1[q]? = H[q]?) : zM A G (zu M H.size e) H1 := by
  intro b x hb
  by_cases hba : b = H.size
  · subst hba
    rw [zu_s] at hb
    cases hb
    exact ⟨ha, he⟩
  · rw [zu_n hba] at hb
    exact ⟨(h b x hb).1, (h b x hb).2.kept (oq b (h.lt hb))⟩
/-- the words: all good ones of the tables; and those of nests and of arrays of references, which a contract carries beside -/
def zB : List Cond := lw_tbl.filter goodWord
def zIsN : Cond → Bool
  | .fieldLinkNest .. => true
  | .methodLinkNest .. => true
  | .arrayOver (.object _) => true
  | _ => false
def zNest : List Cond := lw_tbl.filter zIsN
theorem zB_in {w : Cond} (h : w ∈ lw_tbl) (hg : goodWord w = true) : w ∈ zB := List.mem_filter.mpr ⟨h, hg⟩
theorem zN_in {w : Cond} (h : w ∈ lw_tbl) (hg : zIsN w = true) : w ∈ zNest := List.mem_filter.mpr ⟨h, hg⟩
theorem zNw_warm {w : Cond} (hw : zIsN w = true) {s U : State} (hW : s.WarmedH U.vm) (h : va_Nw w s) : va_Nw w U := by
  cases w with
  | fieldLinkNest => exact va_Nw.warmF hW h
  | methodLinkNest => exact va_Nw.warmM hW h
  | arrayOver ty =>
    cases ty with
    | object C => exact va_AO.moved hW.alike h
    | _ => cases hw
  | _ => cases hw
theorem zNw_same {w : Cond} (hw : zIsN w = true) {s U : State} (hv : s.vm = U.vm) (h : va_Nw w s) : va_Nw w U := by
  cases w with
  | fieldLinkNest => exact va_Nw.same rfl hv h
  | methodLinkNest => exact va_Nw.same rfl hv h
  | arrayOver ty =>
    cases ty with
    | object C => exact va_AO.moved (by rw [hv]; exact Vm.Alike.refl _) h
    | _ => cases hw
  | _ => cases hw
def zK (G : zG) (U : State) : Prop := va_K (zD G) vwCl (zT G.2.2) U ∧ ∀ w ∈ zNest, va_Nw w U
theorem zK.warm {G : zG} {s U : State} (h : zK G s) (hW : s.WarmedH U.vm) : zK G U := ⟨va_K.moved hW.alike h.1, fun w hw => zNw_warm (List.mem_filter.mp hw).2 hW (h.2 w hw)⟩
theorem zK.same {G : zG} {s U : State} (h : zK G s) (hv : s.vm = U.vm) : zK G U := ⟨va_K.moved (by rw [hv]; exact Vm.Alike.refl _) h.1, fun w hw => zNw_same (List.mem_filter.mp hw).2 hv (h.2 w hw)⟩
def zw (y : MethodName) (cc : ByteArray) (maxL : Nat) (ret : Option FieldType) : List Cond := .code y cc maxL ret :: zB
theorem zgood {y : MethodName} {cc : ByteArray} {maxL : Nat} {ret : Option FieldType} (h : Cond.code y cc maxL ret ∈ zB) : GoodIn zB (zw y cc maxL ret) := by
  intro w hw
  have h1 : w ∈ zB := by
    rcases List.mem_cons.mp hw with h2 | h2
    · rw [h2]; exact h
    · exact h2
  exact ⟨h1, good_of_word (List.mem_filter.mp h1).2⟩
def zPc (av : List Value) (A : Nat → Prop) (G : zG) (M : zMap) : Array Value → State → Prop := fun v U => v = av.toArray ∧ zK G U ∧ zM A G M U.heap ∧ ∀ q : Nat, U.heap.size ≤ q → A q
def zQ (A : Nat → Prop) (G : zG) (post : Option Value → zMap → Prop) : Array Value → State → Outcome → State → Prop := fun _ st oc t => (∃ (r : Option Value) (M1 : zMap), oc = .returned r ∧ post r M1 ∧ zM A G M1 t.heap) ∧ va_F A st t
theorem zPc.blind {av : List Value} {A : Nat → Prop} {G : zG} {M : zMap} : FrameBlind (zPc av A G M) := fun _ U _ _ q => ⟨q.1, q.2.1.same (s := U) rfl, q.2.2.1, q.2.2.2⟩
def zMet (l : Launch) (y : MethodName) (cc : ByteArray) (maxL : Nat) (ret : Option FieldType) (rm : Room) (av : List Value) (A : Nat → Prop) (G : zG) (M : zMap) (post : Option Value → zMap → Prop) : Prop :=
  Met l y (zw y cc maxL ret) rm (zPc av A G M) (zQ A G post) rm.cells rm.slots A
def zCls (ci : Nat) (C : String) (T : u_T) (N : Nat) (ty : Nat → FieldType) : Prop := vwCl[ci]? = some (C, T, N) ∧ (∀ w ∈ u_ws C T N, w ∈ zB) ∧ (∀ k, k < N → parseFieldDescriptor (T k).2.2.1 = some (ty k)) ∧ ∀ a, a < N → ∀ b, b < N → a ≠ b → (T a).2.1 ≠ (T b).2.1
def zOK (y : MethodName) (bytes : ByteArray) (maxL : Nat) (ret : Option FieldType) (n : Nat) : Prop := Cond.code y bytes maxL ret ∈ zB ∧ Cond.initialized y.cls ∈ zB ∧ y.cls ≠ "java/lang/invoke/MethodHandle" ∧ y.cls ≠ "java/lang/invoke/VarHandle" ∧ (parseMethodDescriptor y.desc).map (fun d => d.parameters.length) = some n
section ZW
variable {p : Program} {l : Launch} {e : Env} {R : Room} {s : State} {m : MethodId} {args : Array Value} {below : List Frame} {meth : Method} {c : Code} {H : Heap} {locs : List Loc} {cells slots : Nat} {Q : State → Prop}
variable {cc : ByteArray} {pc nL : Nat} {ls : Array Slot} {rest : List Value} {A : Nat → Prop} {G : zG} {M : zMap} {a : Nat} {H0 : Heap} {own : String}
theorem zMet.of {y : MethodName} {maxL : Nat} {ret : Option FieldType} {rm : Room} {av : List Value} {post : Option Value → zMap → Prop} (hy : plainName y.cls = true) (hlen : (lg_sl av).length ≤ maxL)
    (body : ∀ (p : Program) (e : Env) (s : State) (m : MethodId) (args : Array Value) (below : List Frame) (meth : Method) (c : Code) (ls : Array Slot), CallFix p m c cc maxL s args zB y.cls → meth.sig.returnType = ret → meth.locks = false → meth.name = y.name → zK G s → zM A G M s.heap → (∀ q : Nat, s.heap.size ≤ q → A q) → va_S A s.heap s.heap [] → lv_has ls maxL (lv_args 0 av) →
      W p l e rm s m args below meth c s.heap [] 0 0 (MQ below (zQ A G post) args s rm.cells rm.slots A) (F0 m 0 ls [])) : zMet l y cc maxL ret rm av A G M post := by
  refine Met.ofW (cc := cc) (maxL := maxL) (ret := ret) hy rfl ?_
  intro p e s m args below meth c s₁ B hml hv
  obtain ⟨rfl, hK, hM, hA⟩ := hv
  have hts := atoms_spec (ws := zw y cc maxL ret) B.pre
  rw [lg_entry_eq]
  exact body p e s m _ below meth c _ ⟨B.exec, B.bytes, hml, findClass_of_methodNamed B.named, fun w h => hts w (List.mem_cons_of_mem _ h)⟩ B.returns B.notSynchronized (name_of_methodNamed B.named B.method).1 hK hM hA va_S.rf (lv_entry av hlen)
theorem z_get (S : CallFix p m c cc nL s args zB own) {C : String} {T : u_T} {N ci index : Nat} {ty : Nat → FieldType} (hC : zCls ci C T N ty) (hK : zK G s) (hM : zM A G M H) {fs : List Value} (he : M a = some (.inr (ci, fs))) (k : Nat) (hk : k < N) (hl : Cond.fieldLink own index (T k).1 (T k).2.1 (T k).2.2.1 ∈ zB) {v : Value} (hv : fs[k]? = some v) (hdg : decode cc pc = .ok (.getfield index, 3))
    (kk : W p l e R s m args below meth c H locs cells slots Q (F0 m (pc + 3) ls (v :: rest))) : W p l e R s m args below meth c H locs cells slots Q (F0 m pc ls (.ref a :: rest)) :=
  va_get S.1 S.2.1 S.2.2.2.2 hC.2.1 S.2.2.2.1 hK.1 (hM.one he) 0 rfl hC.1 k hk (S.2.2.2.2 _ hl) (fun _ h => h) hv hdg kk
theorem z_getN (S : CallFix p m c cc nL s args zB own) {C host : String} {T : u_T} {N ci index : Nat} {ty : Nat → FieldType} (hC : zCls ci C T N ty) (hK : zK G s) (hM : zM A G M H) {fs : List Value} (he : M a = some (.inr (ci, fs))) (k : Nat) (hk : k < N) (hl : Cond.fieldLinkNest own index (T k).1 (T k).2.1 (T k).2.2.1 host ∈ zNest) {v : Value} (hv : fs[k]? = some v) (hdg : decode cc pc = .ok (.getfield index, 3))
    (kk : W p l e R s m args below meth c H locs cells slots Q (F0 m (pc + 3) ls (v :: rest))) : W p l e R s m args below meth c H locs cells slots Q (F0 m pc ls (.ref a :: rest)) :=
  va_getN S.1 S.2.1 S.2.2.2.2 hC.2.1 S.2.2.2.1 hK.1 (hM.one he) 0 rfl hC.1 k hk (va_Nw.use rfl (hK.2 _ hl)) (fun _ h => h) hv hdg kk
theorem z_put (S : CallFix p m c cc nL s args zB own) {C : String} {T : u_T} {N ci index : Nat} {ty : Nat → FieldType} (hC : zCls ci C T N ty) (hK : zK G s) (hM : zM A G M H) (hS0 : va_S A H0 H locs) {fs : List Value} (he : M a = some (.inr (ci, fs))) (k : Nat) (hk : k < N) (hl : Cond.fieldLink own index (T k).1 (T k).2.1 (T k).2.2.1 ∈ zB) (hfin : (T k).2.2.2 = false) {v : Value} (hn : narrow (ty k) v = v) (hfit : fits (ty k) v = true) (hlen : k < fs.length) (hdg : decode cc pc = .ok (.putfield index, 3))
    (kk : ∀ (H1 : Heap) (locs1 : List Loc), zM A G (zu M a (.inr (ci, fs.set k v))) H1 → va_S A H0 H1 locs1 → W p l e R s m args below meth c H1 locs1 cells slots Q (F0 m (pc + 3) ls rest)) : W p l e R s m args below meth c H locs cells slots Q (F0 m pc ls (v :: .ref a :: rest)) := by
  obtain ⟨hc, hin, hty, hnm⟩ := hC
  have hts := S.2.2.2.2
  have hap := va_apart (own := own) hts hin ty hty hnm hK.1 hc
  obtain ⟨ha, r, h1, cell, q1, q2, q3, q4⟩ := hM a _ he
  have hr : r = (C, T, N) := Option.some.inj (h1.symm.trans hc)
  subst hr
  obtain ⟨hS, hfc, kC, hkC, hkind⟩ := hK.1.1 ci _ hc
  obtain ⟨cf, kf, fi, f, hi, hsl⟩ := hS k hk
  have hlay := hts _ (hin _ (u_in_lay hk))
  unfold u_lay at hlay
  rw [if_neg (by rw [hfin]; decide)] at hlay
  have hst := (u_facts hfc hkC (u_lays hts hin hk) hi).1
  have h6 := u_store hfc hkC hkind hlay hi (hty k hk) hn hfit
  refine W.putK S.1 S.2.1 (f := f) ⟨S.2.2.2.1, hts _ hl, ⟨_, _, _, hi⟩, hst⟩ (by rw [q2]; exact h6) q1 q3 (by rw [hsl]; exact k2_hasslot (q4 k hk)) rfl rfl hdg fun H' e1 e2 e3 => ?_
  rw [hsl] at e1 ⊢
  exact kk H' _ (hM.put ha ⟨_, hc, t_OB.to (V := updV (vp_V fs) k v) ⟨_, e1, q2, q3, t_set q4 hap hk v⟩ (fun j _ => vp_updV_set hlen v j)⟩ e3) (hS0.put e2 e3 ha)
theorem z_putN (S : CallFix p m c cc nL s args zB own) {C host : String} {T : u_T} {N ci index : Nat} {ty : Nat → FieldType} (hC : zCls ci C T N ty) (hK : zK G s) (hM : zM A G M H) (hS0 : va_S A H0 H locs) {fs : List Value} (he : M a = some (.inr (ci, fs))) (k : Nat) (hk : k < N) (hl : Cond.fieldLinkNest own index (T k).1 (T k).2.1 (T k).2.2.1 host ∈ zNest) (hfin : (T k).2.2.2 = false) {v : Value} (hn : narrow (ty k) v = v) (hfit : fits (ty k) v = true) (hlen : k < fs.length) (hdg : decode cc pc = .ok (.putfield index, 3))
    (kk : ∀ (H1 : Heap) (locs1 : List Loc), zM A G (zu M a (.inr (ci, fs.set k v))) H1 → va_S A H0 H1 locs1 → W p l e R s m args below meth c H1 locs1 cells slots Q (F0 m (pc + 3) ls rest)) : W p l e R s m args below meth c H locs cells slots Q (F0 m pc ls (v :: .ref a :: rest)) := by
  obtain ⟨hc, hin, hty, hnm⟩ := hC
  have hts := S.2.2.2.2
  have hap := va_apart (own := own) hts hin ty hty hnm hK.1 hc
  obtain ⟨ha, r, h1, cell, q1, q2, q3, q4⟩ := hM a _ he
  have hr : r = (C, T, N) := Option.some.inj (h1.symm.trans hc)
  subst hr
  obtain ⟨hS, hfc, kC, hkC, hkind⟩ := hK.1.1 ci _ hc
  obtain ⟨cf, kf, fi, f, hi, hsl⟩ := hS k hk
  have hlay := hts _ (hin _ (u_in_lay hk))
  unfold u_lay at hlay
  rw [if_neg (by rw [hfin]; decide)] at hlay
  have hst := (u_facts hfc hkC (u_lays hts hin hk) hi).1
  have h6 := u_store hfc hkC hkind hlay hi (hty k hk) hn hfit
  refine va_WputK S.1 S.2.1 (f := f) S.2.2.2.1 (va_Nw.use rfl (hK.2 _ hl)) hi hst (by rw [q2]; exact h6) q1 q3 (by rw [hsl]; exact k2_hasslot (q4 k hk)) rfl rfl hdg fun H' e1 e2 e3 => ?_
  rw [hsl] at e1 ⊢
  exact kk H' _ (hM.put ha ⟨_, hc, t_OB.to (V := updV (vp_V fs) k v) ⟨_, e1, q2, q3, t_set q4 hap hk v⟩ (fun j _ => vp_updV_set hlen v j)⟩ e3) (hS0.put e2 e3 ha)
theorem z_putF (S : CallFix p m c cc nL s args zB own) {C : String} {T : u_T} {N ci index : Nat} {ty : Nat → FieldType} (hC : zCls ci C T N ty) (hK : zK G s) (hM : zM A G M H) (hS0 : va_S A H0 H locs) {fs : List Value} (he : M a = some (.inr (ci, fs))) (k : Nat) (hk : k < N) (hl : Cond.fieldLink own index (T k).1 (T k).2.1 (T k).2.2.1 ∈ zB) (hfin : (T k).2.2.2 = true) (hin2 : meth.name = "<init>") (hdecl : (T k).1 = own) {v : Value} (hn : narrow (ty k) v = v) (hfit : fits (ty k) v = true) (hlen : k < fs.length) (hdg : decode cc pc = .ok (.putfield index, 3))
    (kk : ∀ (H1 : Heap) (locs1 : List Loc), zM A G (zu M a (.inr (ci, fs.set k v))) H1 → va_S A H0 H1 locs1 → W p l e R s m args below meth c H1 locs1 cells slots Q (F0 m (pc + 3) ls rest)) : W p l e R s m args below meth c H locs cells slots Q (F0 m pc ls (v :: .ref a :: rest)) := by
  obtain ⟨hc, hin, hty, hnm⟩ := hC
  have hts := S.2.2.2.2
  have hown := S.2.2.2.1
  have hap := va_apart (own := own) hts hin ty hty hnm hK.1 hc
  obtain ⟨ha, r, h1, cell, q1, q2, q3, q4⟩ := hM a _ he
  have hr : r = (C, T, N) := Option.some.inj (h1.symm.trans hc)
  subst hr
  obtain ⟨hS, hfc, kC, hkC, hkind⟩ := hK.1.1 ci _ hc
  obtain ⟨cf, kf, fi, f, hi, hsl⟩ := hS k hk
  have hlay := hts _ (hin _ (u_in_lay hk))
  unfold u_lay at hlay
  rw [if_pos hfin] at hlay
  have hst := (u_facts hfc hkC (u_lays hts hin hk) hi).1
  have hcf : m.cls = cf := by
    obtain ⟨_, _, c', _, _, _, -, -, hf', -, -, -, hown2, -⟩ := Cond.laysFinal_spec hlay
    have e1 : c' = cf := by have := hi.symm.trans hf'; simp at this; exact this.1.symm
    rw [hdecl] at hown2
    rw [← e1]; exact Option.some.inj (hown.symm.trans hown2)
  have h6 := u_fits hfc hkC hkind (Or.inr hlay) hi (hty k hk) hn hfit
  refine W.putFinK S.1 S.2.1 hown (hts _ hl) hi hst hcf hin2 (by rw [q2]; exact h6) q1 q3 (by rw [hsl]; exact k2_hasslot (q4 k hk)) rfl rfl hdg fun H' e1 e2 e3 => ?_
  rw [hsl] at e1 ⊢
  exact kk H' _ (hM.put ha ⟨_, hc, t_OB.to (V := updV (vp_V fs) k v) ⟨_, e1, q2, q3, t_set q4 hap hk v⟩ (fun j _ => vp_updV_set hlen v j)⟩ e3) (hS0.put e2 e3 ha)
theorem z_new (S : CallFix p m c cc nL s args zB own) {C : String} {T : u_T} {N ci index : Nat} {ty : Nat → FieldType} (hC : zCls ci C T N ty) (hK : zK G s) (hM : zM A G M H) (hS : va_S A H0 H locs) (hA : ∀ q : Nat, H0.size ≤ q → A q) (hcl : Cond.classLink own index C ∈ zB) (hinst : Cond.instantiable C N ∈ zB) (hini : Cond.initialized C ∈ zB) {fs : List Value} (hfs : ∀ j, j < N → defaultValue (ty j) = vp_V fs j) (hcells : cells + 1 ≤ R.cells) (hslots : slots + N ≤ R.slots) (hdg : decode cc pc = .ok (.new index, 3))
    (kk : ∀ (q : Nat) (H1 : Heap), M q = none → A q → zM A G (zu M q (.inr (ci, fs))) H1 → va_S A H0 H1 locs →
      W p l e R s m args below meth c H1 locs (cells + 1) (slots + N) Q (F0 m (pc + 3) ls (.ref q :: rest))) : W p l e R s m args below meth c H locs cells slots Q (F0 m pc ls rest) := by
  obtain ⟨hc, hin, hty, hnm⟩ := hC
  have hts := S.2.2.2.2
  have hKn := hK.1.1 ci _ hc
  refine W.newcK S.1 S.2.1 S.2.2.2.1 (hts _ hcl) (hts _ hinst) (hts _ hini) rfl hdg hcells hslots hKn.2.1 rfl fun H1 kC hkC e1 z1 o1 => ?_
  exact kk H.size H1 (hM.fresh (Nat.le_refl _)) (hA _ hS.1) (hM.new (hA _ hS.1) ⟨_, hc, (u_born ty hts hin hKn hkC e1 hty).to hfs⟩ o1) ⟨Nat.le_trans hS.1 (by omega), fun x h1 h2 => (o1 x (Nat.lt_of_lt_of_le h1 hS.1)).trans (hS.2.1 x h1 h2), hS.2.2⟩
theorem z_newa (S : CallFix p m c cc nL s args zB own) (hK : zK G s) (hM : zM A G M H) (hS : va_S A H0 H locs) (hA : ∀ q : Nat, H0.size ≤ q → A q) {atype : ArrayType} (harr : Cond.arrayClass (newarray.typeOf atype) ∈ zB) {ty : FieldType} (hty : newarray.typeOf atype = ty) (t0 : Nat) {cA : ClassId} (ht : (zT G.2.2)[t0]? = some (cA, ty)) (hob : ∀ C, ty ≠ .object C)
    {n : Int32} {N' : Nat} {a0 : vp_A} (ha : ∀ cA : ClassId, vp_cell cA a0 = arrV cA N' (fun _ => defaultValue ty)) (hn : ¬ n < 0) (hN : n.toNatClampNeg = N') (hbytes : N' * componentBytes ty ≤ 536870912) (hcells : cells + 1 ≤ R.cells) (hslots : slots + N' ≤ R.slots) (hdg : decode cc pc = .ok (.newarray atype, 2))
    (kk : ∀ (q : Nat) (H1 : Heap), M q = none → A q → zM A G (zu M q (.inl (cA, a0))) H1 → va_S A H0 H1 locs →
      W p l e R s m args below meth c H1 locs (cells + 1) (slots + N') Q (F0 m (pc + 2) ls (.ref q :: rest))) : W p l e R s m args below meth c H locs cells slots Q (F0 m pc ls (.int n :: rest)) := by
  subst hty
  have hRA := (hK.1.2 t0 _ ht).2
  refine va_newaK S.1 S.2.1 (S.2.2.2.2 _ harr) rfl hdg rfl hn hN hbytes hcells hslots rfl fun H1 cB e1 z1 o1 hAr hNm => ?_
  have hcc : cB = cA := by
    revert hRA hNm hob
    generalize newarray.typeOf atype = ty
    intro hob hRA hNm
    cases ty with
    | object C => exact absurd rfl (hob C)
    | _ => exact Option.some.inj (hNm.symm.trans hRA)
  subst hcc
  exact kk H.size H1 (hM.fresh (Nat.le_refl _)) (hA _ hS.1) (hM.new (hA _ hS.1) (by show H1[H.size]? = some (vp_cell _ _); rw [ha]; exact e1) o1) ⟨Nat.le_trans hS.1 (by omega), fun x h1 h2 => (o1 x (Nat.lt_of_lt_of_le h1 hS.1)).trans (hS.2.1 x h1 h2), hS.2.2⟩
theorem z_newq (S : CallFix p m c cc nL s args zB own) (hK : zK G s) (hM : zM A G M H) (hS : va_S A H0 H locs) (hA : ∀ q : Nat, H0.size ≤ q → A q) {C : String} {index : Nat} (hclink : Cond.classLink own index C ∈ zB) (hover : Cond.arrayOver (.object C) ∈ zNest) (t0 : Nat) {cA : ClassId} (ht : (zT G.2.2)[t0]? = some (cA, .object C))
    {n : Int32} {N' : Nat} (hn : ¬ n < 0) (hN : n.toNatClampNeg = N') (hbytes : N' * 4 ≤ 536870912) (hcells : cells + 1 ≤ R.cells) (hslots : slots + N' ≤ R.slots) (hdg : decode cc pc = .ok (.anewarray index, 3))
    (kk : ∀ (q : Nat) (H1 : Heap), M q = none → A q → zM A G (zu M q (.inl (cA, N', .inr (.inr (.inr (.inr (fun _ => none))))))) H1 → va_S A H0 H1 locs →
      W p l e R s m args below meth c H1 locs (cells + 1) (slots + N') Q (F0 m (pc + 3) ls (.ref q :: rest))) : W p l e R s m args below meth c H locs cells slots Q (F0 m pc ls (.int n :: rest)) := by
  subst hN
  obtain ⟨kA0, comp0, r1, r2, r3, r4⟩ := (hK.1.2 t0 _ ht).2
  refine W.anew S.1 S.2.1 S.2.2.2.1 (S.2.2.2.2 _ hclink) (va_AO.use (hK.2 _ hover)) rfl hdg rfl hn hbytes hcells hslots fun cB kA comp f1 f2 f3 f4 => ?_
  have hcc : cB = cA := Option.some.inj (f1.symm.trans r4)
  subst hcc
  generalize hH1 : H.push ({ cls := cB, slots := Array.replicate n.toNatClampNeg .null, vm := .none } : Cell) = H1
  have z1 : H1.size = H.size + 1 := by rw [← hH1, Array.size_push]
  have e1 : H1[H.size]? = some (arrV cB n.toNatClampNeg (fun _ => .null)) := by rw [← hH1, Array.getElem?_push_size, ← arrV_new]
  have o1 : ∀ q : Nat, q < H.size → H1[q]? = H[q]? := fun q hq => by rw [← hH1, Array.getElem?_push, if_neg (Nat.ne_of_lt hq)]
  exact kk H.size H1 (hM.fresh (Nat.le_refl _)) (hA _ hS.1) (hM.new (hA _ hS.1) e1 o1) ⟨Nat.le_trans hS.1 (by omega), fun x h1 h2 => (o1 x (Nat.lt_of_lt_of_le h1 hS.1)).trans (hS.2.1 x h1 h2), hS.2.2⟩
theorem z_iald (S : CallFix p m c cc nL s args zB own) (hK : zK G s) (hM : zM A G M H) (t0 : Nat) {cA : ClassId} {n : Nat} {f : Nat → Int32} (ha : M a = some (.inl (cA, n, .inl f))) (ht : (zT G.2.2)[t0]? = some (cA, .int)) {i : Int32} (hin : vp_in i n) (hdg : decode cc pc = .ok (.iaload, 1))
    (kk : W p l e R s m args below meth c H locs cells slots Q (F0 m (pc + 1) ls (.int (f i.toNatClampNeg) :: rest))) : W p l e R s m args below meth c H locs cells slots Q (F0 m pc ls (.int i :: .ref a :: rest)) :=
  va_iald S.1 S.2.1 hK.1 (hM.one ha) 0 t0 rfl ht hin hdg kk
theorem z_lald (S : CallFix p m c cc nL s args zB own) (hK : zK G s) (hM : zM A G M H) (t0 : Nat) {cA : ClassId} {n : Nat} {f : Nat → Int64} (ha : M a = some (.inl (cA, n, .inr (.inl f)))) (ht : (zT G.2.2)[t0]? = some (cA, .long)) {i : Int32} (hin : vp_in i n) (hdg : decode cc pc = .ok (.laload, 1))
    (kk : W p l e R s m args below meth c H locs cells slots Q (F0 m (pc + 1) ls (.long (f i.toNatClampNeg) :: rest))) : W p l e R s m args below meth c H locs cells slots Q (F0 m pc ls (.int i :: .ref a :: rest)) :=
  va_lald S.1 S.2.1 hK.1 (hM.one ha) 0 t0 rfl ht hin hdg kk
theorem z_zald (S : CallFix p m c cc nL s args zB own) (hK : zK G s) (hM : zM A G M H) (t0 : Nat) {cA : ClassId} {n : Nat} {f : Nat → Int32} (ha : M a = some (.inl (cA, n, .inl f))) (ht : (zT G.2.2)[t0]? = some (cA, .boolean)) {i : Int32} (hin : vp_in i n) (hdg : decode cc pc = .ok (.baload, 1))
    (kk : W p l e R s m args below meth c H locs cells slots Q (F0 m (pc + 1) ls (.int (f i.toNatClampNeg) :: rest))) : W p l e R s m args below meth c H locs cells slots Q (F0 m pc ls (.int i :: .ref a :: rest)) :=
  va_zald S.1 S.2.1 hK.1 (hM.one ha) 0 t0 rfl ht hin hdg kk
theorem z_aald (S : CallFix p m c cc nL s args zB own) (hK : zK G s) (hM : zM A G M H) (t0 : Nat) {cA : ClassId} {C : String} {n : Nat} {f : Nat → Option Nat} (ha : M a = some (.inl (cA, n, .inr (.inr (.inr (.inr f)))))) (ht : (zT G.2.2)[t0]? = some (cA, .object C)) {i : Int32} (hin : vp_in i n) (hdg : decode cc pc = .ok (.aaload, 1))
    (kk : W p l e R s m args below meth c H locs cells slots Q (F0 m (pc + 1) ls (va_rf (f i.toNatClampNeg) :: rest))) : W p l e R s m args below meth c H locs cells slots Q (F0 m pc ls (.int i :: .ref a :: rest)) :=
  va_aldq S.1 S.2.1 hK.1 (hM.one ha) 0 t0 rfl ht hin hdg kk
theorem z_alen (S : CallFix p m c cc nL s args zB own) (hK : zK G s) (hM : zM A G M H) (t0 : Nat) {cA : ClassId} {x : vp_A} (ha : M a = some (.inl (cA, x))) {ty : FieldType} (ht : (zT G.2.2)[t0]? = some (cA, ty)) {v : Int32} (hv : Int32.ofNat x.1 = v) (hdg : decode cc pc = .ok (.arraylength, 1))
    (kk : W p l e R s m args below meth c H locs cells slots Q (F0 m (pc + 1) ls (.int v :: rest))) : W p l e R s m args below meth c H locs cells slots Q (F0 m pc ls (.ref a :: rest)) :=
  va_alen S.1 S.2.1 hK.1 (hM.one ha) 0 t0 rfl ht hv hdg kk
theorem z_iast (S : CallFix p m c cc nL s args zB own) (hK : zK G s) (hM : zM A G M H) (hS : va_S A H0 H locs) (t0 : Nat) {cA : ClassId} {n : Nat} {f : Nat → Int32} (ha : M a = some (.inl (cA, n, .inl f))) (ht : (zT G.2.2)[t0]? = some (cA, .int)) {i x : Int32} (hin : vp_in i n) (hdg : decode cc pc = .ok (.iastore, 1))
    (kk : ∀ (H1 : Heap) (locs1 : List Loc), zM A G (zu M a (.inl (cA, n, .inl (upd f i.toNatClampNeg x)))) H1 → va_S A H0 H1 locs1 → W p l e R s m args below meth c H1 locs1 cells slots Q (F0 m (pc + 1) ls rest)) : W p l e R s m args below meth c H locs cells slots Q (F0 m pc ls (.int x :: .int i :: .ref a :: rest)) := by
  obtain ⟨hAa, hcell⟩ := hM a _ ha
  refine W.iast S.1 S.2.1 hcell ((hK.1.2 t0 _ ht).1 n (fun j => .int (f j))) (fun q => by cases q) (by show ¬ (i < 0 ∨ (arrV _ _ _).slots.size ≤ _); rw [arrV_size]; exact hin) rfl rfl hdg fun H1 e z oq => ?_
  refine kk H1 _ (hM.put hAa ?_ oq) (hS.put z oq hAa)
  show H1[a]? = some (vp_cell _ _)
  rw [e, vp_cell_i, vp_cell_i, arrV_store]
  congr 2
  funext q
  by_cases hq : q = i.toNatClampNeg
  · subst hq; simp [updV, upd]
  · simp [updV, upd, hq]
theorem z_last (S : CallFix p m c cc nL s args zB own) (hK : zK G s) (hM : zM A G M H) (hS : va_S A H0 H locs) (t0 : Nat) {cA : ClassId} {n : Nat} {f : Nat → Int64} (ha : M a = some (.inl (cA, n, .inr (.inl f)))) (ht : (zT G.2.2)[t0]? = some (cA, .long)) {i : Int32} {x : Int64} (hin : vp_in i n) (hdg : decode cc pc = .ok (.lastore, 1))
    (kk : ∀ (H1 : Heap) (locs1 : List Loc), zM A G (zu M a (.inl (cA, n, .inr (.inl (vp_updL f i.toNatClampNeg x))))) H1 → va_S A H0 H1 locs1 → W p l e R s m args below meth c H1 locs1 cells slots Q (F0 m (pc + 1) ls rest)) : W p l e R s m args below meth c H locs cells slots Q (F0 m pc ls (.long x :: .int i :: .ref a :: rest)) := by
  obtain ⟨hAa, hcell⟩ := hM a _ ha
  refine W.last S.1 S.2.1 hcell ((hK.1.2 t0 _ ht).1 n (fun j => .long (f j))) (fun q => by cases q) (by show ¬ (i < 0 ∨ (arrV _ _ _).slots.size ≤ _); rw [arrV_size]; exact hin) rfl rfl hdg fun H1 e z oq => ?_
  refine kk H1 _ (hM.put hAa ?_ oq) (hS.put z oq hAa)
  show H1[a]? = some (vp_cell _ _)
  rw [e, vp_cell_l, vp_cell_l, arrV_store]
  congr 2
  funext q
  by_cases hq : q = i.toNatClampNeg
  · subst hq; simp [updV, vp_updL]
  · simp [updV, vp_updL, hq]
theorem z_zast (S : CallFix p m c cc nL s args zB own) (hK : zK G s) (hM : zM A G M H) (hS : va_S A H0 H locs) (t0 : Nat) {cA : ClassId} {n : Nat} {f : Nat → Int32} (ha : M a = some (.inl (cA, n, .inl f))) (ht : (zT G.2.2)[t0]? = some (cA, .boolean)) {i x : Int32} (hin : vp_in i n) (hnx : narrow .boolean (.int x) = .int x) (hdg : decode cc pc = .ok (.bastore, 1))
    (kk : ∀ (H1 : Heap) (locs1 : List Loc), zM A G (zu M a (.inl (cA, n, .inl (upd f i.toNatClampNeg x)))) H1 → va_S A H0 H1 locs1 → W p l e R s m args below meth c H1 locs1 cells slots Q (F0 m (pc + 1) ls rest)) : W p l e R s m args below meth c H locs cells slots Q (F0 m pc ls (.int x :: .int i :: .ref a :: rest)) := by
  obtain ⟨hAa, hcell⟩ := hM a _ ha
  refine W.zast S.1 S.2.1 hcell ((hK.1.2 t0 _ ht).1 n (fun j => .int (f j))) (fun q => by cases q) (by show ¬ (i < 0 ∨ (arrV _ _ _).slots.size ≤ _); rw [arrV_size]; exact hin) rfl rfl hdg fun H1 e z oq => ?_
  rw [hnx] at e
  refine kk H1 _ (hM.put hAa ?_ oq) (hS.put z oq hAa)
  show H1[a]? = some (vp_cell _ _)
  rw [e, vp_cell_i, vp_cell_i, arrV_store]
  congr 2
  funext q
  by_cases hq : q = i.toNatClampNeg
  · subst hq; simp [updV, upd]
  · simp [updV, upd, hq]
theorem z_aast (S : CallFix p m c cc nL s args zB own) (hK : zK G s) (hM : zM A G M H) (hS : va_S A H0 H locs) (t0 : Nat) {ci : Nat} {cA : ClassId} {r : vw_C} {n v : Nat} {vs : List Value} {f : Nat → Option Nat} (ha : M a = some (.inl (cA, n, .inr (.inr (.inr (.inr f)))))) (ht : (zT G.2.2)[t0]? = some (cA, .object r.1)) (hv : M v = some (.inr (ci, vs))) (hc : vwCl[ci]? = some r) {i : Int32} (hin : vp_in i n) (hdg : decode cc pc = .ok (.aastore, 1))
    (kk : ∀ (H1 : Heap) (locs1 : List Loc), zM A G (zu M a (.inl (cA, n, .inr (.inr (.inr (.inr (va_up f i.toNatClampNeg (some v)))))))) H1 → va_S A H0 H1 locs1 → W p l e R s m args below meth c H1 locs1 cells slots Q (F0 m (pc + 1) ls rest)) : W p l e R s m args below meth c H locs cells slots Q (F0 m pc ls (.ref v :: .int i :: .ref a :: rest)) := by
  have hlt : i.toNatClampNeg < n := Nat.not_le.mp fun q => hin (Or.inr q)
  have h0 : ¬ i < 0 := fun q => hin (Or.inl q)
  obtain ⟨hAa, hcell⟩ := hM a _ ha
  obtain ⟨-, r', hr', cellV, g1, g2, g3, -⟩ := hM v _ hv
  have hcls := (hK.1.1 ci r hc).2
  obtain ⟨kA, comp, k1, k2, k3, -⟩ := (hK.1.2 t0 _ ht).2
  have hcomp : comp = G.1 ci := Option.some.inj (k3.symm.trans hcls.1)
  subst hcomp
  obtain ⟨kC, hkC, -⟩ := hcls.2
  refine W.aast S.1 S.2.1 hcell (fun q h => by cases h) (fun h => by cases h) k1 k2 rfl hkC ⟨h0, by show _ < (arrV _ _ _).slots.size; rw [arrV_size]; exact hlt⟩ g1 (fun q h => by rw [g3] at h; cases h) (by rw [g2]; exact hkC) (by rw [g2]; exact va_assign hcls) rfl rfl hdg fun H1 e z oq => ?_
  refine kk H1 _ (hM.put hAa ?_ oq) (hS.put z oq hAa)
  show H1[a]? = some (vp_cell _ _)
  rw [e, vp_cell_q, vp_cell_q, arrV_store]
  congr 2
  funext q
  by_cases hq : q = i.toNatClampNeg
  · subst hq; simp [updV, va_up, va_rf]
  · simp [updV, va_up, hq]
theorem z_objInit (S : CallFix p m c cc nL s args zB own) (hn : ls.size = nL) {idx : Nat} (hl : Cond.methodLink own idx Lib.objectInit ∈ zB) (hi : Cond.instanceMethod Lib.objectInit ∈ zB) (hcd : Cond.code Lib.objectInit ⟨#[0xb1]⟩ 1 none ∈ zB) (hdg : decode cc pc = .ok (.invokespecial idx, 3)) (hframes : 1 ≤ R.frames) (hlocals : (rest.map fun v => v.category).sum + 12 ≤ R.locals)
    (kk : W p l e R s m args below meth c H locs cells slots Q (F0 m (pc + 3) ls rest)) : W p l e R s m args below meth c H locs cells slots Q (F0 m pc ls (.ref a :: rest)) :=
  W.objInit S.1 S.2.1 S.2.2.2.1 (S.2.2.2.2 _ hl) (S.2.2.2.2 _ hi) (S.2.2.2.2 _ hcd) rfl (by rw [S.2.2.1]; exact hn) rfl hdg hframes (by show 2 * 0 + _ + 12 ≤ _; omega) kk
/-- behind a call -/
theorem z_call {mc ms : Nat} {st0 : List Value} {av : Array Value} {post : Option Value → zMap → Prop} (hr : va_Run p l e R s m args below meth c H locs cells slots mc ms (F0 m pc ls st0) rest (zQ A G post av) A) (hS : va_S A H0 H locs)
    (kk : ∀ (r : Option Value) (M1 : zMap) (H1 : Heap) (locs1 : List Loc), post r M1 → zM A G M1 H1 → va_S A H0 H1 locs1 → W p l e R s m args below meth c H1 locs1 (cells + mc) (slots + ms) Q (F0 m (pc + 3) ls (r.toList ++ rest))) : W p l e R s m args below meth c H locs cells slots Q (F0 m pc ls st0) := by
  intro T hT X
  obtain ⟨v, st₀, t, T', L, h0, X', hL, e1, e2, ⟨⟨r, M1, hv, hp, hM1⟩, hz, hk⟩, st⟩ := hr T hT X
  cases hv
  rw [h0] at hz hk
  obtain ⟨t2, a1, b1⟩ := kk v M1 T'.heap (locs ++ L) hp (by rw [e1]; exact hM1)
    ⟨Nat.le_trans hS.1 (by rw [e1]; exact hz), fun q h1 h2 => by rw [e1, hk q (Nat.lt_of_lt_of_le h1 hS.1) h2]; exact hS.2.1 q h1 h2, fun q hq => by
      rcases List.mem_append.mp hq with h | h
      · exact hS.2.2 q h
      · exact hL q h⟩ T' rfl X'
  exact ⟨t2, st t2 a1, b1⟩
theorem zCallB {y : MethodName} {bytes : ByteArray} {maxL index n : Nat} {ret : Option FieldType} {rm : Room} (S : CallFix p m c cc nL s args zB own) (ok : zOK y bytes maxL ret n) (hl : Cond.methodLink own index y ∈ zB) (hR : rm.frames + 1 ≤ R.frames ∧ 8 + (maxL + 11) + rm.locals ≤ R.locals) : CallB R s args own index y bytes maxL ret (zw y bytes maxL ret) rm rm.cells rm.slots n :=
  callB_of n S.2.2.2.2 (zgood ok.1) rfl rfl rfl (S.2.2.2.2 _ ok.2.1) (S.2.2.2.2 _ hl) ok.2.2 hR
theorem zPre {av : List Value} (hK : zK G s) (hM : zM A G M H) (hS : va_S A H0 H locs) (hA : ∀ q : Nat, H0.size ≤ q → A q) (U : State) (hU : U.heap = H) (hW : s.WarmedH U.vm) : zPc av A G M av.toArray U :=
  ⟨rfl, hK.warm hW, by rw [hU]; exact hM, fun q h => hA q (Nat.le_trans hS.1 (by rw [← hU]; exact h))⟩
theorem z_callV {y : MethodName} {bytes : ByteArray} {maxL index n : Nat} {ret : Option FieldType} {rm : Room} {b : Nat} {As st0 : List Value} {post : Option Value → zMap → Prop} (S : CallFix p m c cc nL s args zB own) (hm : zMet l y bytes maxL ret rm (.ref b :: As) A G M post) (ok : zOK y bytes maxL ret n) (hl : Cond.methodLink own index y ∈ zB) (hi : Cond.instanceMethod y ∈ zB) (hse : Cond.selects y.cls y y ∈ zB) (hR : rm.frames + 1 ≤ R.frames ∧ 8 + (maxL + 11) + rm.locals ≤ R.locals) (hK : zK G s) (hM : zM A G M H) (hS : va_S A H0 H locs) (hA : ∀ q : Nat, H0.size ≤ q → A q)
    {ci N : Nat} {T : u_T} {fs : List Value} (he : M b = some (.inr (ci, fs))) (hc : vwCl[ci]? = some (y.cls, T, N)) (hn : As.length = n) (hsz : ls.size = nL) (hst : st0 = As.reverse ++ .ref b :: rest) (hw : (rest.map fun v => v.category).sum ≤ 8) (hdg : decode cc pc = .ok (.invokevirtual index, 3)) (hf : cells + rm.cells ≤ R.cells ∧ slots + rm.slots ≤ R.slots)
    (kk : ∀ (r : Option Value) (M1 : zMap) (H1 : Heap) (locs1 : List Loc), post r M1 → zM A G M1 H1 → va_S A H0 H1 locs1 → W p l e R s m args below meth c H1 locs1 (cells + rm.cells) (slots + rm.slots) Q (F0 m (pc + 3) ls (r.toList ++ rest))) : W p l e R s m args below meth c H locs cells slots Q (F0 m pc ls st0) :=
  z_call (va_runV S hm ⟨zCallB S ok hl hR, S.2.2.2.2 _ hi, S.2.2.2.2 _ hse⟩ ⟨zPc.blind, va_recv hK.1 (hM.one he) hc (q0 := 0) rfl, zPre hK hM hS hA⟩ rfl hn hsz hst (lv_room (m := m) (pc := pc) (ls := ls) (rest := st0) hw) hdg hf) hS kk
theorem z_callS {y : MethodName} {bytes : ByteArray} {maxL index n : Nat} {ret : Option FieldType} {rm : Room} {As st0 : List Value} {post : Option Value → zMap → Prop} (S : CallFix p m c cc nL s args zB own) (hm : zMet l y bytes maxL ret rm As A G M post) (ok : zOK y bytes maxL ret n) (hl : Cond.methodLink own index y ∈ zB) (hstat : Cond.static y ∈ zB) (hR : rm.frames + 1 ≤ R.frames ∧ 8 + (maxL + 11) + rm.locals ≤ R.locals) (hK : zK G s) (hM : zM A G M H) (hS : va_S A H0 H locs) (hA : ∀ q : Nat, H0.size ≤ q → A q)
    (hn : As.length = n) (hsz : ls.size = nL) (hst : st0 = As.reverse ++ rest) (hw : (rest.map fun v => v.category).sum ≤ 8) (hdg : decode cc pc = .ok (.invokestatic index, 3)) (hf : cells + rm.cells ≤ R.cells ∧ slots + rm.slots ≤ R.slots)
    (kk : ∀ (r : Option Value) (M1 : zMap) (H1 : Heap) (locs1 : List Loc), post r M1 → zM A G M1 H1 → va_S A H0 H1 locs1 → W p l e R s m args below meth c H1 locs1 (cells + rm.cells) (slots + rm.slots) Q (F0 m (pc + 3) ls (r.toList ++ rest))) : W p l e R s m args below meth c H locs cells slots Q (F0 m pc ls st0) :=
  z_call (va_runS S hm ⟨zCallB S ok hl hR, S.2.2.2.2 _ hstat⟩ ⟨zPc.blind, zPre hK hM hS hA⟩ rfl hn hsz hst (lv_room (m := m) (pc := pc) (ls := ls) (rest := st0) hw) hdg hf) hS kk
theorem z_callI {y : MethodName} {bytes : ByteArray} {maxL index n : Nat} {rm : Room} {b : Nat} {As st0 : List Value} {post : Option Value → zMap → Prop} (S : CallFix p m c cc nL s args zB own) (hm : zMet l y bytes maxL none rm (.ref b :: As) A G M post) (ok : zOK y bytes maxL none n) (hl : Cond.methodLink own index y ∈ zB) (hi : Cond.instanceMethod y ∈ zB) (hy : y.name = "<init>") (hR : rm.frames + 1 ≤ R.frames ∧ 8 + (maxL + 11) + rm.locals ≤ R.locals) (hK : zK G s) (hM : zM A G M H) (hS : va_S A H0 H locs) (hA : ∀ q : Nat, H0.size ≤ q → A q)
    (hn : As.length = n) (hsz : ls.size = nL) (hst : st0 = As.reverse ++ .ref b :: rest) (hw : (rest.map fun v => v.category).sum ≤ 8) (hdg : decode cc pc = .ok (.invokespecial index, 3)) (hf : cells + rm.cells ≤ R.cells ∧ slots + rm.slots ≤ R.slots)
    (kk : ∀ (r : Option Value) (M1 : zMap) (H1 : Heap) (locs1 : List Loc), post r M1 → zM A G M1 H1 → va_S A H0 H1 locs1 → W p l e R s m args below meth c H1 locs1 (cells + rm.cells) (slots + rm.slots) Q (F0 m (pc + 3) ls (r.toList ++ rest))) : W p l e R s m args below meth c H locs cells slots Q (F0 m pc ls st0) :=
  z_call (va_runI S hm ⟨zCallB S ok hl hR, hy, S.2.2.2.2 _ hi⟩ ⟨zPc.blind, zPre hK hM hS hA⟩ rfl hn hsz hst (lv_room (m := m) (pc := pc) (ls := ls) (rest := st0) hw) hdg hf) hS kk
theorem z_callIN {y : MethodName} {bytes : ByteArray} {host : String} {maxL index n : Nat} {rm : Room} {b : Nat} {As st0 : List Value} {post : Option Value → zMap → Prop} (S : CallFix p m c cc nL s args zB own) (hm : zMet l y bytes maxL none rm (.ref b :: As) A G M post) (ok : zOK y bytes maxL none n) (hl : Cond.methodLinkNest own index y host ∈ zNest) (hi : Cond.instanceMethod y ∈ zB) (hy : y.name = "<init>") (hR : rm.frames + 1 ≤ R.frames ∧ 8 + (maxL + 11) + rm.locals ≤ R.locals) (hK : zK G s) (hM : zM A G M H) (hS : va_S A H0 H locs) (hA : ∀ q : Nat, H0.size ≤ q → A q)
    (hn : As.length = n) (hsz : ls.size = nL) (hst : st0 = As.reverse ++ .ref b :: rest) (hw : (rest.map fun v => v.category).sum ≤ 8) (hdg : decode cc pc = .ok (.invokespecial index, 3)) (hf : cells + rm.cells ≤ R.cells ∧ slots + rm.slots ≤ R.slots)
    (kk : ∀ (r : Option Value) (M1 : zMap) (H1 : Heap) (locs1 : List Loc), post r M1 → zM A G M1 H1 → va_S A H0 H1 locs1 → W p l e R s m args below meth c H1 locs1 (cells + rm.cells) (slots + rm.slots) Q (F0 m (pc + 3) ls (r.toList ++ rest))) : W p l e R s m args below meth c H locs cells slots Q (F0 m pc ls st0) :=
  z_call (va_runIN S hm ⟨va_cnB n S.2.2.2.2 (zgood ok.1) rfl rfl rfl (hK.2 _ hl) (S.2.2.2.2 _ ok.2.1) ok.2.2 hR, hy, S.2.2.2.2 _ hi⟩ ⟨zPc.blind, zPre hK hM hS hA⟩ rfl hn hsz hst (lv_room (m := m) (pc := pc) (ls := ls) (rest := st0) hw) hdg hf) hS kk
theorem z_qq {post : Option Value → zMap → Prop} {r : Option Value} (hM : zM A G M H) (hS : va_S A s.heap H locs) (hp : post r M) : ∀ t : State, t.heap = H → s.WarmedH t.vm → zQ A G post args s (.returned r) t :=
  fun t ht _ => ⟨⟨r, M, rfl, hp, by rw [ht]; exact hM⟩, hS.F ht⟩
theorem z_iret (S : CallFix p m c cc nL s args zB own) {post : Option Value → zMap → Prop} {mc ms : Nat} {v : Int32} (hr : meth.sig.returnType = some .int) (hlocks : meth.locks = false) (hM : zM A G M H) (hS : va_S A s.heap H locs) (hp : post (some (.int v)) M) (hc : cells ≤ mc) (hs : slots ≤ ms) (hdg : decode cc pc = .ok (.ireturn, 1)) : W p l e R s m args below meth c H locs cells slots (MQ below (zQ A G post) args s mc ms A) (F0 m pc ls [.int v]) :=
  W.widen hc hs (W.iret S.1 S.2.1 hr (z_qq hM hS hp) hS.2.2 hdg hlocks)
theorem z_zret (S : CallFix p m c cc nL s args zB own) {post : Option Value → zMap → Prop} {mc ms : Nat} {v : Int32} (hr : meth.sig.returnType = some .boolean) (hlocks : meth.locks = false) (hn : narrow .boolean (.int v) = .int v) (hM : zM A G M H) (hS : va_S A s.heap H locs) (hp : post (some (.int v)) M) (hc : cells ≤ mc) (hs : slots ≤ ms) (hdg : decode cc pc = .ok (.ireturn, 1)) : W p l e R s m args below meth c H locs cells slots (MQ below (zQ A G post) args s mc ms A) (F0 m pc ls [.int v]) :=
  W.widen hc hs (W.zret S.1 S.2.1 hr hn (z_qq hM hS hp) hS.2.2 hdg hlocks)
theorem z_lret (S : CallFix p m c cc nL s args zB own) {post : Option Value → zMap → Prop} {mc ms : Nat} {v : Int64} (hr : meth.sig.returnType = some .long) (hlocks : meth.locks = false) (hM : zM A G M H) (hS : va_S A s.heap H locs) (hp : post (some (.long v)) M) (hc : cells ≤ mc) (hs : slots ≤ ms) (hdg : decode cc pc = .ok (.lreturn, 1)) : W p l e R s m args below meth c H locs cells slots (MQ below (zQ A G post) args s mc ms A) (F0 m pc ls [.long v]) :=
  W.widen hc hs (W.lret S.1 S.2.1 hr (z_qq hM hS hp) hS.2.2 hdg hlocks)
theorem z_vret (S : CallFix p m c cc nL s args zB own) {post : Option Value → zMap → Prop} {mc ms : Nat} (hr : meth.sig.returnType = none) (hlocks : meth.locks = false) (hM : zM A G M H) (hS : va_S A s.heap H locs) (hp : post none M) (hc : cells ≤ mc) (hs : slots ≤ ms) (hdg : decode cc pc = .ok (.return_, 1)) : W p l e R s m args below meth c H locs cells slots (MQ below (zQ A G post) args s mc ms A) (F0 m pc ls []) :=
  W.widen hc hs (W.vret S.1 S.2.1 hr (z_qq hM hS hp) hS.2.2 hdg hlocks)
theorem z_aret (S : CallFix p m c cc nL s args zB own) {post : Option Value → zMap → Prop} {mc ms : Nat} {C : String} {v : Value} (hr : meth.sig.returnType = some (.object C)) (hlocks : meth.locks = false) (hv : v = .null ∨ ∃ a, v = .ref a) (hM : zM A G M H) (hS : va_S A s.heap H locs) (hp : post (some v) M) (hc : cells ≤ mc) (hs : slots ≤ ms) (hdg : decode cc pc = .ok (.areturn, 1)) : W p l e R s m args below meth c H locs cells slots (MQ below (zQ A G post) args s mc ms A) (F0 m pc ls [v]) :=
  W.widen hc hs (W.aret S.1 S.2.1 hr (Or.inl ⟨C, rfl⟩) hv (z_qq hM hS hp) hS.2.2 hdg hlocks)
end ZW
/-- a Java boolean of a proposition -/
def zb (P : Prop) [Decidable P] : Int32 := if P then 1 else 0
theorem zb_t {P : Prop} [Decidable P] (h : P) : zb P = 1 := if_pos h
theorem zb_f {P : Prop} [Decidable P] (h : ¬ P) : zb P = 0 := if_neg h
theorem zb_0 {P : Prop} [Decidable P] : (zb P = 0) ↔ ¬ P := by
  by_cases h : P
  · rw [zb_t h]; exact ⟨fun q => absurd q (by decide), fun q => absurd h q⟩
  · rw [zb_f h]; exact ⟨fun _ => h, fun _ => rfl⟩
theorem zb_0n {P : Prop} [Decidable P] : (¬ zb P = 0) ↔ P := by
  rw [zb_0]; exact Decidable.not_not
theorem zb_c {P P' : Prop} [Decidable P] [Decidable P'] (h : P ↔ P') : zb P = zb P' := by
  by_cases hp : P
  · rw [zb_t hp, zb_t (h.mp hp)]
  · rw [zb_f hp, zb_f (fun q => hp (h.mpr q))]
def zbool (x : Int32) : Prop := x = 0 ∨ x = 1
theorem zb_bool {P : Prop} [Decidable P] : zbool (zb P) := by
  by_cases h : P
  · exact Or.inr (zb_t h)
  · exact Or.inl (zb_f h)
theorem z_nb {x : Int32} (h : zbool x) : narrow .boolean (.int x) = .int x := by rcases h with rfl | rfl <;> rfl
theorem z_fb {x : Int32} (h : zbool x) : fits .boolean (.int x) = true := by rcases h with rfl | rfl <;> rfl
theorem zbool_1 {x : Int32} (h : zbool x) (hn : ¬ x = 0) : x = 1 := h.resolve_left hn
theorem z_nq (C : String) (r : Option Nat) : narrow (.object C) (va_rf r) = va_rf r := by cases r <;> rfl
theorem z_fq (C : String) (r : Option Nat) : fits (.object C) (va_rf r) = true := by cases r <;> rfl
theorem z_cat1 (r : Option Nat) : (va_rf r).category = 1 := by cases r <;> rfl
theorem z_rf (r : Option Nat) : va_rf r = .null ∨ ∃ a, va_rf r = .ref a := by
  cases r with
  | none => exact Or.inl rfl
  | some a => exact Or.inr ⟨a, rfl⟩
section ZQ
variable {p : Program} {l : Launch} {e : Env} {R : Room} {s : State} {m : MethodId} {args : Array Value} {below : List Frame} {meth : Method} {c : Code} {H : Heap} {locs : List Loc} {cells slots : Nat} {Q : State → Prop}
variable {cc : ByteArray} {pc nL : Nat} {ls : Array Slot} {rest : List Value}
theorem z_aload_nq (hexec : p.tables.exec = Jvm.exec) (hb : c.code = cc) {k : Fin 4} {i : Nat} {r : Option Nat} (hdg : decode cc pc = .ok (.aload_n k, 1)) (hi : (k : Nat) = i) (hl : ls[i]? = some (.val (va_rf r)))
    (kk : W p l e R s m args below meth c H locs cells slots Q (F0 m (pc + 1) ls (va_rf r :: rest))) : W p l e R s m args below meth c H locs cells slots Q (F0 m pc ls rest) := by
  cases r with
  | none => exact lv_aload_nN hexec hb hdg hi hl kk
  | some a => exact lv_aload_n hexec hb hdg hi hl kk
theorem z_aloadq (hexec : p.tables.exec = Jvm.exec) (hb : c.code = cc) {i : Nat} {r : Option Nat} (hdg : decode cc pc = .ok (.aload i, 2)) (hl : ls[i]? = some (.val (va_rf r)))
    (kk : W p l e R s m args below meth c H locs cells slots Q (F0 m (pc + 2) ls (va_rf r :: rest))) : W p l e R s m args below meth c H locs cells slots Q (F0 m pc ls rest) := by
  cases r with
  | none => exact lv_aloadN hexec hb hdg hl kk
  | some a => exact lv_aload hexec hb hdg hl kk
theorem z_astore_nq (hexec : p.tables.exec = Jvm.exec) (hb : c.code = cc) {k : Fin 4} {i nL : Nat} {r : Option Nat} {lv lv' : List (Nat × Value)} (hdg : decode cc pc = .ok (.astore_n k, 1)) (hi : (k : Nat) = i) (h : lv_has ls nL lv) (hn : i < nL) (hl : (i, va_rf r) :: lv.filter (fun q => !(q.1 == i) && !(q.1 + 1 == i && q.2.category == 2)) = lv')
    (kk : ∀ ls' : Array Slot, lv_has ls' nL lv' → W p l e R s m args below meth c H locs cells slots Q (F0 m (pc + 1) ls' rest)) : W p l e R s m args below meth c H locs cells slots Q (F0 m pc ls (va_rf r :: rest)) := by
  cases r with
  | none => exact lv_astore_nN hexec hb hdg hi h hn hl kk
  | some a => exact lv_astore_n hexec hb hdg hi h hn hl kk
theorem z_astoreq (hexec : p.tables.exec = Jvm.exec) (hb : c.code = cc) {i nL : Nat} {r : Option Nat} {lv lv' : List (Nat × Value)} (hdg : decode cc pc = .ok (.astore i, 2)) (h : lv_has ls nL lv) (hn : i < nL) (hl : (i, va_rf r) :: lv.filter (fun q => !(q.1 == i) && !(q.1 + 1 == i && q.2.category == 2)) = lv')
    (kk : ∀ ls' : Array Slot, lv_has ls' nL lv' → W p l e R s m args below meth c H locs cells slots Q (F0 m (pc + 2) ls' rest)) : W p l e R s m args below meth c H locs cells slots Q (F0 m pc ls (va_rf r :: rest)) := by
  cases r with
  | none => exact lv_astoreN hexec hb hdg h hn hl kk
  | some a => exact lv_astore hexec hb hdg h hn hl kk
/-- a loop: I is its invariant (a state of its own, locals, heap), mu falls -/
theorem z_loop {σ : Type} (I : σ → Array Slot → Heap → List Loc → Prop) (mu : σ → Nat) (x0 : σ) (h0 : I x0 ls H locs)
    (step : ∀ (x : σ) (ls : Array Slot) (H : Heap) (locs : List Loc), I x ls H locs → (∀ (x' : σ) (ls' : Array Slot) (H' : Heap) (locs' : List Loc), I x' ls' H' locs' → mu x' < mu x → W p l e R s m args below meth c H' locs' cells slots Q (F0 m pc ls' rest)) → W p l e R s m args below meth c H locs cells slots Q (F0 m pc ls rest)) :
    W p l e R s m args below meth c H locs cells slots Q (F0 m pc ls rest) := by
  have key : ∀ (n : Nat) (x : σ) (ls : Array Slot) (H : Heap) (locs : List Loc), mu x < n → I x ls H locs → W p l e R s m args below meth c H locs cells slots Q (F0 m pc ls rest) := by
    intro n
    induction n with
    | zero => intro x ls H locs h; omega
    | succ n ih => intro x ls H locs hn hI; exact step x ls H locs hI (fun x' ls' H' locs' h' hm => ih x' ls' H' locs' (by omega) h')
  exact key _ x0 ls H locs (Nat.lt_succ_self _) h0
end ZQ
/-! calls of the law: the callee's cells A are a part of the caller's A0 -/
section ZL
variable {p : Program} {l : Launch} {e : Env} {R : Room} {s : State} {m : MethodId} {args : Array Value} {below : List Frame} {meth : Method} {c : Code} {H : Heap} {locs : List Loc} {cells slots : Nat} {Q : State → Prop}
variable {cc : ByteArray} {pc nL : Nat} {ls : Array Slot} {rest : List Value} {A A0 : Nat → Prop} {G : zG} {M : zMap} {a : Nat} {H0 : Heap} {own : String}
theorem z_callX {mc ms : Nat} {st0 : List Value} {av : Array Value} {post : Option Value → zMap → Prop} (hr : va_Run p l e R s m args below meth c H locs cells slots mc ms (F0 m pc ls st0) rest (zQ A G post av) A) (hS : va_S A0 H0 H locs) (hAA : ∀ q, A q → A0 q)
    (kk : ∀ (r : Option Value) (M1 : zMap) (H1 : Heap) (locs1 : List Loc), post r M1 → zM A G M1 H1 → H.size ≤ H1.size → (∀ q : Nat, q < H.size → ¬ A q → H1[q]? = H[q]?) → va_S A0 H0 H1 locs1 → W p l e R s m args below meth c H1 locs1 (cells + mc) (slots + ms) Q (F0 m (pc + 3) ls (r.toList ++ rest))) : W p l e R s m args below meth c H locs cells slots Q (F0 m pc ls st0) := by
  intro T hT X
  obtain ⟨v, st₀, t, T', L, h0, X', hL, e1, e2, ⟨⟨r, M1, hv, hp, hM1⟩, hz, hk⟩, st⟩ := hr T hT X
  cases hv
  rw [h0] at hz hk
  obtain ⟨t2, a1, b1⟩ := kk v M1 T'.heap (locs ++ L) hp (by rw [e1]; exact hM1) (by rw [e1]; exact hz) (fun q h1 h2 => by rw [e1]; exact hk q h1 h2)
    ⟨Nat.le_trans hS.1 (by rw [e1]; exact hz), fun q h1 h2 => by rw [e1, hk q (Nat.lt_of_lt_of_le h1 hS.1) (fun z => h2 (hAA q z))]; exact hS.2.1 q h1 h2, fun q hq => by
      rcases List.mem_append.mp hq with h | h
      · exact hS.2.2 q h
      · exact hAA _ (hL q h)⟩ T' rfl X'
  exact ⟨t2, st t2 a1, b1⟩
theorem zPreX {av : List Value} (hK : zK G s) (hM : zM A G M H) (hA : ∀ q : Nat, H.size ≤ q → A q) (U : State) (hU : U.heap = H) (hW : s.WarmedH U.vm) : zPc av A G M av.toArray U :=
  ⟨rfl, hK.warm hW, by rw [hU]; exact hM, fun q h => hA q (by rw [← hU]; exact h)⟩
theorem z_callVX {y : MethodName} {bytes : ByteArray} {maxL index n : Nat} {ret : Option FieldType} {rm : Room} {b : Nat} {As st0 : List Value} {post : Option Value → zMap → Prop} (S : CallFix p m c cc nL s args zB own) (hm : zMet l y bytes maxL ret rm (.ref b :: As) A G M post) (ok : zOK y bytes maxL ret n) (hl : Cond.methodLink own index y ∈ zB) (hi : Cond.instanceMethod y ∈ zB) (hse : Cond.selects y.cls y y ∈ zB) (hR : rm.frames + 1 ≤ R.frames ∧ 8 + (maxL + 11) + rm.locals ≤ R.locals) (hK : zK G s) (hM : zM A G M H) (hS : va_S A0 H0 H locs) (hA : ∀ q : Nat, H.size ≤ q → A q) (hAA : ∀ q, A q → A0 q)
    {ci N : Nat} {T : u_T} {fs : List Value} (he : M b = some (.inr (ci, fs))) (hc : vwCl[ci]? = some (y.cls, T, N)) (hn : As.length = n) (hsz : ls.size = nL) (hst : st0 = As.reverse ++ .ref b :: rest) (hw : (rest.map fun v => v.category).sum ≤ 8) (hdg : decode cc pc = .ok (.invokevirtual index, 3)) (hf : cells + rm.cells ≤ R.cells ∧ slots + rm.slots ≤ R.slots)
    (kk : ∀ (r : Option Value) (M1 : zMap) (H1 : Heap) (locs1 : List Loc), post r M1 → zM A G M1 H1 → H.size ≤ H1.size → (∀ q : Nat, q < H.size → ¬ A q → H1[q]? = H[q]?) → va_S A0 H0 H1 locs1 → W p l e R s m args below meth c H1 locs1 (cells + rm.cells) (slots + rm.slots) Q (F0 m (pc + 3) ls (r.toList ++ rest))) : W p l e R s m args below meth c H locs cells slots Q (F0 m pc ls st0) :=
  z_callX (va_runV S hm ⟨zCallB S ok hl hR, S.2.2.2.2 _ hi, S.2.2.2.2 _ hse⟩ ⟨zPc.blind, va_recv hK.1 (hM.one he) hc (q0 := 0) rfl, zPreX hK hM hA⟩ rfl hn hsz hst (lv_room (m := m) (pc := pc) (ls := ls) (rest := st0) hw) hdg hf) hS hAA kk
theorem z_callIX {y : MethodName} {bytes : ByteArray} {maxL index n : Nat} {rm : Room} {b : Nat} {As st0 : List Value} {post : Option Value → zMap → Prop} (S : CallFix p m c cc nL s args zB own) (hm : zMet l y bytes maxL none rm (.ref b :: As) A G M post) (ok : zOK y bytes maxL none n) (hl : Cond.methodLink own index y ∈ zB) (hi : Cond.instanceMethod y ∈ zB) (hy : y.name = "<init>") (hR : rm.frames + 1 ≤ R.frames ∧ 8 + (maxL + 11) + rm.locals ≤ R.locals) (hK : zK G s) (hM : zM A G M H) (hS : va_S A0 H0 H locs) (hA : ∀ q : Nat, H.size ≤ q → A q) (hAA : ∀ q, A q → A0 q)
    (hn : As.length = n) (hsz : ls.size = nL) (hst : st0 = As.reverse ++ .ref b :: rest) (hw : (rest.map fun v => v.category).sum ≤ 8) (hdg : decode cc pc = .ok (.invokespecial index, 3)) (hf : cells + rm.cells ≤ R.cells ∧ slots + rm.slots ≤ R.slots)
    (kk : ∀ (r : Option Value) (M1 : zMap) (H1 : Heap) (locs1 : List Loc), post r M1 → zM A G M1 H1 → H.size ≤ H1.size → (∀ q : Nat, q < H.size → ¬ A q → H1[q]? = H[q]?) → va_S A0 H0 H1 locs1 → W p l e R s m args below meth c H1 locs1 (cells + rm.cells) (slots + rm.slots) Q (F0 m (pc + 3) ls (r.toList ++ rest))) : W p l e R s m args below meth c H locs cells slots Q (F0 m pc ls st0) :=
  z_callX (va_runI S hm ⟨zCallB S ok hl hR, hy, S.2.2.2.2 _ hi⟩ ⟨zPc.blind, zPreX hK hM hA⟩ rfl hn hsz hst (lv_room (m := m) (pc := pc) (ls := ls) (rest := st0) hw) hdg hf) hS hAA kk
end ZL
end
section
set_option maxRecDepth 100000 in
theorem kw_17 : Cond.fieldLink "ItemStates" 15 "ItemStates" "copyCount" "I" ∈ zB := zB_in (List.mem_append_right _ (List.mem_of_getElem? (i := 17) rfl)) rfl
set_option maxRecDepth 100000 in
theorem kw_16 : Cond.fieldLink "ItemStates" 11 "ItemStates" "copies" "[LItemStates$Copy;" ∈ zB := zB_in (List.mem_append_right _ (List.mem_of_getElem? (i := 16) rfl)) rfl
set_option maxRecDepth 100000 in
theorem kw_52 : Cond.methodLink "ItemStates" 44 yX2_isPlace ∈ zB := zB_in (List.mem_append_right _ (List.mem_of_getElem? (i := 52) rfl)) rfl
set_option maxRecDepth 100000 in
theorem kw_53 : Cond.static yX2_isPlace ∈ zB := zB_in (List.mem_append_right _ (List.mem_of_getElem? (i := 53) rfl)) rfl
set_option maxRecDepth 100000 in
theorem kw_49 : Cond.methodLink "ItemStates" 40 yX2_isType ∈ zB := zB_in (List.mem_append_right _ (List.mem_of_getElem? (i := 49) rfl)) rfl
set_option maxRecDepth 100000 in
theorem kw_50 : Cond.static yX2_isType ∈ zB := zB_in (List.mem_append_right _ (List.mem_of_getElem? (i := 50) rfl)) rfl
set_option maxRecDepth 100000 in
theorem kw_18 : Cond.fieldLink "ItemStates" 19 "ItemStates" "denied" "[Z" ∈ zB := zB_in (List.mem_append_right _ (List.mem_of_getElem? (i := 18) rfl)) rfl
set_option maxRecDepth 100000 in
theorem kw_88 : Cond.fieldLinkNest "ItemStates" 75 "ItemStates$Copy" "state" "I" "ItemStates" ∈ zNest := zN_in (List.mem_append_right _ (List.mem_of_getElem? (i := 88) rfl)) rfl
set_option maxRecDepth 100000 in
theorem kw_86 : Cond.fieldLinkNest "ItemStates" 68 "ItemStates$Copy" "place" "I" "ItemStates" ∈ zNest := zN_in (List.mem_append_right _ (List.mem_of_getElem? (i := 86) rfl)) rfl
set_option maxRecDepth 100000 in
theorem kw_78 : Cond.fieldLinkNest "ItemStates" 132 "ItemStates$Copy" "type" "I" "ItemStates" ∈ zNest := zN_in (List.mem_append_right _ (List.mem_of_getElem? (i := 78) rfl)) rfl
set_option maxRecDepth 100000 in
theorem kw_68 : Cond.methodLink "ItemStates" 54 yX2_hasRight ∈ zB := zB_in (List.mem_append_right _ (List.mem_of_getElem? (i := 68) rfl)) rfl
set_option maxRecDepth 100000 in
theorem kw_70 : Cond.instanceMethod yX2_hasRight ∈ zB := zB_in (List.mem_append_right _ (List.mem_of_getElem? (i := 70) rfl)) rfl
set_option maxRecDepth 100000 in
theorem ks_3 : Cond.selects yX2_hasRight.cls yX2_hasRight yX2_hasRight ∈ zB := zB_in (List.mem_append_left _ (List.mem_of_getElem? (i := 3) rfl)) rfl
set_option maxRecDepth 100000 in
theorem kw_154 : Cond.methodLink "ItemStates$Entry" 1 Lib.objectInit ∈ zB := zB_in (List.mem_append_right _ (List.mem_of_getElem? (i := 154) rfl)) rfl
set_option maxRecDepth 100000 in
theorem kw_12 : Cond.instanceMethod Lib.objectInit ∈ zB := zB_in (List.mem_append_right _ (List.mem_of_getElem? (i := 12) rfl)) rfl
set_option maxRecDepth 100000 in
theorem kw_13 : Cond.code Lib.objectInit ⟨#[0xb1]⟩ 1 none ∈ zB := zB_in (List.mem_append_right _ (List.mem_of_getElem? (i := 13) rfl)) rfl
set_option maxRecDepth 100000 in
theorem kw_155 : Cond.fieldLink "ItemStates$Entry" 7 "ItemStates$Entry" "day" "J" ∈ zB := zB_in (List.mem_append_right _ (List.mem_of_getElem? (i := 155) rfl)) rfl
set_option maxRecDepth 100000 in
theorem kw_157 : Cond.fieldLink "ItemStates$Entry" 13 "ItemStates$Entry" "state" "I" ∈ zB := zB_in (List.mem_append_right _ (List.mem_of_getElem? (i := 157) rfl)) rfl
set_option maxRecDepth 100000 in
theorem kw_159 : Cond.fieldLink "ItemStates$Entry" 17 "ItemStates$Entry" "late" "Z" ∈ zB := zB_in (List.mem_append_right _ (List.mem_of_getElem? (i := 159) rfl)) rfl
set_option maxRecDepth 100000 in
theorem kw_161 : Cond.fieldLink "ItemStates$Entry" 21 "ItemStates$Entry" "next" "LItemStates$Entry;" ∈ zB := zB_in (List.mem_append_right _ (List.mem_of_getElem? (i := 161) rfl)) rfl
set_option maxRecDepth 100000 in
theorem kw_76 : Cond.methodLink "ItemStates$Copy" 3 Lib.objectInit ∈ zB := zB_in (List.mem_append_right _ (List.mem_of_getElem? (i := 76) rfl)) rfl
set_option maxRecDepth 100000 in
theorem kw_77 : Cond.fieldLink "ItemStates$Copy" 9 "ItemStates$Copy" "type" "I" ∈ zB := zB_in (List.mem_append_right _ (List.mem_of_getElem? (i := 77) rfl)) rfl
set_option maxRecDepth 100000 in
theorem kw_79 : Cond.fieldLink "ItemStates$Copy" 15 "ItemStates$Copy" "barcode" "J" ∈ zB := zB_in (List.mem_append_right _ (List.mem_of_getElem? (i := 79) rfl)) rfl
set_option maxRecDepth 100000 in
theorem kw_81 : Cond.fieldLink "ItemStates$Copy" 19 "ItemStates$Copy" "digits" "I" ∈ zB := zB_in (List.mem_append_right _ (List.mem_of_getElem? (i := 81) rfl)) rfl
set_option maxRecDepth 100000 in
theorem kw_83 : Cond.fieldLink "ItemStates$Copy" 22 "ItemStates$Copy" "home" "I" ∈ zB := zB_in (List.mem_append_right _ (List.mem_of_getElem? (i := 83) rfl)) rfl
set_option maxRecDepth 100000 in
theorem kw_85 : Cond.fieldLink "ItemStates$Copy" 25 "ItemStates$Copy" "place" "I" ∈ zB := zB_in (List.mem_append_right _ (List.mem_of_getElem? (i := 85) rfl)) rfl
set_option maxRecDepth 100000 in
theorem kw_87 : Cond.fieldLink "ItemStates$Copy" 28 "ItemStates$Copy" "state" "I" ∈ zB := zB_in (List.mem_append_right _ (List.mem_of_getElem? (i := 87) rfl)) rfl
set_option maxRecDepth 100000 in
theorem kw_89 : Cond.fieldLink "ItemStates$Copy" 31 "ItemStates$Copy" "floats" "Z" ∈ zB := zB_in (List.mem_append_right _ (List.mem_of_getElem? (i := 89) rfl)) rfl
set_option maxRecDepth 100000 in
theorem kw_91 : Cond.fieldLink "ItemStates$Copy" 35 "ItemStates$Copy" "owed" "I" ∈ zB := zB_in (List.mem_append_right _ (List.mem_of_getElem? (i := 91) rfl)) rfl
set_option maxRecDepth 100000 in
theorem kw_93 : Cond.fieldLink "ItemStates$Copy" 38 "ItemStates$Copy" "wantedBy" "I" ∈ zB := zB_in (List.mem_append_right _ (List.mem_of_getElem? (i := 93) rfl)) rfl
set_option maxRecDepth 100000 in
theorem kw_95 : Cond.fieldLink "ItemStates$Copy" 41 "ItemStates$Copy" "first" "LItemStates$Entry;" ∈ zB := zB_in (List.mem_append_right _ (List.mem_of_getElem? (i := 95) rfl)) rfl
set_option maxRecDepth 100000 in
theorem kw_96 : Cond.fieldLinkNest "ItemStates" 109 "ItemStates$Copy" "first" "LItemStates$Entry;" "ItemStates" ∈ zNest := zN_in (List.mem_append_right _ (List.mem_of_getElem? (i := 96) rfl)) rfl
set_option maxRecDepth 100000 in
theorem kw_156 : Cond.fieldLinkNest "ItemStates" 135 "ItemStates$Entry" "day" "J" "ItemStates" ∈ zNest := zN_in (List.mem_append_right _ (List.mem_of_getElem? (i := 156) rfl)) rfl
set_option maxRecDepth 100000 in
theorem kw_162 : Cond.fieldLinkNest "ItemStates" 113 "ItemStates$Entry" "next" "LItemStates$Entry;" "ItemStates" ∈ zNest := zN_in (List.mem_append_right _ (List.mem_of_getElem? (i := 162) rfl)) rfl
set_option maxRecDepth 100000 in
theorem kw_135 : Cond.methodLink "ItemStates" 138 yX2_lastUpTo ∈ zB := zB_in (List.mem_append_right _ (List.mem_of_getElem? (i := 135) rfl)) rfl
set_option maxRecDepth 100000 in
theorem kw_136 : Cond.static yX2_lastUpTo ∈ zB := zB_in (List.mem_append_right _ (List.mem_of_getElem? (i := 136) rfl)) rfl
set_option maxRecDepth 100000 in
theorem kw_158 : Cond.fieldLinkNest "ItemStates" 118 "ItemStates$Entry" "state" "I" "ItemStates" ∈ zNest := zN_in (List.mem_append_right _ (List.mem_of_getElem? (i := 158) rfl)) rfl
set_option maxRecDepth 100000 in
theorem kw_149 : Cond.classLink "ItemStates" 114 "ItemStates$Entry" ∈ zB := zB_in (List.mem_append_right _ (List.mem_of_getElem? (i := 149) rfl)) rfl
set_option maxRecDepth 100000 in
theorem kw_150 : Cond.instantiable "ItemStates$Entry" 4 ∈ zB := zB_in (List.mem_append_right _ (List.mem_of_getElem? (i := 150) rfl)) rfl
set_option maxRecDepth 100000 in
theorem kw_4 : Cond.initialized "ItemStates$Entry" ∈ zB := zB_in (List.mem_append_right _ (List.mem_of_getElem? (i := 4) rfl)) rfl
set_option maxRecDepth 100000 in
theorem kw_151 : Cond.methodLinkNest "ItemStates" 142 yX1_init "ItemStates" ∈ zNest := zN_in (List.mem_append_right _ (List.mem_of_getElem? (i := 151) rfl)) rfl
set_option maxRecDepth 100000 in
theorem kw_152 : Cond.instanceMethod yX1_init ∈ zB := zB_in (List.mem_append_right _ (List.mem_of_getElem? (i := 152) rfl)) rfl
set_option maxRecDepth 100000 in
theorem kw_21 : Cond.fieldLink "ItemStates" 31 "ItemStates" "entryCount" "I" ∈ zB := zB_in (List.mem_append_right _ (List.mem_of_getElem? (i := 21) rfl)) rfl
set_option maxRecDepth 100000 in
theorem kw_20 : Cond.fieldLink "ItemStates" 27 "ItemStates" "greatestDay" "J" ∈ zB := zB_in (List.mem_append_right _ (List.mem_of_getElem? (i := 20) rfl)) rfl
set_option maxRecDepth 100000 in
theorem kw_172 : Cond.methodLink "ItemStates" 145 Lib.MathLoose.max_long.x ∈ zB := zB_in (List.mem_append_right _ (List.mem_of_getElem? (i := 172) rfl)) rfl
set_option maxRecDepth 100000 in
theorem kw_173 : Cond.static Lib.MathLoose.max_long.x ∈ zB := zB_in (List.mem_append_right _ (List.mem_of_getElem? (i := 173) rfl)) rfl
set_option maxRecDepth 100000 in
theorem kw_5 : Cond.initialized "java/lang/Math" ∈ zB := zB_in (List.mem_append_right _ (List.mem_of_getElem? (i := 5) rfl)) rfl
set_option maxRecDepth 100000 in
theorem kw_174 : Cond.code Lib.MathLoose.max_long.x Lib.MathLoose.max_long.code 4 (some .long) ∈ zB := zB_in (List.mem_append_right _ (List.mem_of_getElem? (i := 174) rfl)) rfl
set_option maxRecDepth 100000 in
theorem kw_94 : Cond.fieldLinkNest "ItemStates" 103 "ItemStates$Copy" "wantedBy" "I" "ItemStates" ∈ zNest := zN_in (List.mem_append_right _ (List.mem_of_getElem? (i := 94) rfl)) rfl
set_option maxRecDepth 100000 in
theorem kw_90 : Cond.fieldLinkNest "ItemStates" 93 "ItemStates$Copy" "floats" "Z" "ItemStates" ∈ zNest := zN_in (List.mem_append_right _ (List.mem_of_getElem? (i := 90) rfl)) rfl
set_option maxRecDepth 100000 in
theorem kw_84 : Cond.fieldLinkNest "ItemStates" 97 "ItemStates$Copy" "home" "I" "ItemStates" ∈ zNest := zN_in (List.mem_append_right _ (List.mem_of_getElem? (i := 84) rfl)) rfl
set_option maxRecDepth 100000 in
theorem kw_92 : Cond.fieldLinkNest "ItemStates" 106 "ItemStates$Copy" "owed" "I" "ItemStates" ∈ zNest := zN_in (List.mem_append_right _ (List.mem_of_getElem? (i := 92) rfl)) rfl
set_option maxRecDepth 100000 in
theorem kw_19 : Cond.fieldLink "ItemStates" 23 "ItemStates" "fees" "[I" ∈ zB := zB_in (List.mem_append_right _ (List.mem_of_getElem? (i := 19) rfl)) rfl
set_option maxRecDepth 100000 in
theorem kw_64 : Cond.methodLink "ItemStates" 62 yX2_find ∈ zB := zB_in (List.mem_append_right _ (List.mem_of_getElem? (i := 64) rfl)) rfl
set_option maxRecDepth 100000 in
theorem kw_66 : Cond.instanceMethod yX2_find ∈ zB := zB_in (List.mem_append_right _ (List.mem_of_getElem? (i := 66) rfl)) rfl
set_option maxRecDepth 100000 in
theorem ks_2 : Cond.selects yX2_find.cls yX2_find yX2_find ∈ zB := zB_in (List.mem_append_left _ (List.mem_of_getElem? (i := 2) rfl)) rfl
set_option maxRecDepth 100000 in
theorem kw_132 : Cond.methodLink "ItemStates" 71 yX2_stateOn ∈ zB := zB_in (List.mem_append_right _ (List.mem_of_getElem? (i := 132) rfl)) rfl
set_option maxRecDepth 100000 in
theorem kw_133 : Cond.static yX2_stateOn ∈ zB := zB_in (List.mem_append_right _ (List.mem_of_getElem? (i := 133) rfl)) rfl
set_option maxRecDepth 100000 in
theorem kw_126 : Cond.constant "ItemStates" 61 1000000 ∈ zB := zB_in (List.mem_append_right _ (List.mem_of_getElem? (i := 126) rfl)) rfl
set_option maxRecDepth 100000 in
theorem kw_41 : Cond.constantLong "ItemStates" 34 10 ∈ zB := zB_in (List.mem_append_right _ (List.mem_of_getElem? (i := 41) rfl)) rfl
set_option maxRecDepth 100000 in
theorem kw_42 : Cond.methodLink "ItemStates" 36 yX2_doubled ∈ zB := zB_in (List.mem_append_right _ (List.mem_of_getElem? (i := 42) rfl)) rfl
set_option maxRecDepth 100000 in
theorem kw_43 : Cond.static yX2_doubled ∈ zB := zB_in (List.mem_append_right _ (List.mem_of_getElem? (i := 43) rfl)) rfl
set_option maxRecDepth 100000 in
theorem kw_59 : Cond.methodLink "ItemStates" 122 yX2_check ∈ zB := zB_in (List.mem_append_right _ (List.mem_of_getElem? (i := 59) rfl)) rfl
set_option maxRecDepth 100000 in
theorem kw_38 : Cond.instanceMethod yX2_check ∈ zB := zB_in (List.mem_append_right _ (List.mem_of_getElem? (i := 38) rfl)) rfl
set_option maxRecDepth 100000 in
theorem kw_39 : Cond.selects yX2_check.cls yX2_check yX2_check ∈ zB := zB_in (List.mem_append_right _ (List.mem_of_getElem? (i := 39) rfl)) rfl
set_option maxRecDepth 100000 in
theorem kw_80 : Cond.fieldLinkNest "ItemStates" 126 "ItemStates$Copy" "barcode" "J" "ItemStates" ∈ zNest := zN_in (List.mem_append_right _ (List.mem_of_getElem? (i := 80) rfl)) rfl
set_option maxRecDepth 100000 in
theorem kw_82 : Cond.fieldLinkNest "ItemStates" 129 "ItemStates$Copy" "digits" "I" "ItemStates" ∈ zNest := zN_in (List.mem_append_right _ (List.mem_of_getElem? (i := 82) rfl)) rfl
set_option maxRecDepth 100000 in
theorem kw_160 : Cond.fieldLinkNest "ItemStates" 119 "ItemStates$Entry" "late" "Z" "ItemStates" ∈ zNest := zN_in (List.mem_append_right _ (List.mem_of_getElem? (i := 160) rfl)) rfl
set_option maxRecDepth 100000 in
theorem kw_11 : Cond.methodLink "ItemStates" 1 Lib.objectInit ∈ zB := zB_in (List.mem_append_right _ (List.mem_of_getElem? (i := 11) rfl)) rfl
set_option maxRecDepth 100000 in
theorem kw_14 : Cond.classLink "ItemStates" 9 "ItemStates$Copy" ∈ zB := zB_in (List.mem_append_right _ (List.mem_of_getElem? (i := 14) rfl)) rfl
set_option maxRecDepth 100000 in
theorem kw_15 : Cond.arrayOver (.object "ItemStates$Copy") ∈ zNest := zN_in (List.mem_append_right _ (List.mem_of_getElem? (i := 15) rfl)) rfl
set_option maxRecDepth 100000 in
theorem kw_35 : Cond.arrayClass .boolean ∈ zB := zB_in (List.mem_append_right _ (List.mem_of_getElem? (i := 35) rfl)) rfl
set_option maxRecDepth 100000 in
theorem kw_36 : Cond.arrayClass .int ∈ zB := zB_in (List.mem_append_right _ (List.mem_of_getElem? (i := 36) rfl)) rfl
set_option maxRecDepth 100000 in
theorem kw_55 : Cond.methodLink "ItemStates" 47 yX2_isBarcode ∈ zB := zB_in (List.mem_append_right _ (List.mem_of_getElem? (i := 55) rfl)) rfl
set_option maxRecDepth 100000 in
theorem kw_57 : Cond.instanceMethod yX2_isBarcode ∈ zB := zB_in (List.mem_append_right _ (List.mem_of_getElem? (i := 57) rfl)) rfl
set_option maxRecDepth 100000 in
theorem ks_0 : Cond.selects yX2_isBarcode.cls yX2_isBarcode yX2_isBarcode ∈ zB := zB_in (List.mem_append_left _ (List.mem_of_getElem? (i := 0) rfl)) rfl
set_option maxRecDepth 100000 in
theorem kw_60 : Cond.methodLink "ItemStates" 51 yX2_isTaken ∈ zB := zB_in (List.mem_append_right _ (List.mem_of_getElem? (i := 60) rfl)) rfl
set_option maxRecDepth 100000 in
theorem kw_62 : Cond.instanceMethod yX2_isTaken ∈ zB := zB_in (List.mem_append_right _ (List.mem_of_getElem? (i := 62) rfl)) rfl
set_option maxRecDepth 100000 in
theorem ks_1 : Cond.selects yX2_isTaken.cls yX2_isTaken yX2_isTaken ∈ zB := zB_in (List.mem_append_left _ (List.mem_of_getElem? (i := 1) rfl)) rfl
set_option maxRecDepth 100000 in
theorem kw_72 : Cond.instantiable "ItemStates$Copy" 10 ∈ zB := zB_in (List.mem_append_right _ (List.mem_of_getElem? (i := 72) rfl)) rfl
set_option maxRecDepth 100000 in
theorem kw_3 : Cond.initialized "ItemStates$Copy" ∈ zB := zB_in (List.mem_append_right _ (List.mem_of_getElem? (i := 3) rfl)) rfl
set_option maxRecDepth 100000 in
theorem kw_73 : Cond.methodLinkNest "ItemStates" 58 yX0_init "ItemStates" ∈ zNest := zN_in (List.mem_append_right _ (List.mem_of_getElem? (i := 73) rfl)) rfl
set_option maxRecDepth 100000 in
theorem kw_74 : Cond.instanceMethod yX0_init ∈ zB := zB_in (List.mem_append_right _ (List.mem_of_getElem? (i := 74) rfl)) rfl
set_option maxRecDepth 100000 in
theorem kw_199 : Cond.methodLink "ItemStates" 100 yX2_canBeWeeded ∈ zB := zB_in (List.mem_append_right _ (List.mem_of_getElem? (i := 199) rfl)) rfl
set_option maxRecDepth 100000 in
theorem kw_200 : Cond.static yX2_canBeWeeded ∈ zB := zB_in (List.mem_append_right _ (List.mem_of_getElem? (i := 200) rfl)) rfl
set_option maxRecDepth 100000 in
theorem kw_145 : Cond.methodLink "ItemStates" 85 yX2_enter ∈ zB := zB_in (List.mem_append_right _ (List.mem_of_getElem? (i := 145) rfl)) rfl
set_option maxRecDepth 100000 in
theorem kw_147 : Cond.instanceMethod yX2_enter ∈ zB := zB_in (List.mem_append_right _ (List.mem_of_getElem? (i := 147) rfl)) rfl
set_option maxRecDepth 100000 in
theorem ks_5 : Cond.selects yX2_enter.cls yX2_enter yX2_enter ∈ zB := zB_in (List.mem_append_left _ (List.mem_of_getElem? (i := 5) rfl)) rfl
set_option maxRecDepth 100000 in
theorem kw_131 : Cond.constantLong "ItemStates" 66 1000000000000 ∈ zB := zB_in (List.mem_append_right _ (List.mem_of_getElem? (i := 131) rfl)) rfl
set_option maxRecDepth 100000 in
theorem kw_138 : Cond.methodLink "ItemStates" 78 yX2_canFollow ∈ zB := zB_in (List.mem_append_right _ (List.mem_of_getElem? (i := 138) rfl)) rfl
set_option maxRecDepth 100000 in
theorem kw_139 : Cond.static yX2_canFollow ∈ zB := zB_in (List.mem_append_right _ (List.mem_of_getElem? (i := 139) rfl)) rfl
set_option maxRecDepth 100000 in
theorem kw_141 : Cond.methodLink "ItemStates" 81 yX2_lacksRight ∈ zB := zB_in (List.mem_append_right _ (List.mem_of_getElem? (i := 141) rfl)) rfl
set_option maxRecDepth 100000 in
theorem kw_143 : Cond.instanceMethod yX2_lacksRight ∈ zB := zB_in (List.mem_append_right _ (List.mem_of_getElem? (i := 143) rfl)) rfl
set_option maxRecDepth 100000 in
theorem ks_4 : Cond.selects yX2_lacksRight.cls yX2_lacksRight yX2_lacksRight ∈ zB := zB_in (List.mem_append_left _ (List.mem_of_getElem? (i := 4) rfl)) rfl
set_option maxRecDepth 100000 in
theorem kw_175 : Cond.methodLink "ItemStates" 89 yX2_carryOut ∈ zB := zB_in (List.mem_append_right _ (List.mem_of_getElem? (i := 175) rfl)) rfl
set_option maxRecDepth 100000 in
theorem kw_177 : Cond.instanceMethod yX2_carryOut ∈ zB := zB_in (List.mem_append_right _ (List.mem_of_getElem? (i := 177) rfl)) rfl
set_option maxRecDepth 100000 in
theorem ks_6 : Cond.selects yX2_carryOut.cls yX2_carryOut yX2_carryOut ∈ zB := zB_in (List.mem_append_left _ (List.mem_of_getElem? (i := 6) rfl)) rfl
set_option maxRecDepth 100000 in
theorem kw_221 : Cond.fieldLink "ItemStatesModel" 71 "ItemStatesModel" "copies" "I" ∈ zB := zB_in (List.mem_append_right _ (List.mem_of_getElem? (i := 221) rfl)) rfl
set_option maxRecDepth 100000 in
theorem kw_220 : Cond.fieldLink "ItemStatesModel" 57 "ItemStatesModel" "thrown" "I" ∈ zB := zB_in (List.mem_append_right _ (List.mem_of_getElem? (i := 220) rfl)) rfl
set_option maxRecDepth 100000 in
theorem kw_307 : Cond.methodLink "ItemStatesModel" 78 yX3_isCopy ∈ zB := zB_in (List.mem_append_right _ (List.mem_of_getElem? (i := 307) rfl)) rfl
set_option maxRecDepth 100000 in
theorem kw_309 : Cond.instanceMethod yX3_isCopy ∈ zB := zB_in (List.mem_append_right _ (List.mem_of_getElem? (i := 309) rfl)) rfl
set_option maxRecDepth 100000 in
theorem ks_7 : Cond.selects yX3_isCopy.cls yX3_isCopy yX3_isCopy ∈ zB := zB_in (List.mem_append_left _ (List.mem_of_getElem? (i := 7) rfl)) rfl
set_option maxRecDepth 100000 in
theorem kw_226 : Cond.fieldLink "ItemStatesModel" 23 "ItemStatesModel" "stands" "[I" ∈ zB := zB_in (List.mem_append_right _ (List.mem_of_getElem? (i := 226) rfl)) rfl
set_option maxRecDepth 100000 in
theorem kw_225 : Cond.fieldLink "ItemStatesModel" 20 "ItemStatesModel" "homes" "[I" ∈ zB := zB_in (List.mem_append_right _ (List.mem_of_getElem? (i := 225) rfl)) rfl
set_option maxRecDepth 100000 in
theorem kw_230 : Cond.fieldLink "ItemStatesModel" 36 "ItemStatesModel" "owes" "[I" ∈ zB := zB_in (List.mem_append_right _ (List.mem_of_getElem? (i := 230) rfl)) rfl
set_option maxRecDepth 100000 in
theorem kw_228 : Cond.fieldLink "ItemStatesModel" 29 "ItemStatesModel" "floats" "[Z" ∈ zB := zB_in (List.mem_append_right _ (List.mem_of_getElem? (i := 228) rfl)) rfl
set_option maxRecDepth 100000 in
theorem kw_231 : Cond.fieldLink "ItemStatesModel" 39 "ItemStatesModel" "barred" "[Z" ∈ zB := zB_in (List.mem_append_right _ (List.mem_of_getElem? (i := 231) rfl)) rfl
set_option maxRecDepth 100000 in
theorem kw_302 : Cond.constant "ItemStatesModel" 74 1000000 ∈ zB := zB_in (List.mem_append_right _ (List.mem_of_getElem? (i := 302) rfl)) rfl
set_option maxRecDepth 100000 in
theorem kw_232 : Cond.fieldLink "ItemStatesModel" 42 "ItemStatesModel" "fees" "[I" ∈ zB := zB_in (List.mem_append_right _ (List.mem_of_getElem? (i := 232) rfl)) rfl
set_option maxRecDepth 100000 in
theorem kw_286 : Cond.constantLong "ItemStatesModel" 61 10 ∈ zB := zB_in (List.mem_append_right _ (List.mem_of_getElem? (i := 286) rfl)) rfl
set_option maxRecDepth 100000 in
theorem kw_233 : Cond.fieldLink "ItemStatesModel" 75 "ItemStatesModel" "acts" "I" ∈ zB := zB_in (List.mem_append_right _ (List.mem_of_getElem? (i := 233) rfl)) rfl
set_option maxRecDepth 100000 in
theorem kw_234 : Cond.fieldLink "ItemStatesModel" 45 "ItemStatesModel" "actCopy" "[I" ∈ zB := zB_in (List.mem_append_right _ (List.mem_of_getElem? (i := 234) rfl)) rfl
set_option maxRecDepth 100000 in
theorem kw_237 : Cond.fieldLink "ItemStatesModel" 54 "ItemStatesModel" "actDay" "[J" ∈ zB := zB_in (List.mem_append_right _ (List.mem_of_getElem? (i := 237) rfl)) rfl
set_option maxRecDepth 100000 in
theorem kw_283 : Cond.methodLink "ItemStatesModel" 63 yX3_ten ∈ zB := zB_in (List.mem_append_right _ (List.mem_of_getElem? (i := 283) rfl)) rfl
set_option maxRecDepth 100000 in
theorem kw_284 : Cond.static yX3_ten ∈ zB := zB_in (List.mem_append_right _ (List.mem_of_getElem? (i := 284) rfl)) rfl
set_option maxRecDepth 100000 in
theorem kw_287 : Cond.methodLink "ItemStatesModel" 67 yX3_sign ∈ zB := zB_in (List.mem_append_right _ (List.mem_of_getElem? (i := 287) rfl)) rfl
set_option maxRecDepth 100000 in
theorem kw_288 : Cond.static yX3_sign ∈ zB := zB_in (List.mem_append_right _ (List.mem_of_getElem? (i := 288) rfl)) rfl
set_option maxRecDepth 100000 in
theorem kw_311 : Cond.methodLink "ItemStatesModel" 82 yX3_last ∈ zB := zB_in (List.mem_append_right _ (List.mem_of_getElem? (i := 311) rfl)) rfl
set_option maxRecDepth 100000 in
theorem kw_313 : Cond.instanceMethod yX3_last ∈ zB := zB_in (List.mem_append_right _ (List.mem_of_getElem? (i := 313) rfl)) rfl
set_option maxRecDepth 100000 in
theorem ks_8 : Cond.selects yX3_last.cls yX3_last yX3_last ∈ zB := zB_in (List.mem_append_left _ (List.mem_of_getElem? (i := 8) rfl)) rfl
set_option maxRecDepth 100000 in
theorem kw_235 : Cond.fieldLink "ItemStatesModel" 48 "ItemStatesModel" "actState" "[I" ∈ zB := zB_in (List.mem_append_right _ (List.mem_of_getElem? (i := 235) rfl)) rfl
set_option maxRecDepth 100000 in
theorem kw_227 : Cond.fieldLink "ItemStatesModel" 26 "ItemStatesModel" "states" "[I" ∈ zB := zB_in (List.mem_append_right _ (List.mem_of_getElem? (i := 227) rfl)) rfl
set_option maxRecDepth 100000 in
theorem kw_236 : Cond.fieldLink "ItemStatesModel" 51 "ItemStatesModel" "actLate" "[Z" ∈ zB := zB_in (List.mem_append_right _ (List.mem_of_getElem? (i := 236) rfl)) rfl
set_option maxRecDepth 100000 in
theorem kw_238 : Cond.fieldLink "ItemStatesModel" 86 "ItemStatesModel" "greatest" "J" ∈ zB := zB_in (List.mem_append_right _ (List.mem_of_getElem? (i := 238) rfl)) rfl
set_option maxRecDepth 100000 in
theorem kw_229 : Cond.fieldLink "ItemStatesModel" 33 "ItemStatesModel" "wants" "[I" ∈ zB := zB_in (List.mem_append_right _ (List.mem_of_getElem? (i := 229) rfl)) rfl
set_option maxRecDepth 100000 in
theorem kw_323 : Cond.methodLink "ItemStatesModel" 96 yX3_enter ∈ zB := zB_in (List.mem_append_right _ (List.mem_of_getElem? (i := 323) rfl)) rfl
set_option maxRecDepth 100000 in
theorem kw_325 : Cond.instanceMethod yX3_enter ∈ zB := zB_in (List.mem_append_right _ (List.mem_of_getElem? (i := 325) rfl)) rfl
set_option maxRecDepth 100000 in
theorem ks_9 : Cond.selects yX3_enter.cls yX3_enter yX3_enter ∈ zB := zB_in (List.mem_append_left _ (List.mem_of_getElem? (i := 9) rfl)) rfl
set_option maxRecDepth 100000 in
theorem kw_319 : Cond.constantLong "ItemStatesModel" 90 1000000000000 ∈ zB := zB_in (List.mem_append_right _ (List.mem_of_getElem? (i := 319) rfl)) rfl
set_option maxRecDepth 100000 in
theorem kw_320 : Cond.methodLink "ItemStatesModel" 92 yX3_follows ∈ zB := zB_in (List.mem_append_right _ (List.mem_of_getElem? (i := 320) rfl)) rfl
set_option maxRecDepth 100000 in
theorem kw_321 : Cond.static yX3_follows ∈ zB := zB_in (List.mem_append_right _ (List.mem_of_getElem? (i := 321) rfl)) rfl
set_option maxRecDepth 100000 in
theorem kw_222 : Cond.fieldLink "ItemStatesModel" 7 "ItemStatesModel" "types" "[I" ∈ zB := zB_in (List.mem_append_right _ (List.mem_of_getElem? (i := 222) rfl)) rfl
set_option maxRecDepth 100000 in
theorem kw_223 : Cond.fieldLink "ItemStatesModel" 13 "ItemStatesModel" "barcodes" "[J" ∈ zB := zB_in (List.mem_append_right _ (List.mem_of_getElem? (i := 223) rfl)) rfl
set_option maxRecDepth 100000 in
theorem kw_224 : Cond.fieldLink "ItemStatesModel" 17 "ItemStatesModel" "sizes" "[I" ∈ zB := zB_in (List.mem_append_right _ (List.mem_of_getElem? (i := 224) rfl)) rfl
set_option maxRecDepth 100000 in
theorem kw_219 : Cond.methodLink "ItemStatesModel" 1 Lib.objectInit ∈ zB := zB_in (List.mem_append_right _ (List.mem_of_getElem? (i := 219) rfl)) rfl
set_option maxRecDepth 100000 in
theorem kw_278 : Cond.arrayClass .long ∈ zB := zB_in (List.mem_append_right _ (List.mem_of_getElem? (i := 278) rfl)) rfl
set_option maxRecDepth 100000 in
theorem kw_10 : Cond.code yX2_init cX2_init 1 none ∈ zB := zB_in (List.mem_append_right _ (List.mem_of_getElem? (i := 10) rfl)) rfl
set_option maxRecDepth 100000 in
theorem kw_1 : Cond.initialized "ItemStates" ∈ zB := zB_in (List.mem_append_right _ (List.mem_of_getElem? (i := 1) rfl)) rfl
set_option maxRecDepth 100000 in
theorem kw_40 : Cond.code yX2_check cX2_check 9 (some .int) ∈ zB := zB_in (List.mem_append_right _ (List.mem_of_getElem? (i := 40) rfl)) rfl
set_option maxRecDepth 100000 in
theorem kw_44 : Cond.code yX2_doubled cX2_doubled 2 (some .int) ∈ zB := zB_in (List.mem_append_right _ (List.mem_of_getElem? (i := 44) rfl)) rfl
set_option maxRecDepth 100000 in
theorem kw_48 : Cond.code yX2_copy cX2_copy 6 (some .int) ∈ zB := zB_in (List.mem_append_right _ (List.mem_of_getElem? (i := 48) rfl)) rfl
set_option maxRecDepth 100000 in
theorem kw_51 : Cond.code yX2_isType cX2_isType 1 (some .boolean) ∈ zB := zB_in (List.mem_append_right _ (List.mem_of_getElem? (i := 51) rfl)) rfl
set_option maxRecDepth 100000 in
theorem kw_54 : Cond.code yX2_isPlace cX2_isPlace 1 (some .boolean) ∈ zB := zB_in (List.mem_append_right _ (List.mem_of_getElem? (i := 54) rfl)) rfl
set_option maxRecDepth 100000 in
theorem kw_58 : Cond.code yX2_isBarcode cX2_isBarcode 4 (some .boolean) ∈ zB := zB_in (List.mem_append_right _ (List.mem_of_getElem? (i := 58) rfl)) rfl
set_option maxRecDepth 100000 in
theorem kw_63 : Cond.code yX2_isTaken cX2_isTaken 6 (some .boolean) ∈ zB := zB_in (List.mem_append_right _ (List.mem_of_getElem? (i := 63) rfl)) rfl
set_option maxRecDepth 100000 in
theorem kw_67 : Cond.code yX2_find cX2_find 2 (some (.object "ItemStates$Copy")) ∈ zB := zB_in (List.mem_append_right _ (List.mem_of_getElem? (i := 67) rfl)) rfl
set_option maxRecDepth 100000 in
theorem kw_71 : Cond.code yX2_hasRight cX2_hasRight 3 (some .boolean) ∈ zB := zB_in (List.mem_append_right _ (List.mem_of_getElem? (i := 71) rfl)) rfl
set_option maxRecDepth 100000 in
theorem kw_75 : Cond.code yX0_init cX0_init 6 none ∈ zB := zB_in (List.mem_append_right _ (List.mem_of_getElem? (i := 75) rfl)) rfl
set_option maxRecDepth 100000 in
theorem kw_121 : Cond.code yX2_right cX2_right 5 (some .boolean) ∈ zB := zB_in (List.mem_append_right _ (List.mem_of_getElem? (i := 121) rfl)) rfl
set_option maxRecDepth 100000 in
theorem kw_125 : Cond.code yX2_fee cX2_fee 4 (some .int) ∈ zB := zB_in (List.mem_append_right _ (List.mem_of_getElem? (i := 125) rfl)) rfl
set_option maxRecDepth 100000 in
theorem kw_130 : Cond.code yX2_act cX2_act 9 (some .int) ∈ zB := zB_in (List.mem_append_right _ (List.mem_of_getElem? (i := 130) rfl)) rfl
set_option maxRecDepth 100000 in
theorem kw_134 : Cond.code yX2_stateOn cX2_stateOn 4 (some .int) ∈ zB := zB_in (List.mem_append_right _ (List.mem_of_getElem? (i := 134) rfl)) rfl
set_option maxRecDepth 100000 in
theorem kw_137 : Cond.code yX2_lastUpTo cX2_lastUpTo 5 (some (.object "ItemStates$Entry")) ∈ zB := zB_in (List.mem_append_right _ (List.mem_of_getElem? (i := 137) rfl)) rfl
set_option maxRecDepth 100000 in
theorem kw_140 : Cond.code yX2_canFollow cX2_canFollow 2 (some .boolean) ∈ zB := zB_in (List.mem_append_right _ (List.mem_of_getElem? (i := 140) rfl)) rfl
set_option maxRecDepth 100000 in
theorem kw_144 : Cond.code yX2_lacksRight cX2_lacksRight 6 (some .boolean) ∈ zB := zB_in (List.mem_append_right _ (List.mem_of_getElem? (i := 144) rfl)) rfl
set_option maxRecDepth 100000 in
theorem kw_148 : Cond.code yX2_enter cX2_enter 7 none ∈ zB := zB_in (List.mem_append_right _ (List.mem_of_getElem? (i := 148) rfl)) rfl
set_option maxRecDepth 100000 in
theorem kw_153 : Cond.code yX1_init cX1_init 6 none ∈ zB := zB_in (List.mem_append_right _ (List.mem_of_getElem? (i := 153) rfl)) rfl
set_option maxRecDepth 100000 in
theorem kw_178 : Cond.code yX2_carryOut cX2_carryOut 4 none ∈ zB := zB_in (List.mem_append_right _ (List.mem_of_getElem? (i := 178) rfl)) rfl
set_option maxRecDepth 100000 in
theorem kw_182 : Cond.code yX2_state cX2_state 5 (some .int) ∈ zB := zB_in (List.mem_append_right _ (List.mem_of_getElem? (i := 182) rfl)) rfl
set_option maxRecDepth 100000 in
theorem kw_186 : Cond.code yX2_place cX2_place 3 (some .int) ∈ zB := zB_in (List.mem_append_right _ (List.mem_of_getElem? (i := 186) rfl)) rfl
set_option maxRecDepth 100000 in
theorem kw_190 : Cond.code yX2_floats cX2_floats 5 (some .boolean) ∈ zB := zB_in (List.mem_append_right _ (List.mem_of_getElem? (i := 190) rfl)) rfl
set_option maxRecDepth 100000 in
theorem kw_194 : Cond.code yX2_home cX2_home 3 (some .int) ∈ zB := zB_in (List.mem_append_right _ (List.mem_of_getElem? (i := 194) rfl)) rfl
set_option maxRecDepth 100000 in
theorem kw_198 : Cond.code yX2_weed cX2_weed 4 (some .int) ∈ zB := zB_in (List.mem_append_right _ (List.mem_of_getElem? (i := 198) rfl)) rfl
set_option maxRecDepth 100000 in
theorem kw_201 : Cond.code yX2_canBeWeeded cX2_canBeWeeded 1 (some .boolean) ∈ zB := zB_in (List.mem_append_right _ (List.mem_of_getElem? (i := 201) rfl)) rfl
set_option maxRecDepth 100000 in
theorem kw_205 : Cond.code yX2_owed cX2_owed 3 (some .int) ∈ zB := zB_in (List.mem_append_right _ (List.mem_of_getElem? (i := 205) rfl)) rfl
set_option maxRecDepth 100000 in
theorem kw_209 : Cond.code yX2_history cX2_history 7 (some .int) ∈ zB := zB_in (List.mem_append_right _ (List.mem_of_getElem? (i := 209) rfl)) rfl
set_option maxRecDepth 100000 in
theorem kw_213 : Cond.code yX2_count cX2_count 6 (some .int) ∈ zB := zB_in (List.mem_append_right _ (List.mem_of_getElem? (i := 213) rfl)) rfl
set_option maxRecDepth 100000 in
theorem kw_218 : Cond.code yX3_init cX3_init 1 none ∈ zB := zB_in (List.mem_append_right _ (List.mem_of_getElem? (i := 218) rfl)) rfl
set_option maxRecDepth 100000 in
theorem kw_2 : Cond.initialized "ItemStatesModel" ∈ zB := zB_in (List.mem_append_right _ (List.mem_of_getElem? (i := 2) rfl)) rfl
set_option maxRecDepth 100000 in
theorem kw_282 : Cond.code yX3_check cX3_check 4 (some .int) ∈ zB := zB_in (List.mem_append_right _ (List.mem_of_getElem? (i := 282) rfl)) rfl
set_option maxRecDepth 100000 in
theorem kw_285 : Cond.code yX3_ten cX3_ten 4 (some .long) ∈ zB := zB_in (List.mem_append_right _ (List.mem_of_getElem? (i := 285) rfl)) rfl
set_option maxRecDepth 100000 in
theorem kw_289 : Cond.code yX3_sign cX3_sign 8 (some .int) ∈ zB := zB_in (List.mem_append_right _ (List.mem_of_getElem? (i := 289) rfl)) rfl
set_option maxRecDepth 100000 in
theorem kw_293 : Cond.code yX3_copy cX3_copy 7 (some .int) ∈ zB := zB_in (List.mem_append_right _ (List.mem_of_getElem? (i := 293) rfl)) rfl
set_option maxRecDepth 100000 in
theorem kw_297 : Cond.code yX3_right cX3_right 5 (some .boolean) ∈ zB := zB_in (List.mem_append_right _ (List.mem_of_getElem? (i := 297) rfl)) rfl
set_option maxRecDepth 100000 in
theorem kw_301 : Cond.code yX3_fee cX3_fee 4 (some .int) ∈ zB := zB_in (List.mem_append_right _ (List.mem_of_getElem? (i := 301) rfl)) rfl
set_option maxRecDepth 100000 in
theorem kw_306 : Cond.code yX3_state cX3_state 5 (some .int) ∈ zB := zB_in (List.mem_append_right _ (List.mem_of_getElem? (i := 306) rfl)) rfl
set_option maxRecDepth 100000 in
theorem kw_310 : Cond.code yX3_isCopy cX3_isCopy 2 (some .boolean) ∈ zB := zB_in (List.mem_append_right _ (List.mem_of_getElem? (i := 310) rfl)) rfl
set_option maxRecDepth 100000 in
theorem kw_314 : Cond.code yX3_last cX3_last 5 (some .int) ∈ zB := zB_in (List.mem_append_right _ (List.mem_of_getElem? (i := 314) rfl)) rfl
set_option maxRecDepth 100000 in
theorem kw_318 : Cond.code yX3_act cX3_act 9 (some .int) ∈ zB := zB_in (List.mem_append_right _ (List.mem_of_getElem? (i := 318) rfl)) rfl
set_option maxRecDepth 100000 in
theorem kw_322 : Cond.code yX3_follows cX3_follows 2 (some .boolean) ∈ zB := zB_in (List.mem_append_right _ (List.mem_of_getElem? (i := 322) rfl)) rfl
set_option maxRecDepth 100000 in
theorem kw_326 : Cond.code yX3_enter cX3_enter 7 none ∈ zB := zB_in (List.mem_append_right _ (List.mem_of_getElem? (i := 326) rfl)) rfl
set_option maxRecDepth 100000 in
theorem kw_330 : Cond.code yX3_weed cX3_weed 4 (some .int) ∈ zB := zB_in (List.mem_append_right _ (List.mem_of_getElem? (i := 330) rfl)) rfl
set_option maxRecDepth 100000 in
theorem kw_334 : Cond.code yX3_place cX3_place 2 (some .int) ∈ zB := zB_in (List.mem_append_right _ (List.mem_of_getElem? (i := 334) rfl)) rfl
set_option maxRecDepth 100000 in
theorem kw_338 : Cond.code yX3_floats cX3_floats 4 (some .boolean) ∈ zB := zB_in (List.mem_append_right _ (List.mem_of_getElem? (i := 338) rfl)) rfl
set_option maxRecDepth 100000 in
theorem kw_342 : Cond.code yX3_home cX3_home 2 (some .int) ∈ zB := zB_in (List.mem_append_right _ (List.mem_of_getElem? (i := 342) rfl)) rfl
set_option maxRecDepth 100000 in
theorem kw_346 : Cond.code yX3_owed cX3_owed 2 (some .int) ∈ zB := zB_in (List.mem_append_right _ (List.mem_of_getElem? (i := 346) rfl)) rfl
set_option maxRecDepth 100000 in
theorem kw_350 : Cond.code yX3_history cX3_history 6 (some .int) ∈ zB := zB_in (List.mem_append_right _ (List.mem_of_getElem? (i := 350) rfl)) rfl
set_option maxRecDepth 100000 in
theorem kw_354 : Cond.code yX3_count cX3_count 5 (some .int) ∈ zB := zB_in (List.mem_append_right _ (List.mem_of_getElem? (i := 354) rfl)) rfl
theorem ok_X2_init : zOK yX2_init cX2_init 1 none 0 := ⟨kw_10, kw_1, by decide, by decide, by decide +kernel⟩
theorem ok_X2_check : zOK yX2_check cX2_check 9 (some .int) 2 := ⟨kw_40, kw_1, by decide, by decide, by decide +kernel⟩
theorem ok_X2_doubled : zOK yX2_doubled cX2_doubled 2 (some .int) 1 := ⟨kw_44, kw_1, by decide, by decide, by decide +kernel⟩
theorem ok_X2_copy : zOK yX2_copy cX2_copy 6 (some .int) 4 := ⟨kw_48, kw_1, by decide, by decide, by decide +kernel⟩
theorem ok_X2_isType : zOK yX2_isType cX2_isType 1 (some .boolean) 1 := ⟨kw_51, kw_1, by decide, by decide, by decide +kernel⟩
theorem ok_X2_isPlace : zOK yX2_isPlace cX2_isPlace 1 (some .boolean) 1 := ⟨kw_54, kw_1, by decide, by decide, by decide +kernel⟩
theorem ok_X2_isBarcode : zOK yX2_isBarcode cX2_isBarcode 4 (some .boolean) 2 := ⟨kw_58, kw_1, by decide, by decide, by decide +kernel⟩
theorem ok_X2_isTaken : zOK yX2_isTaken cX2_isTaken 6 (some .boolean) 2 := ⟨kw_63, kw_1, by decide, by decide, by decide +kernel⟩
theorem ok_X2_find : zOK yX2_find cX2_find 2 (some (.object "ItemStates$Copy")) 1 := ⟨kw_67, kw_1, by decide, by decide, by decide +kernel⟩
theorem ok_X2_hasRight : zOK yX2_hasRight cX2_hasRight 3 (some .boolean) 2 := ⟨kw_71, kw_1, by decide, by decide, by decide +kernel⟩
theorem ok_X0_init : zOK yX0_init cX0_init 6 none 4 := ⟨kw_75, kw_3, by decide, by decide, by decide +kernel⟩
theorem ok_X2_right : zOK yX2_right cX2_right 5 (some .boolean) 3 := ⟨kw_121, kw_1, by decide, by decide, by decide +kernel⟩
theorem ok_X2_fee : zOK yX2_fee cX2_fee 4 (some .int) 2 := ⟨kw_125, kw_1, by decide, by decide, by decide +kernel⟩
theorem ok_X2_act : zOK yX2_act cX2_act 9 (some .int) 4 := ⟨kw_130, kw_1, by decide, by decide, by decide +kernel⟩
theorem ok_X2_stateOn : zOK yX2_stateOn cX2_stateOn 4 (some .int) 2 := ⟨kw_134, kw_1, by decide, by decide, by decide +kernel⟩
theorem ok_X2_lastUpTo : zOK yX2_lastUpTo cX2_lastUpTo 5 (some (.object "ItemStates$Entry")) 2 := ⟨kw_137, kw_1, by decide, by decide, by decide +kernel⟩
theorem ok_X2_canFollow : zOK yX2_canFollow cX2_canFollow 2 (some .boolean) 2 := ⟨kw_140, kw_1, by decide, by decide, by decide +kernel⟩
theorem ok_X2_lacksRight : zOK yX2_lacksRight cX2_lacksRight 6 (some .boolean) 4 := ⟨kw_144, kw_1, by decide, by decide, by decide +kernel⟩
theorem ok_X2_enter : zOK yX2_enter cX2_enter 7 none 4 := ⟨kw_148, kw_1, by decide, by decide, by decide +kernel⟩
theorem ok_X1_init : zOK yX1_init cX1_init 6 none 4 := ⟨kw_153, kw_4, by decide, by decide, by decide +kernel⟩
theorem ok_X2_carryOut : zOK yX2_carryOut cX2_carryOut 4 none 3 := ⟨kw_178, kw_1, by decide, by decide, by decide +kernel⟩
theorem ok_X2_state : zOK yX2_state cX2_state 5 (some .int) 2 := ⟨kw_182, kw_1, by decide, by decide, by decide +kernel⟩
theorem ok_X2_place : zOK yX2_place cX2_place 3 (some .int) 1 := ⟨kw_186, kw_1, by decide, by decide, by decide +kernel⟩
theorem ok_X2_floats : zOK yX2_floats cX2_floats 5 (some .boolean) 2 := ⟨kw_190, kw_1, by decide, by decide, by decide +kernel⟩
theorem ok_X2_home : zOK yX2_home cX2_home 3 (some .int) 1 := ⟨kw_194, kw_1, by decide, by decide, by decide +kernel⟩
theorem ok_X2_weed : zOK yX2_weed cX2_weed 4 (some .int) 2 := ⟨kw_198, kw_1, by decide, by decide, by decide +kernel⟩
theorem ok_X2_canBeWeeded : zOK yX2_canBeWeeded cX2_canBeWeeded 1 (some .boolean) 1 := ⟨kw_201, kw_1, by decide, by decide, by decide +kernel⟩
theorem ok_X2_owed : zOK yX2_owed cX2_owed 3 (some .int) 1 := ⟨kw_205, kw_1, by decide, by decide, by decide +kernel⟩
theorem ok_X2_history : zOK yX2_history cX2_history 7 (some .int) 3 := ⟨kw_209, kw_1, by decide, by decide, by decide +kernel⟩
theorem ok_X2_count : zOK yX2_count cX2_count 6 (some .int) 2 := ⟨kw_213, kw_1, by decide, by decide, by decide +kernel⟩
theorem ok_X3_init : zOK yX3_init cX3_init 1 none 0 := ⟨kw_218, kw_2, by decide, by decide, by decide +kernel⟩
theorem ok_X3_check : zOK yX3_check cX3_check 4 (some .int) 2 := ⟨kw_282, kw_2, by decide, by decide, by decide +kernel⟩
theorem ok_X3_ten : zOK yX3_ten cX3_ten 4 (some .long) 1 := ⟨kw_285, kw_2, by decide, by decide, by decide +kernel⟩
theorem ok_X3_sign : zOK yX3_sign cX3_sign 8 (some .int) 1 := ⟨kw_289, kw_2, by decide, by decide, by decide +kernel⟩
theorem ok_X3_copy : zOK yX3_copy cX3_copy 7 (some .int) 4 := ⟨kw_293, kw_2, by decide, by decide, by decide +kernel⟩
theorem ok_X3_right : zOK yX3_right cX3_right 5 (some .boolean) 3 := ⟨kw_297, kw_2, by decide, by decide, by decide +kernel⟩
theorem ok_X3_fee : zOK yX3_fee cX3_fee 4 (some .int) 2 := ⟨kw_301, kw_2, by decide, by decide, by decide +kernel⟩
theorem ok_X3_state : zOK yX3_state cX3_state 5 (some .int) 2 := ⟨kw_306, kw_2, by decide, by decide, by decide +kernel⟩
theorem ok_X3_isCopy : zOK yX3_isCopy cX3_isCopy 2 (some .boolean) 1 := ⟨kw_310, kw_2, by decide, by decide, by decide +kernel⟩
theorem ok_X3_last : zOK yX3_last cX3_last 5 (some .int) 2 := ⟨kw_314, kw_2, by decide, by decide, by decide +kernel⟩
theorem ok_X3_act : zOK yX3_act cX3_act 9 (some .int) 4 := ⟨kw_318, kw_2, by decide, by decide, by decide +kernel⟩
theorem ok_X3_follows : zOK yX3_follows cX3_follows 2 (some .boolean) 2 := ⟨kw_322, kw_2, by decide, by decide, by decide +kernel⟩
theorem ok_X3_enter : zOK yX3_enter cX3_enter 7 none 4 := ⟨kw_326, kw_2, by decide, by decide, by decide +kernel⟩
theorem ok_X3_weed : zOK yX3_weed cX3_weed 4 (some .int) 2 := ⟨kw_330, kw_2, by decide, by decide, by decide +kernel⟩
theorem ok_X3_place : zOK yX3_place cX3_place 2 (some .int) 1 := ⟨kw_334, kw_2, by decide, by decide, by decide +kernel⟩
theorem ok_X3_floats : zOK yX3_floats cX3_floats 4 (some .boolean) 2 := ⟨kw_338, kw_2, by decide, by decide, by decide +kernel⟩
theorem ok_X3_home : zOK yX3_home cX3_home 2 (some .int) 1 := ⟨kw_342, kw_2, by decide, by decide, by decide +kernel⟩
theorem ok_X3_owed : zOK yX3_owed cX3_owed 2 (some .int) 1 := ⟨kw_346, kw_2, by decide, by decide, by decide +kernel⟩
theorem ok_X3_history : zOK yX3_history cX3_history 6 (some .int) 3 := ⟨kw_350, kw_2, by decide, by decide, by decide +kernel⟩
theorem ok_X3_count : zOK yX3_count cX3_count 5 (some .int) 2 := ⟨kw_354, kw_2, by decide, by decide, by decide +kernel⟩
theorem in0X0 : ∀ w ∈ u_ws RX0 TX0 10, w ∈ lw_tbl := by decide +kernel
theorem gd0X0 : ∀ w ∈ u_ws RX0 TX0 10, goodWord w = true := by decide +kernel
theorem kX0 : zCls 0 RX0 TX0 10 tyX0 := ⟨rfl, fun w h => zB_in (in0X0 w h) (gd0X0 w h), tyX0_ok, nmX0⟩
theorem in0X1 : ∀ w ∈ u_ws RX1 TX1 4, w ∈ lw_tbl := by decide +kernel
theorem gd0X1 : ∀ w ∈ u_ws RX1 TX1 4, goodWord w = true := by decide +kernel
theorem kX1 : zCls 1 RX1 TX1 4 tyX1 := ⟨rfl, fun w h => zB_in (in0X1 w h) (gd0X1 w h), tyX1_ok, nmX1⟩
theorem in0X2 : ∀ w ∈ u_ws RX2 TX2 6, w ∈ lw_tbl := by decide +kernel
theorem gd0X2 : ∀ w ∈ u_ws RX2 TX2 6, goodWord w = true := by decide +kernel
theorem kX2 : zCls 2 RX2 TX2 6 tyX2 := ⟨rfl, fun w h => zB_in (in0X2 w h) (gd0X2 w h), tyX2_ok, nmX2⟩
theorem in0X3 : ∀ w ∈ u_ws RX3 TX3 19, w ∈ lw_tbl := by decide +kernel
theorem gd0X3 : ∀ w ∈ u_ws RX3 TX3 19, goodWord w = true := by decide +kernel
theorem kX3 : zCls 3 RX3 TX3 19 tyX3 := ⟨rfl, fun w h => zB_in (in0X3 w h) (gd0X3 w h), tyX3_ok, nmX3⟩
end
section
/-! what the class's small methods answer, in its own numbers -/
abbrev zTy (t : Int32) : Prop := ¬ t < 0 ∧ ¬ 6 ≤ t
abbrev zPl (t : Int32) : Prop := ¬ t < 0 ∧ ¬ 10 ≤ t
def zdb (d : Int32) : Int32 := if 2 * d ≤ 9 then 2 * d else 2 * d - 9
abbrev zFo (k t : Int32) : Prop := (k = 0 ∧ ¬ t < 1 ∧ ¬ 6 < t) ∨ (k = 1 ∧ (t = 0 ∨ t = 4)) ∨ ((k = 2 ∨ k = 5) ∧ (t = 0 ∨ t = 3)) ∨ (k = 3 ∧ (t = 0 ∨ t = 6)) ∨ (k = 4 ∧ t = 0) ∨ (k = 6 ∧ ¬ t < 0 ∧ ¬ 5 < t)
abbrev zWd (t : Int32) : Prop := t = 0 ∨ t = 3 ∨ t = 6
abbrev zRi (dn : Nat → Int32) (p t : Int32) : Prop := zPl p ∧ zTy t ∧ dn (p * 6 + t).toNatClampNeg = 0
abbrev zLk (dn : Nat → Int32) (kind place late st pl ty : Int32) : Prop := (kind = 2 ∧ ¬ zRi dn place ty) ∨ (kind = 0 ∧ st = 2 ∧ late = 0 ∧ ¬ zRi dn pl ty)
def zFi (n : Int32) (f : Nat → Option Nat) (k : Int32) : Option Nat := if k < 1 then none else if n < k then none else if 80 < k then none else f (k - 1).toNatClampNeg
theorem zsw7 {x : Int32} (h0 : ¬ x = 0) (h1 : ¬ x = 1) (h2 : ¬ x = 2) (h3 : ¬ x = 3) (h4 : ¬ x = 4) (h5 : ¬ x = 5) (h6 : ¬ x = 6) : x.toInt < 0 ∨ 6 < x.toInt := by
  have a0 := lv_neT (a := 0) h0 rfl
  have a1 := lv_neT (a := 1) h1 rfl
  have a2 := lv_neT (a := 2) h2 rfl
  have a3 := lv_neT (a := 3) h3 rfl
  have a4 := lv_neT (a := 4) h4 rfl
  have a5 := lv_neT (a := 5) h5 rfl
  have a6 := lv_neT (a := 6) h6 rfl
  omega
/-- a number that is not below 0 and below n -/
theorem zIn {x N : Int32} {n : Nat} (hN : N = nI n) (hn : n < 2 ^ 31) (h0 : ¬ x < 0) (h1 : ¬ N ≤ x) : ∃ j : Nat, j < n ∧ x = nI j := by
  subst hN
  rcases pk_ix x hn with h | h | h
  · exact absurd h h0
  · exact absurd h h1
  · exact h
theorem zPl_in {p : Int32} (h : zPl p) : ∃ j : Nat, j < 10 ∧ p = nI j := zIn (n := 10) rfl (by decide) h.1 h.2
theorem zTy_in {t : Int32} (h : zTy t) : ∃ j : Nat, j < 6 ∧ t = nI j := zIn (n := 6) rfl (by decide) h.1 h.2
theorem zRi_in {p t : Int32} (hp : zPl p) (ht : zTy t) : vp_in (p * 6 + t) 60 := by
  obtain ⟨i, hi, rfl⟩ := zPl_in hp
  obtain ⟨j, hj, rfl⟩ := zTy_in ht
  have h6 : (6 : Int32) = nI 6 := rfl
  rw [h6, pk_mul, nI_add]
  exact vp_in_nI (by omega) (by decide)
theorem zFi_in {k : Int32} (h1 : ¬ k < 1) (h2 : ¬ 80 < k) : vp_in (k - 1) 80 := by
  have a : ¬ k.toInt < 1 := fun q => h1 (Int32.lt_iff_toInt_lt.mpr q)
  have b : ¬ (80 : Int) < k.toInt := fun q => h2 (Int32.lt_iff_toInt_lt.mpr q)
  rcases pk_ix k (n := 81) (by decide) with h | h | ⟨j, hj, rfl⟩
  · have := Int32.lt_iff_toInt_lt.mp h
    have e0 : (0 : Int32).toInt = 0 := rfl
    omega
  · have := Int32.le_iff_toInt_le.mp h
    have e0 : (nI 81).toInt = 81 := rfl
    omega
  · obtain ⟨i, rfl⟩ : ∃ i, j = i + 1 := by
      cases j with
      | zero => exact absurd (show (nI 0 : Int32) < 1 by decide) h1
      | succ i => exact ⟨i, rfl⟩
    rw [nI_pred]
    exact vp_in_nI (by omega) (by decide)
/-! the class's cells in words: the object, a copy, an entry; a copy's chain of entries -/
abbrev oI (cps : Nat) (n : Int32) (den fee : Nat) (gd : Int64) (ec : Int32) : va_E := .inr (2, [.ref cps, .int n, .ref den, .ref fee, .long gd, .int ec])
abbrev oC (ty : Int32) (bc : Int64) (dg hm pl st fl ow wb : Int32) (fi : Option Nat) : va_E := .inr (0, [.int ty, .long bc, .int dg, .int hm, .int pl, .int st, .int fl, .int ow, .int wb, va_rf fi])
abbrev oE (d : Int64) (st lt : Int32) (nx : Option Nat) : va_E := .inr (1, [.long d, .int st, .int lt, va_rf nx])
abbrev zEV : Type := Int64 × Int32 × Int32
def zHd : List (Nat × zEV) → Option Nat
  | [] => none
  | x :: _ => some x.1
def zCh (M : zMap) : List (Nat × zEV) → Prop
  | [] => True
  | x :: L => M x.1 = some (oE x.2.1 x.2.2.1 x.2.2.2 (zHd L)) ∧ zCh M L
theorem zCh.frame {M M1 : zMap} : ∀ {L : List (Nat × zEV)}, (∀ x ∈ L, M1 x.1 = M x.1) → zCh M L → zCh M1 L
  | [], _, _ => trivial
  | x :: _, h, hc => ⟨(h x List.mem_cons_self).trans hc.1, zCh.frame (fun y hy => h y (List.mem_cons_of_mem _ hy)) hc.2⟩
theorem zCh.at {M : zMap} : ∀ {L : List (Nat × zEV)}, zCh M L → ∀ x ∈ L, ∃ nx, M x.1 = some (oE x.2.1 x.2.2.1 x.2.2.2 nx)
  | [], _, x, h => by cases h
  | y :: L, hc, x, h => by
    rcases List.mem_cons.mp h with rfl | h
    · exact ⟨_, hc.1⟩
    · exact hc.2.at x h
theorem zCh.mid {M : zMap} : ∀ {U R : List (Nat × zEV)}, zCh M (U ++ R) → zCh M R
  | [], _, h => h
  | _ :: U, _, h => zCh.mid (U := U) h.2
/-- up to a day; behind it -/
def zUp (d : Int64) : List (Nat × zEV) → List (Nat × zEV)
  | [] => []
  | x :: L => if x.2.1 ≤ d then x :: zUp d L else []
def zDn (d : Int64) : List (Nat × zEV) → List (Nat × zEV)
  | [] => []
  | x :: L => if x.2.1 ≤ d then zDn d L else x :: L
theorem zUpDn (d : Int64) : ∀ L : List (Nat × zEV), zUp d L ++ zDn d L = L
  | [] => rfl
  | x :: L => by
    unfold zUp zDn
    by_cases h : x.2.1 ≤ d
    · rw [if_pos h, if_pos h, List.cons_append, zUpDn d L]
    · rw [if_neg h, if_neg h]; rfl
theorem zUp_app {d : Int64} : ∀ {U R : List (Nat × zEV)}, (∀ x ∈ U, x.2.1 ≤ d) → zUp d (U ++ R) = U ++ zUp d R
  | [], _, _ => rfl
  | x :: U, R, h => by
    rw [List.cons_append]
    show (if x.2.1 ≤ d then x :: zUp d (U ++ R) else []) = _
    rw [if_pos (h x List.mem_cons_self), zUp_app (fun y hy => h y (List.mem_cons_of_mem _ hy))]
    rfl
theorem zUp_stop {d : Int64} {x : Nat × zEV} {L : List (Nat × zEV)} (h : ¬ x.2.1 ≤ d) : zUp d (x :: L) = [] := if_neg h
/-- the address of the last one -/
def zLa (L : List (Nat × zEV)) : Option Nat := L.getLast?.map Prod.fst
theorem zLa_nil : zLa [] = none := rfl
theorem zLa_snoc (U : List (Nat × zEV)) (x : Nat × zEV) : zLa (U ++ [x]) = some x.1 := by
  unfold zLa; rw [List.getLast?_concat]; rfl
theorem zLa_split {L : List (Nat × zEV)} {b : Nat} (h : zLa L = some b) : ∃ (U : List (Nat × zEV)) (v : zEV), L = U ++ [(b, v)] := by
  rcases List.eq_nil_or_concat L with rfl | ⟨U, x, rfl⟩
  · cases h
  · rw [List.concat_eq_append, zLa_snoc] at h
    cases h
    exact ⟨U, x.2, by rw [List.concat_eq_append]⟩
theorem zLa_none {L : List (Nat × zEV)} (h : zLa L = none) : L = [] := by
  rcases List.eq_nil_or_concat L with rfl | ⟨U, x, rfl⟩
  · rfl
  · rw [List.concat_eq_append, zLa_snoc] at h; cases h
/-- a new entry in its place -/
def zIns (d : Int64) (x : Nat × zEV) (L : List (Nat × zEV)) : List (Nat × zEV) := zUp d L ++ x :: zDn d L
theorem zIns_mem {d : Int64} {x y : Nat × zEV} {L : List (Nat × zEV)} : y ∈ zIns d x L ↔ y = x ∨ y ∈ L := by
  have h := zUpDn d L
  unfold zIns
  constructor
  · intro hy
    rcases List.mem_append.mp hy with hy | hy
    · exact Or.inr (by rw [← h]; exact List.mem_append_left _ hy)
    · rcases List.mem_cons.mp hy with hy | hy
      · exact Or.inl hy
      · exact Or.inr (by rw [← h]; exact List.mem_append_right _ hy)
  · rintro (rfl | hy)
    · exact List.mem_append_right _ List.mem_cons_self
    · rw [← h] at hy
      rcases List.mem_append.mp hy with hy | hy
      · exact List.mem_append_left _ hy
      · exact List.mem_append_right _ (List.mem_cons_of_mem _ hy)
/-- the chain behind an entering ahead of all: the new cell q alone -/
theorem zCh.ins0 {M M1 : zMap} {L : List (Nat × zEV)} {d : Int64} {q : Nat} {x : zEV} (hc : zCh M L) (h0 : zUp d L = []) (hq : M1 q = some (oE x.1 x.2.1 x.2.2 (zHd L))) (hk : ∀ y ∈ L, M1 y.1 = M y.1) : zCh M1 (zIns d (q, x) L) ∧ zHd (zIns d (q, x) L) = some q := by
  have h := zUpDn d L
  rw [h0, List.nil_append] at h
  unfold zIns
  rw [h0, List.nil_append, h]
  exact ⟨⟨hq, hc.frame hk⟩, rfl⟩
/-- the chain behind an entering behind the cell b -/
theorem zCh.ins1 {M M1 : zMap} {L U : List (Nat × zEV)} {d : Int64} {q b : Nat} {x v : zEV} (hc : zCh M L) (h0 : zUp d L = U ++ [(b, v)]) (hq : M1 q = some (oE x.1 x.2.1 x.2.2 (zHd (zDn d L)))) (hb : M1 b = some (oE v.1 v.2.1 v.2.2 (some q))) (hk : ∀ y ∈ L, y.1 ≠ b → M1 y.1 = M y.1) (hnd : (L.map Prod.fst).Nodup) : zCh M1 (zIns d (q, x) L) ∧ zHd (zIns d (q, x) L) = zHd L := by
  have h := zUpDn d L
  rw [h0] at h
  unfold zIns
  rw [h0]
  have hn2 : (∀ y ∈ U, y.1 ≠ b) ∧ (∀ y ∈ zDn d L, y.1 ≠ b) := by
    rw [← h] at hnd
    simp only [List.map_append, List.map_cons, List.map_nil, List.append_assoc, List.cons_append, List.nil_append] at hnd
    have h1 := (List.nodup_append.mp hnd)
    refine ⟨fun y hy e => ?_, fun y hy e => ?_⟩
    · exact h1.2.2 y.1 (List.mem_map_of_mem hy) b List.mem_cons_self e
    · have h2 := (List.nodup_cons.mp h1.2.1).1
      exact h2 (by rw [← e]; exact List.mem_map_of_mem hy)
  have hd : zCh M1 (zDn d L) := by
    have hc2 : zCh M (zDn d L) := by
      rw [← h] at hc
      exact hc.mid
    refine hc2.frame (fun y hy => hk y ?_ (hn2.2 y hy))
    rw [← h]
    exact List.mem_append_right _ hy
  refine ⟨?_, ?_⟩
  · have key : ∀ (U' : List (Nat × zEV)), (∀ y ∈ U', y ∈ L ∧ y.1 ≠ b) → zCh M (U' ++ (b, v) :: zDn d L) → zCh M1 (U' ++ (b, v) :: (q, x) :: zDn d L) := by
      intro U'
      induction U' with
      | nil => intro _ _; exact ⟨hb, hq, hd⟩
      | cons y U' ih =>
        intro h1 h2
        refine ⟨?_, ih (fun z hz => h1 z (List.mem_cons_of_mem _ hz)) h2.2⟩
        rw [hk y (h1 y List.mem_cons_self).1 (h1 y List.mem_cons_self).2]
        refine h2.1.trans ?_
        rw [show zHd (List.append U' ((b, v) :: zDn d L)) = zHd (List.append U' ((b, v) :: (q, x) :: zDn d L)) from by cases U' <;> rfl]
    have h3 := key U (fun y hy => ⟨by rw [← h]; exact List.mem_append_left _ (List.mem_append_left _ hy), hn2.1 y hy⟩) (by
      rw [← h] at hc
      rw [List.append_assoc] at hc
      exact hc)
    rw [List.append_assoc]
    exact h3
  · rw [List.append_assoc]
    have h4 : zHd L = zHd (U ++ [(b, v)] ++ zDn d L) := by rw [h]
    rw [h4, List.append_assoc]
    cases U <;> rfl
theorem znf {M : zMap} {a q : Nat} {x : va_E} (ha : M a = some x) (hq : M q = none) : a ≠ q := fun e => by rw [e, hq] at ha; cases ha
/-- the state on a day -/
def zSt (d : Int64) (L : List (Nat × zEV)) : Int32 := match (zUp d L).getLast? with
  | none => 3
  | some x => x.2.2.1
/-- a copy behind an act that is not late -/
def zCo (fe : Nat → Int32) (kind place ty : Int32) (bc : Int64) (dg hm pl st fl ow : Int32) (fi : Option Nat) : va_E :=
  oC ty bc dg (if kind = 0 ∧ ¬ fl = 0 then pl else hm) (if kind = 2 then place else pl) kind fl (if kind = 6 ∧ st = 1 ∧ zTy ty then ow + fe ty.toNatClampNeg else ow) (-1) fi
theorem zTy_vp {t : Int32} (h : zTy t) : vp_in t 6 := by
  obtain ⟨j, hj, rfl⟩ := zTy_in h
  exact vp_in_nI hj (by decide)
end
section
/-! the class's whole state, read off the map -/
abbrev zCV : Type := Int32 × Int64 × Int32 × Int32 × Int32 × Int32 × Int32 × Int32 × Int32
abbrev oCv (v : zCV) (fi : Option Nat) : va_E := oC v.1 v.2.1 v.2.2.1 v.2.2.2.1 v.2.2.2.2.1 v.2.2.2.2.2.1 v.2.2.2.2.2.2.1 v.2.2.2.2.2.2.2.1 v.2.2.2.2.2.2.2.2 fi
/-- the field 'copies' -/
def zF (N : Nat) (ca : Nat → Nat) : Nat → Option Nat := fun j => if j < N then some (ca j) else none
def zuf {α : Type} (f : Nat → α) (k : Nat) (v : α) : Nat → α := fun j => if j = k then v else f j
theorem zuf_s {α : Type} (f : Nat → α) (k : Nat) (v : α) : zuf f k v k = v := if_pos rfl
theorem zuf_n {α : Type} {f : Nat → α} {k j : Nat} {v : α} (h : j ≠ k) : zuf f k v j = f j := if_neg h
def zSep (N : Nat) (ca : Nat → Nat) (ch : Nat → List (Nat × zEV)) : Prop := (∀ i j, i < N → j < N → ca i = ca j → i = j) ∧ (∀ j, j < N → ((ch j).map Prod.fst).Nodup) ∧ ∀ i j, i < N → j < N → i ≠ j → ∀ x ∈ ch i, ∀ y ∈ ch j, x.1 ≠ y.1
def zI (G : zG) (M : zMap) (h0 cps den fee N : Nat) (ca : Nat → Nat) (cv : Nat → zCV) (ch : Nat → List (Nat × zEV)) (dn fe : Nat → Int32) (gd : Int64) (ec : Nat) : Prop :=
  M h0 = some (oI cps (nI N) den fee gd (nI ec)) ∧ M cps = some (.inl (G.2.2 2, 80, .inr (.inr (.inr (.inr (zF N ca)))))) ∧ M den = some (.inl (G.2.2 1, 60, .inl dn)) ∧ M fee = some (.inl (G.2.2 0, 6, .inl fe)) ∧ den ≠ fee ∧ N ≤ 80 ∧ (∀ j, j < N → M (ca j) = some (oCv (cv j) (zHd (ch j))) ∧ zCh M (ch j) ∧ zbool (cv j).2.2.2.2.2.2.1) ∧ zSep N ca ch
/-- the place of a copy's number -/
def zIx (N : Nat) (k : Int32) : Option Nat := if k < 1 then none else if nI N < k then none else some (k - 1).toNatClampNeg
theorem zIx_some {N j : Nat} {k : Int32} (hN : N ≤ 80) (h : zIx N k = some j) : j < N ∧ k = nI (j + 1) := by
  unfold zIx at h
  by_cases h1 : k < 1
  · rw [if_pos h1] at h; cases h
  · rw [if_neg h1] at h
    by_cases h2 : nI N < k
    · rw [if_pos h2] at h; cases h
    · rw [if_neg h2] at h
      rcases pk_ix k (n := N + 1) (by omega) with h3 | h3 | ⟨i, hi, rfl⟩
      · exact absurd (Int32.lt_trans h3 (by decide)) h1
      · exact absurd (Int32.lt_of_lt_of_le (nI_lt (Nat.lt_succ_self N) (by omega)) h3) h2
      · cases i with
        | zero => exact absurd (show (nI 0 : Int32) < 1 by decide) h1
        | succ i =>
          rw [nI_pred, nI_clamp (by omega)] at h
          cases h
          exact ⟨by omega, rfl⟩
theorem zIx_of {N j : Nat} (hN : N ≤ 80) (hj : j < N) : zIx N (nI (j + 1)) = some j := by
  unfold zIx
  have e1 : ¬ nI (j + 1) < (1 : Int32) := nI_nlt (a := j + 1) (b := 1) (by omega) (by omega)
  rw [if_neg e1, if_neg (nI_nlt (by omega) (by omega)), nI_pred, nI_clamp (by omega)]
theorem zFi_eq {N : Nat} {ca : Nat → Nat} {k : Int32} (hN : N ≤ 80) : zFi (nI N) (zF N ca) k = (zIx N k).map ca := by
  unfold zFi
  cases hx : zIx N k with
  | none =>
    unfold zIx at hx
    by_cases h1 : k < 1
    · rw [if_pos h1]; rfl
    · rw [if_neg h1] at hx ⊢
      by_cases h2 : nI N < k
      · rw [if_pos h2]; rfl
      · rw [if_neg h2] at hx; cases hx
  | some j =>
    obtain ⟨hj, rfl⟩ := zIx_some hN hx
    have e1 : ¬ nI (j + 1) < (1 : Int32) := nI_nlt (a := j + 1) (b := 1) (by omega) (by omega)
    have e80 : ¬ (80 : Int32) < nI (j + 1) := nI_nlt (a := 80) (b := j + 1) (by omega) (by omega)
    rw [if_neg e1, if_neg (nI_nlt (by omega) (by omega)), if_neg e80, nI_pred, nI_clamp (by omega)]
    unfold zF
    rw [if_pos hj]
    rfl
section ZI
variable {G : zG} {M : zMap} {h0 cps den fee N : Nat} {ca : Nat → Nat} {cv : Nat → zCV} {ch : Nat → List (Nat × zEV)} {dn fe : Nat → Int32} {gd : Int64} {ec : Nat}
theorem zI.mem (h : zI G M h0 cps den fee N ca cv ch dn fe gd ec) {j : Nat} (hj : j < N) {x : Nat × zEV} (hx : x ∈ ch j) : ∃ nx, M x.1 = some (oE x.2.1 x.2.2.1 x.2.2.2 nx) := (h.2.2.2.2.2.2.1 j hj).2.1.at x hx
/-- any map that has the old cells but those of the object, arrays and copy j's chain -/
theorem zI.floor (h : zI G M h0 cps den fee N ca cv ch dn fe gd ec) {M1 : zMap} (hk : ∀ b, M b ≠ none → M1 b = M b) : zI G M1 h0 cps den fee N ca cv ch dn fe gd ec := by
  obtain ⟨a1, a2, a3, a4, a5, a6, a7, a8⟩ := h
  have k : ∀ {b : Nat} {x : va_E}, M b = some x → M1 b = some x := fun {b x} hb => (hk b (by rw [hb]; exact fun q => by cases q)).trans hb
  refine ⟨k a1, k a2, k a3, k a4, a5, a6, fun j hj => ⟨k (a7 j hj).1, (a7 j hj).2.1.frame (fun x hx => ?_), (a7 j hj).2.2⟩, a8⟩
  obtain ⟨nx, h9⟩ := (a7 j hj).2.1.at x hx
  rw [h9]; exact k h9
theorem zI.setC (h : zI G M h0 cps den fee N ca cv ch dn fe gd ec) {j : Nat} (hj : j < N) (v : zCV) (hv : zbool v.2.2.2.2.2.2.1) : zI G (zu M (ca j) (oCv v (zHd (ch j)))) h0 cps den fee N ca (zuf cv j v) ch dn fe gd ec := by
  obtain ⟨a1, a2, a3, a4, a5, a6, a7, a8⟩ := h
  have hc := (a7 j hj).1
  refine ⟨(zu_n (zne a1 hc (by simp))).trans a1, (zu_n (zne a2 hc (by simp))).trans a2, (zu_n (zne a3 hc (by simp))).trans a3, (zu_n (zne a4 hc (by simp))).trans a4, a5, a6, fun i hi => ⟨?_, (a7 i hi).2.1.frame (fun x hx => ?_), ?_⟩, a8⟩
  · by_cases e : i = j
    · subst e; rw [zu_s, zuf_s]
    · rw [zu_n (fun q => e (a8.1 i j hi hj q)), zuf_n e]; exact (a7 i hi).1
  · obtain ⟨nx, h9⟩ := (a7 i hi).2.1.at x hx
    exact zu_n (zne h9 hc (by simp))
  · by_cases e : i = j
    · subst e; rw [zuf_s]; exact hv
    · rw [zuf_n e]; exact (a7 i hi).2.2
theorem zI.setD (h : zI G M h0 cps den fee N ca cv ch dn fe gd ec) (dn1 : Nat → Int32) : zI G (zu M den (.inl (G.2.2 1, 60, .inl dn1))) h0 cps den fee N ca cv ch dn1 fe gd ec := by
  obtain ⟨a1, a2, a3, a4, a5, a6, a7, a8⟩ := h
  refine ⟨(zu_n (zne a1 a3 (by simp))).trans a1, (zu_n (zne a2 a3 (by simp))).trans a2, zu_s _ _ _, (zu_n (Ne.symm a5)).trans a4, a5, a6, fun i hi => ⟨(zu_n (zne (a7 i hi).1 a3 (by simp))).trans (a7 i hi).1, (a7 i hi).2.1.frame (fun x hx => ?_), (a7 i hi).2.2⟩, a8⟩
  obtain ⟨nx, h9⟩ := (a7 i hi).2.1.at x hx
  exact zu_n (zne h9 a3 (by simp))
theorem zI.setF (h : zI G M h0 cps den fee N ca cv ch dn fe gd ec) (fe1 : Nat → Int32) : zI G (zu M fee (.inl (G.2.2 0, 6, .inl fe1))) h0 cps den fee N ca cv ch dn fe1 gd ec := by
  obtain ⟨a1, a2, a3, a4, a5, a6, a7, a8⟩ := h
  refine ⟨(zu_n (zne a1 a4 (by simp))).trans a1, (zu_n (zne a2 a4 (by simp))).trans a2, (zu_n a5).trans a3, zu_s _ _ _, a5, a6, fun i hi => ⟨(zu_n (zne (a7 i hi).1 a4 (by simp))).trans (a7 i hi).1, (a7 i hi).2.1.frame (fun x hx => ?_), (a7 i hi).2.2⟩, a8⟩
  obtain ⟨nx, h9⟩ := (a7 i hi).2.1.at x hx
  exact zu_n (zne h9 a4 (by simp))
/-- behind 'enter' -/
theorem zI.enter (h : zI G M h0 cps den fee N ca cv ch dn fe gd ec) {j : Nat} (hj : j < N) {M1 : zMap} {q : Nat} {d : Int64} {x : zEV} {gd1 : Int64} (hq : M q = none) (h1 : zCh M1 (zIns d (q, x) (ch j))) (h2 : M1 (ca j) = some (oCv (cv j) (zHd (zIns d (q, x) (ch j))))) (h3 : M1 h0 = some (oI cps (nI N) den fee gd1 (nI (ec + 1)))) (hk : ∀ b, b ≠ ca j → b ≠ h0 → b ≠ q → (∀ y ∈ ch j, y.1 ≠ b) → M1 b = M b) :
    zI G M1 h0 cps den fee N ca cv (zuf ch j (zIns d (q, x) (ch j))) dn fe gd1 (ec + 1) := by
  have h' := h
  obtain ⟨a1, a2, a3, a4, a5, a6, a7, a8⟩ := h
  have hc := (a7 j hj).1
  have arr : ∀ {b : Nat} {z : ClassId × vp_A}, M b = some (.inl z) → M1 b = some (.inl z) := fun {b z} hb => (hk b (zne hb hc (by simp)) (zne hb a1 (by simp)) (znf hb hq) (fun y hy => by
    obtain ⟨nx, h9⟩ := (a7 j hj).2.1.at y hy
    exact zne h9 hb (by simp))).trans hb
  refine ⟨h3, arr a2, arr a3, arr a4, a5, a6, fun i hi => ?_, a8.1, fun i hi => ?_, fun i k hi hk2 hne => ?_⟩
  · by_cases e : i = j
    · subst e
      rw [zuf_s]
      exact ⟨h2, h1, (a7 i hi).2.2⟩
    · rw [zuf_n e]
      refine ⟨(hk _ (fun z => e (a8.1 i j hi hj z)) (zne (a7 i hi).1 a1 (by simp)) (znf (a7 i hi).1 hq) (fun y hy => ?_)).trans (a7 i hi).1, (a7 i hi).2.1.frame (fun y hy => ?_), (a7 i hi).2.2⟩
      · obtain ⟨nx, h9⟩ := (a7 j hj).2.1.at y hy
        exact zne h9 (a7 i hi).1 (by simp)
      · obtain ⟨nx, h9⟩ := (a7 i hi).2.1.at y hy
        exact hk _ (zne h9 hc (by simp)) (zne h9 a1 (by simp)) (znf h9 hq) (fun z hz => a8.2.2 j i hj hi (Ne.symm e) z hz y hy)
  · by_cases e : i = j
    · subst e
      rw [zuf_s]
      have hn := a8.2.1 i hi
      have hqn : q ∉ (ch i).map Prod.fst := fun hm => by
        obtain ⟨y, hy, e9⟩ := List.mem_map.mp hm
        obtain ⟨nx, h9⟩ := (a7 i hi).2.1.at y hy
        rw [e9, hq] at h9; cases h9
      unfold zIns
      rw [← zUpDn d (ch i)] at hn hqn
      rw [List.map_append] at hn hqn ⊢
      rw [List.map_cons]
      have hp : (List.map Prod.fst (zUp d (ch i)) ++ q :: List.map Prod.fst (zDn d (ch i))).Perm (q :: (List.map Prod.fst (zUp d (ch i)) ++ List.map Prod.fst (zDn d (ch i)))) := List.perm_middle
      exact hp.nodup_iff.mpr (List.nodup_cons.mpr ⟨hqn, hn⟩)
    · rw [zuf_n e]; exact a8.2.1 i hi
  · intro y hy z hz
    by_cases e : i = j
    · subst e
      rw [zuf_s] at hy
      rw [zuf_n (Ne.symm hne)] at hz
      rcases zIns_mem.mp hy with rfl | hy
      · obtain ⟨nx, h9⟩ := (a7 k hk2).2.1.at z hz
        exact Ne.symm (znf h9 hq)
      · exact a8.2.2 i k hi hk2 hne y hy z hz
    · rw [zuf_n e] at hy
      by_cases e2 : k = j
      · subst e2
        rw [zuf_s] at hz
        rcases zIns_mem.mp hz with rfl | hz
        · obtain ⟨nx, h9⟩ := (a7 i hi).2.1.at y hy
          exact znf h9 hq
        · exact a8.2.2 i k hi hk2 hne y hy z hz
      · rw [zuf_n e2] at hz
        exact a8.2.2 i k hi hk2 hne y hy z hz
/-- one copy more -/
theorem zI.add (h : zI G M h0 cps den fee N ca cv ch dn fe gd ec) (hN : N < 80) {M1 : zMap} {q : Nat} {v : zCV} (hv : zbool v.2.2.2.2.2.2.1) (hq : M q = none) (e1 : M1 q = some (oCv v none)) (e2 : M1 cps = some (.inl (G.2.2 2, 80, .inr (.inr (.inr (.inr (va_up (zF N ca) N (some q)))))))) (e3 : M1 h0 = some (oI cps (nI (N + 1)) den fee gd (nI ec))) (hk : ∀ b, b ≠ q → b ≠ cps → b ≠ h0 → M1 b = M b) :
    zI G M1 h0 cps den fee (N + 1) (zuf ca N q) (zuf cv N v) (zuf ch N []) dn fe gd ec := by
  obtain ⟨a1, a2, a3, a4, a5, a6, a7, a8⟩ := h
  refine ⟨e3, ?_, ?_, ?_, a5, by omega, fun i hi => ?_, ⟨fun i j hi hj e => ?_, fun i hi => ?_, fun i k hi hk2 hne => ?_⟩⟩
  · rw [e2]
    have : va_up (zF N ca) N (some q) = zF (N + 1) (zuf ca N q) := by
      funext j
      unfold va_up zF zuf
      by_cases hj : j = N
      · subst hj; simp
      · by_cases hlt : j < N
        · simp [hj, hlt, Nat.lt_succ_of_lt hlt]
        · have : ¬ j < N + 1 := by omega
          simp [hj, hlt, this]
    rw [this]
  · exact (hk den (znf a3 hq) (zne a3 a2 (by simp)) (zne a3 a1 (by simp))).trans a3
  · exact (hk fee (znf a4 hq) (zne a4 a2 (by simp)) (zne a4 a1 (by simp))).trans a4
  · by_cases e : i = N
    · subst e
      rw [zuf_s, zuf_s, zuf_s]
      exact ⟨e1, trivial, hv⟩
    · have hi2 : i < N := by omega
      have hci := (a7 i hi2).1
      rw [zuf_n e, zuf_n e, zuf_n e]
      refine ⟨(hk _ (znf hci hq) (zne hci a2 (by simp)) (zne hci a1 (by simp))).trans hci, (a7 i hi2).2.1.frame (fun y hy => ?_), (a7 i hi2).2.2⟩
      obtain ⟨nx, h9⟩ := (a7 i hi2).2.1.at y hy
      exact hk _ (znf h9 hq) (zne h9 a2 (by simp)) (zne h9 a1 (by simp))
  · by_cases ei : i = N
    · by_cases ej : j = N
      · rw [ei, ej]
      · subst ei
        rw [zuf_s, zuf_n ej] at e
        exact absurd e.symm (znf (a7 j (by omega)).1 hq)
    · by_cases ej : j = N
      · subst ej
        rw [zuf_s, zuf_n ei] at e
        exact absurd e (znf (a7 i (by omega)).1 hq)
      · rw [zuf_n ei, zuf_n ej] at e
        exact a8.1 i j (by omega) (by omega) e
  · by_cases e : i = N
    · subst e; rw [zuf_s]; exact List.nodup_nil
    · rw [zuf_n e]; exact a8.2.1 i (by omega)
  · intro y hy z hz
    by_cases ei : i = N
    · subst ei; rw [zuf_s] at hy; cases hy
    · by_cases ek : k = N
      · subst ek; rw [zuf_s] at hz; cases hz
      · rw [zuf_n ei] at hy
        rw [zuf_n ek] at hz
        exact a8.2.2 i k (by omega) (by omega) hne y hy z hz
end ZI
/-! values of chains, without addresses -/
def vUp (d : Int64) : List zEV → List zEV
  | [] => []
  | x :: l => if x.1 ≤ d then x :: vUp d l else []
def vDn (d : Int64) : List zEV → List zEV
  | [] => []
  | x :: l => if x.1 ≤ d then vDn d l else x :: l
def vIns (d : Int64) (x : zEV) (l : List zEV) : List zEV := vUp d l ++ x :: vDn d l
def vSt (d : Int64) (l : List zEV) : Int32 := match (vUp d l).getLast? with
  | none => 3
  | some x => x.2.1
theorem zUp_map (d : Int64) : ∀ L : List (Nat × zEV), (zUp d L).map Prod.snd = vUp d (L.map Prod.snd)
  | [] => rfl
  | x :: L => by
    show (if x.2.1 ≤ d then x :: zUp d L else []).map Prod.snd = if x.2.1 ≤ d then x.2 :: vUp d (L.map Prod.snd) else []
    by_cases h : x.2.1 ≤ d
    · rw [if_pos h, if_pos h, List.map_cons, zUp_map d L]
    · rw [if_neg h, if_neg h]; rfl
theorem zDn_map (d : Int64) : ∀ L : List (Nat × zEV), (zDn d L).map Prod.snd = vDn d (L.map Prod.snd)
  | [] => rfl
  | x :: L => by
    show (if x.2.1 ≤ d then zDn d L else x :: L).map Prod.snd = if x.2.1 ≤ d then vDn d (L.map Prod.snd) else x.2 :: L.map Prod.snd
    by_cases h : x.2.1 ≤ d
    · rw [if_pos h, if_pos h, zDn_map d L]
    · rw [if_neg h, if_neg h]; rfl
theorem zIns_map (d : Int64) (x : Nat × zEV) (L : List (Nat × zEV)) : (zIns d x L).map Prod.snd = vIns d x.2 (L.map Prod.snd) := by
  unfold zIns vIns
  rw [List.map_append, List.map_cons, zUp_map, zDn_map]
theorem zSt_map (d : Int64) (L : List (Nat × zEV)) : zSt d L = vSt d (L.map Prod.snd) := by
  unfold zSt vSt
  rw [← zUp_map, List.getLast?_map]
  cases (zUp d L).getLast? <;> rfl
/-- the class's state, its addresses left out -/
def zIA (G : zG) (M : zMap) (h0 N : Nat) (cv : Nat → zCV) (el : Nat → List zEV) (dn fe : Nat → Int32) (gd : Int64) (ec : Nat) : Prop :=
  ∃ (cps den fee : Nat) (ca : Nat → Nat) (ch : Nat → List (Nat × zEV)), zI G M h0 cps den fee N ca cv ch dn fe gd ec ∧ el = fun j => (ch j).map Prod.snd
theorem zuf_map {α β : Type} (g : α → β) (f : Nat → α) (k : Nat) (v : α) : (fun j => g (zuf f k v j)) = zuf (fun j => g (f j)) k (g v) := by
  funext j
  unfold zuf
  by_cases h : j = k
  · rw [if_pos h, if_pos h]
  · rw [if_neg h, if_neg h]
/-- an answer of one copy -/
def zsel (N : Nat) (k d : Int32) (f : Nat → Int32) : Int32 := match zIx N k with
  | none => d
  | some j => f j
theorem zsel_n {N : Nat} {k d : Int32} {f : Nat → Int32} (h : zIx N k = none) : zsel N k d f = d := by unfold zsel; rw [h]
theorem zsel_s {N j : Nat} {k d : Int32} {f : Nat → Int32} (h : zIx N k = some j) : zsel N k d f = f j := by unfold zsel; rw [h]
/-- behind floats, right, fee -/
def zFl (N : Nat) (k on : Int32) (cv : Nat → zCV) : Nat → zCV := match zIx N k with
  | none => cv
  | some j => zuf cv j ((cv j).1, (cv j).2.1, (cv j).2.2.1, (cv j).2.2.2.1, (cv j).2.2.2.2.1, (cv j).2.2.2.2.2.1, on, (cv j).2.2.2.2.2.2.2.1, (cv j).2.2.2.2.2.2.2.2)
def zRt (p0 p1 on : Int32) (dn : Nat → Int32) : Nat → Int32 := if zPl p0 ∧ zTy p1 then upd dn (p0 * 6 + p1).toNatClampNeg (zb (on = 0)) else dn
def zFr (p0 p1 : Int32) (fe : Nat → Int32) : Int32 := if zTy p0 ∧ ¬ p1 < 0 ∧ p1 ≤ 1000000 then fe p0.toNatClampNeg else -1
def zFe (p0 p1 : Int32) (fe : Nat → Int32) : Nat → Int32 := if zTy p0 ∧ ¬ p1 < 0 ∧ p1 ≤ 1000000 then upd fe p0.toNatClampNeg p1 else fe
/-! check, in its own numbers: what is left, and the sum, behind k digits -/
def zcd (r : Int64) : Int32 := (r - r / 10 * 10).toInt32
def zcR (number : Int64) : Nat → Int64
  | 0 => number
  | k + 1 => zcR number k / 10
def zcS (number : Int64) : Nat → Int32
  | 0 => 0
  | k + 1 => zcS number k + (if k % 2 = 0 then zdb (zcd (zcR number k)) else zcd (zcR number k))
abbrev zrm (x y : Int32) : Int32 := x - x / y * y
def zchk (number : Int64) (digits : Int32) : Int32 := if number < 0 ∨ digits < 1 ∨ 12 < digits then -1 else if zcR number digits.toNatClampNeg = 0 then zrm (10 - zrm (zcS number digits.toNatClampNeg) 10) 10 else -1
theorem z112 {x : Int32} (h1 : ¬ x < 1) (h2 : x ≤ 12) : ∃ K : Nat, 1 ≤ K ∧ K ≤ 12 ∧ x = nI K := by
  rcases pk_ix x (n := 13) (by decide) with h | h | ⟨j, hj, rfl⟩
  · exact absurd (Int32.lt_trans h (by decide)) h1
  · exact absurd (Int32.le_trans h h2) (by decide)
  · refine ⟨j, ?_, by omega, rfl⟩
    cases j with
    | zero => exact absurd (show (nI 0 : Int32) < 1 by decide) h1
    | succ i => omega
theorem zpar {k : Nat} (hk : k < 2 ^ 31) : (nI k - nI k / 2 * 2 = 0) ↔ k % 2 = 0 := by
  have h2 : (2 : Int32) = nI 2 := rfl
  rw [h2, pk_rem hk (by decide) (by decide)]
  have h0 : (0 : Int32) = nI 0 := rfl
  rw [h0, nI_eq (by omega) (by decide)]
theorem zchk_in {number : Int64} {K : Nat} (h0 : ¬ number < 0) (h1 : 1 ≤ K) (h2 : K ≤ 12) : zchk number (nI K) = if zcR number K = 0 then zrm (10 - zrm (zcS number K) 10) 10 else -1 := by
  have e1 : (1 : Int32) = nI 1 := rfl
  have e12 : (12 : Int32) = nI 12 := rfl
  unfold zchk
  rw [if_neg, nI_clamp (by omega)]
  rintro (h | h | h)
  · exact h0 h
  · rw [e1, nI_ltI (by omega) (by decide)] at h; omega
  · rw [e12, nI_ltI (by decide) (by omega)] at h; omega
abbrev zBc (b : Int64) (dg : Int32) : Prop := ¬ b < 0 ∧ zchk (b / 10) dg = (b - b / 10 * 10).toInt32
abbrev zTk (N : Nat) (cv : Nat → zCV) (b : Int64) (dg : Int32) : Prop := ∃ i, i < N ∧ (cv i).2.1 = b ∧ (cv i).2.2.1 = dg
def zCt (cv : Nat → zCV) (sta hom : Int32) : Nat → Int32
  | 0 => 0
  | t + 1 => zCt cv sta hom t + (if (cv t).2.2.2.2.2.1 = sta ∧ (hom = -1 ∨ (cv t).2.2.2.1 = hom) then 1 else 0)
def zHi (L : List (Nat × zEV)) (i what : Int32) : Int32 := if i < 0 then -1 else if what < 0 then -1 else if 1 < what then -1 else match L[i.toNatClampNeg]? with
  | none => -1
  | some x => if what = 0 then x.2.2.1 else zb (¬ x.2.2.2 = 0)
theorem zHi_in {L : List (Nat × zEV)} {K : Nat} {what : Int32} (hK : K < 2 ^ 31) (h1 : ¬ what < 0) (h2 : what ≤ 1) : zHi L (nI K) what = match L[K]? with
  | none => -1
  | some x => if what = 0 then x.2.2.1 else zb (¬ x.2.2.2 = 0) := by
  unfold zHi
  rw [if_neg (nI_pos hK), if_neg h1, if_neg (Int32.not_lt.mpr h2), nI_clamp hK]
theorem zdrop1 {α : Type} {L R : List α} {x : α} {t : Nat} (h : L.drop t = x :: R) : L.drop (t + 1) = R := by
  rw [← List.drop_drop (i := 1) (j := t), h]; rfl
theorem zdrop0 {α : Type} {L R : List α} {x : α} {t : Nat} (h : L.drop t = x :: R) : L[t]? = some x := by
  have h1 : (L.drop t)[0]? = some x := by rw [h]; rfl
  rw [List.getElem?_drop] at h1
  exact h1
/-! copy, weed, act -/
abbrev zCk (N : Nat) (cv : Nat → zCV) (ty : Int32) (bc : Int64) (dg hm : Int32) : Prop := (zTy ty ∧ zPl hm ∧ nI N < 80) ∧ zBc bc dg ∧ ¬ zTk N cv bc dg
def zCpr (N : Nat) (cv : Nat → zCV) (dn : Nat → Int32) (ty : Int32) (bc : Int64) (dg hm : Int32) : Int32 := if zCk N cv ty bc dg hm then (if zRi dn hm ty then nI (N + 1) else -3) else -1
theorem hin80 {N : Nat} (h : nI N < 80) (hN : N ≤ 80) : vp_in (nI N) 80 := by
  have e80 : (80 : Int32) = nI 80 := rfl
  rw [e80, nI_ltI (by omega) (by decide)] at h
  exact vp_in_nI h (by decide)
theorem zcl_N {N : Nat} (hN : N ≤ 80) : (nI N).toNatClampNeg = N := nI_clamp (by omega)
section ZP
variable (G : zG) (h0 cps den fee N : Nat) (ca : Nat → Nat) (cv : Nat → zCV) (ch : Nat → List (Nat × zEV)) (dn fe : Nat → Int32) (gd : Int64) (ec : Nat)
/-- behind weed -/
def zWQ (k who : Int32) : Option Value → zMap → Prop := fun r M1 => match zIx N k with
  | none => r = some (.int (-1)) ∧ zI G M1 h0 cps den fee N ca cv ch dn fe gd ec
  | some j => if ¬ who < 0 ∧ ¬ 100 ≤ who ∧ nI ec < 512 then
      (if zWd (cv j).2.2.2.2.2.1 ∧ ¬ (cv j).2.2.2.2.2.2.2.2 = who then
        (if (cv j).2.2.2.2.2.2.2.2 = -1 then r = some (.int 1) ∧ zI G M1 h0 cps den fee N ca (zuf cv j ((cv j).1, (cv j).2.1, (cv j).2.2.1, (cv j).2.2.2.1, (cv j).2.2.2.2.1, (cv j).2.2.2.2.2.1, (cv j).2.2.2.2.2.2.1, (cv j).2.2.2.2.2.2.2.1, who)) ch dn fe gd ec
        else r = some (.int 2) ∧ ∃ q, zI G M1 h0 cps den fee N ca (zuf cv j ((cv j).1, (cv j).2.1, (cv j).2.2.1, (cv j).2.2.2.1, (cv j).2.2.2.2.1, 7, (cv j).2.2.2.2.2.2.1, (cv j).2.2.2.2.2.2.2.1, (cv j).2.2.2.2.2.2.2.2)) (zuf ch j (zIns (gd + 1) (q, gd + 1, 7, 0) (ch j))) dn fe (if gd + 1 < gd then gd else gd + 1) (ec + 1))
      else r = some (.int (-2)) ∧ zI G M1 h0 cps den fee N ca cv ch dn fe gd ec)
    else r = some (.int (-1)) ∧ zI G M1 h0 cps den fee N ca cv ch dn fe gd ec
abbrev zA1 (kind place pl : Int32) (day : Int64) (ec : Nat) : Prop := ¬ kind < 0 ∧ ¬ 6 < kind ∧ ¬ day < 0 ∧ day ≤ 1000000000000 ∧ (kind = 2 → zPl place ∧ ¬ place = pl) ∧ nI ec < 512
def zBe (gd day : Int64) (st so : Int32) : Int32 := if day < gd then so else st
theorem zBe_l {gd day : Int64} {st so : Int32} (h : day < gd) : zBe gd day st so = so := if_pos h
theorem zBe_n {gd day : Int64} {st so : Int32} (h : ¬ day < gd) : zBe gd day st so = st := if_neg h
/-- a copy's values behind an act that is not late -/
def zCoV (fe : Nat → Int32) (kind place : Int32) (v : zCV) : zCV := (v.1, v.2.1, v.2.2.1, (if kind = 0 ∧ ¬ v.2.2.2.2.2.2.1 = 0 then v.2.2.2.2.1 else v.2.2.2.1), (if kind = 2 then place else v.2.2.2.2.1), kind, v.2.2.2.2.2.2.1, (if kind = 6 ∧ v.2.2.2.2.2.1 = 1 ∧ zTy v.1 then v.2.2.2.2.2.2.2.1 + fe v.1.toNatClampNeg else v.2.2.2.2.2.2.2.1), -1)
def zAQ (k kind place : Int32) (day : Int64) : Option Value → zMap → Prop := fun r M1 => match zIx N k with
  | none => r = some (.int (-1)) ∧ zI G M1 h0 cps den fee N ca cv ch dn fe gd ec
  | some j => if zA1 kind place (cv j).2.2.2.2.1 day ec then
      (if zFo kind (zBe gd day (cv j).2.2.2.2.2.1 (zSt day (ch j))) then
        (if zLk dn kind place (zb (day < gd)) (cv j).2.2.2.2.2.1 (cv j).2.2.2.2.1 (cv j).1 then r = some (.int (-3)) ∧ zI G M1 h0 cps den fee N ca cv ch dn fe gd ec
        else r = some (.int kind) ∧ ∃ q, zI G M1 h0 cps den fee N ca (if day < gd then cv else zuf cv j (zCoV fe kind place (cv j))) (zuf ch j (zIns day (q, day, kind, zb (day < gd)) (ch j))) dn fe (if day < gd then gd else day) (ec + 1))
      else r = some (.int (-2)) ∧ zI G M1 h0 cps den fee N ca cv ch dn fe gd ec)
    else r = some (.int (-1)) ∧ zI G M1 h0 cps den fee N ca cv ch dn fe gd ec
end ZP
theorem zI_co {G : zG} {M : zMap} {h0 cps den fee N : Nat} {ca : Nat → Nat} {cv : Nat → zCV} {ch : Nat → List (Nat × zEV)} {dn fe : Nat → Int32} {gd : Int64} {ec : Nat} {L : List (Nat × zEV)} {j : Nat} {kind place : Int32} (h : zI G M h0 cps den fee N ca cv (zuf ch j L) dn fe gd ec) (hj : j < N) :
    zI G (zu M (ca j) (zCo fe kind place (cv j).1 (cv j).2.1 (cv j).2.2.1 (cv j).2.2.2.1 (cv j).2.2.2.2.1 (cv j).2.2.2.2.2.1 (cv j).2.2.2.2.2.2.1 (cv j).2.2.2.2.2.2.2.1 (zHd L))) h0 cps den fee N ca (zuf cv j (zCoV fe kind place (cv j))) (zuf ch j L) dn fe gd ec := by
  have h1 := h.setC hj (zCoV fe kind place (cv j)) (h.2.2.2.2.2.2.1 j hj).2.2
  rw [zuf_s] at h1
  exact h1
end
section
/-! the reference's cells: the object and its fifteen arrays -/
def zlong : Nat → Bool
  | 1 => true
  | 14 => true
  | _ => false
def zlen : Nat → Nat
  | 9 => 60
  | 10 => 6
  | 11 => 5000
  | 12 => 5000
  | 13 => 5000
  | 14 => 5000
  | _ => 81
def zaty : Nat → Nat
  | 6 => 1
  | 9 => 1
  | 13 => 1
  | 1 => 3
  | 14 => 3
  | _ => 0
def zmc (G : zG) (F : Nat → Nat → Int32) (L : Nat → Nat → Int64) (i : Nat) : va_E := if zlong i = true then .inl (G.2.2 (zaty i), zlen i, .inr (.inl (L i))) else .inl (G.2.2 (zaty i), zlen i, .inl (F i))
theorem zmc_inl (G : zG) (F : Nat → Nat → Int32) (L : Nat → Nat → Int64) (i : Nat) : ∃ z, zmc G F L i = .inl z := by
  unfold zmc
  by_cases h : zlong i = true
  · rw [if_pos h]; exact ⟨_, rfl⟩
  · rw [if_neg h]; exact ⟨_, rfl⟩
abbrev oM (th co : Int32) (ar : Nat → Nat) (ac : Int32) (gr : Int64) : va_E := .inr (3, [.int th, .int co, .ref (ar 0), .ref (ar 1), .ref (ar 2), .ref (ar 3), .ref (ar 4), .ref (ar 5), .ref (ar 6), .ref (ar 7), .ref (ar 8), .ref (ar 9), .ref (ar 10), .int ac, .ref (ar 11), .ref (ar 12), .ref (ar 13), .ref (ar 14), .long gr])
def zJ (G : zG) (M : zMap) (m0 : Nat) (ar : Nat → Nat) (th co ac : Int32) (gr : Int64) (F : Nat → Nat → Int32) (L : Nat → Nat → Int64) : Prop :=
  M m0 = some (oM th co ar ac gr) ∧ (∀ i, i < 15 → M (ar i) = some (zmc G F L i)) ∧ ∀ i j, i < 15 → j < 15 → ar i = ar j → i = j
section ZJ
variable {G : zG} {M : zMap} {m0 : Nat} {ar : Nat → Nat} {th co ac : Int32} {gr : Int64} {F : Nat → Nat → Int32} {L : Nat → Nat → Int64}
theorem zJ.ne (h : zJ G M m0 ar th co ac gr F L) {i : Nat} (hi : i < 15) : ar i ≠ m0 := by
  obtain ⟨z, hz⟩ := zmc_inl G F L i
  have h1 := h.2.1 i hi
  rw [hz] at h1
  exact zne h1 h.1 (by simp)
theorem zJ.setO (h : zJ G M m0 ar th co ac gr F L) (th1 co1 ac1 : Int32) (gr1 : Int64) : zJ G (zu M m0 (oM th1 co1 ar ac1 gr1)) m0 ar th1 co1 ac1 gr1 F L :=
  ⟨zu_s _ _ _, fun i hi => (zu_n (h.ne hi)).trans (h.2.1 i hi), h.2.2⟩
theorem zJ.setI (h : zJ G M m0 ar th co ac gr F L) (i : Nat) (hi : i < 15) (hl : zlong i = false) (f : Nat → Int32) : zJ G (zu M (ar i) (.inl (G.2.2 (zaty i), zlen i, .inl f))) m0 ar th co ac gr (zuf F i f) L := by
  refine ⟨(zu_n (Ne.symm (h.ne hi))).trans h.1, fun k hk => ?_, h.2.2⟩
  by_cases e : k = i
  · subst e
    rw [zu_s]
    unfold zmc
    rw [if_neg (by rw [hl]; decide), zuf_s]
  · rw [zu_n (fun q => e (h.2.2 k i hk hi q)), h.2.1 k hk]
    unfold zmc
    rw [zuf_n e]
theorem zJ.setL (h : zJ G M m0 ar th co ac gr F L) (i : Nat) (hi : i < 15) (hl : zlong i = true) (f : Nat → Int64) : zJ G (zu M (ar i) (.inl (G.2.2 (zaty i), zlen i, .inr (.inl f)))) m0 ar th co ac gr F (zuf L i f) := by
  refine ⟨(zu_n (Ne.symm (h.ne hi))).trans h.1, fun k hk => ?_, h.2.2⟩
  by_cases e : k = i
  · subst e
    rw [zu_s]
    unfold zmc
    rw [if_pos hl, zuf_s]
  · rw [zu_n (fun q => e (h.2.2 k i hk hi q)), h.2.1 k hk]
    unfold zmc
    rw [zuf_n e]
theorem zJ.floor (h : zJ G M m0 ar th co ac gr F L) {M1 : zMap} (hk : ∀ b, M b ≠ none → M1 b = M b) : zJ G M1 m0 ar th co ac gr F L :=
  ⟨(hk m0 (by rw [h.1]; exact fun q => by cases q)).trans h.1, fun i hi => (hk _ (by rw [h.2.1 i hi]; exact fun q => by cases q)).trans (h.2.1 i hi), h.2.2⟩
end ZJ
theorem zlt1 (k : Int32) : k < 1 ↔ k ≤ 0 := by
  rw [Int32.lt_iff_toInt_lt, Int32.le_iff_toInt_le]
  have e1 : (1 : Int32).toInt = 1 := rfl
  have e0 : (0 : Int32).toInt = 0 := rfl
  omega
theorem zisC {co : Nat} {k : Int32} (h1 : ¬ k ≤ 0) (h2 : ¬ nI co < k) : (zIx co k).isSome = true := by
  unfold zIx
  rw [if_neg (fun q => h1 ((zlt1 k).mp q)), if_neg h2]
  rfl
theorem zisC1 {co : Nat} {k : Int32} (h1 : k ≤ 0) : ¬ (zIx co k).isSome = true := by
  unfold zIx
  rw [if_pos ((zlt1 k).mpr h1)]
  exact fun q => by cases q
theorem zisC2 {co : Nat} {k : Int32} (h2 : nI co < k) : ¬ (zIx co k).isSome = true := by
  unfold zIx
  by_cases h1 : k < 1
  · rw [if_pos h1]; exact fun q => by cases q
  · rw [if_neg h1, if_pos h2]; exact fun q => by cases q
theorem zisN {co : Nat} {k : Int32} (h : ¬ (zIx co k).isSome = true) : zIx co k = none := by
  cases hz : zIx co k with
  | none => rfl
  | some j => rw [hz] at h; exact absurd rfl h
theorem zisS {co : Nat} {k : Int32} (h : (zIx co k).isSome = true) : ∃ j, zIx co k = some j := by
  cases hz : zIx co k with
  | none => rw [hz] at h; cases h
  | some j => exact ⟨j, rfl⟩
theorem zvp81 {j co : Nat} (h : j < co) (hc : co ≤ 80) : vp_in (nI (j + 1)) 81 := vp_in_nI (by omega) (by decide)
/-! numbers of ten, and the check sign by the reference -/
def zten : Nat → Int64
  | 0 => 1
  | k + 1 => 10 * zten k
def zsv (k : Nat) (d : Int32) : Int32 := if (if k % 2 = 0 then 2 * d else d) ≤ 9 then (if k % 2 = 0 then 2 * d else d) else (if k % 2 = 0 then 2 * d else d) - 9
def zsS (number : Int64) : Nat → Int32
  | 0 => 0
  | k + 1 => zsS number k + zsv k (zcd (zcR number k))
theorem zcR_eq {a : Nat} (ha : a < 2 ^ 63) : ∀ k, zcR (lN a) k = lN (a / 10 ^ k)
  | 0 => by rw [zcR, Nat.pow_zero, Nat.div_one]
  | k + 1 => by
    have h10 : (10 : Int64) = lN 10 := rfl
    rw [zcR, zcR_eq ha k, h10, pk_lDiv (Nat.lt_of_le_of_lt (Nat.div_le_self _ _) ha) (by decide) (by decide), Nat.div_div_eq_div_mul, Nat.pow_succ]
theorem zcd_eq {a : Nat} (ha : a < 2 ^ 63) : zcd (lN a) = nI (a % 10) := by
  have h10 : (10 : Int64) = lN 10 := rfl
  unfold zcd
  rw [h10, pk_lRem ha (by decide) (by decide), lN_i]
theorem zsv_eq {k d : Nat} (hd : d < 10) : zsv k (nI d) = if k % 2 = 0 then zdb (nI d) else nI d := by
  unfold zsv zdb
  by_cases h : k % 2 = 0
  · rw [if_pos h, if_pos h]
  · have h9 : nI d ≤ (9 : Int32) := nI_le (a := d) (b := 9) (by omega) (by decide)
    rw [if_neg h, if_neg h, if_pos h9]
theorem zsS_eq {a : Nat} (ha : a < 2 ^ 63) : ∀ k, zsS (lN a) k = zcS (lN a) k
  | 0 => rfl
  | k + 1 => by
    have hk : a / 10 ^ k < 2 ^ 63 := Nat.lt_of_le_of_lt (Nat.div_le_self _ _) ha
    rw [zsS, zcS, zsS_eq ha k, zcR_eq ha k, zcd_eq hk, zsv_eq (Nat.mod_lt _ (by decide))]
theorem zcS_st {a : Nat} (ha : a < 2 ^ 63) {i : Nat} (h : a / 10 ^ i = 0) : ∀ n, zcS (lN a) (i + n) = zcS (lN a) i
  | 0 => rfl
  | n + 1 => by
    have h0 : a / 10 ^ (i + n) = 0 := by
      rw [Nat.pow_add, ← Nat.div_div_eq_div_mul, h, Nat.zero_div]
    rw [show i + (n + 1) = (i + n) + 1 from rfl, zcS, zcS_st ha h n, zcR_eq ha, h0, zcd_eq (by decide)]
    by_cases hp : (i + n) % 2 = 0
    · rw [if_pos hp]; exact Int32.add_zero _
    · rw [if_neg hp]; exact Int32.add_zero _
theorem zcS_any {a i j : Nat} (ha : a < 2 ^ 63) (hi : a / 10 ^ i = 0) (hj : a / 10 ^ j = 0) : zcS (lN a) i = zcS (lN a) j := by
  rcases Nat.le_total i j with h | h
  · obtain ⟨n, rfl⟩ := Nat.le.dest h
    exact (zcS_st ha hi n).symm
  · obtain ⟨n, rfl⟩ := Nat.le.dest h
    exact zcS_st ha hj n
theorem zten_eq : ∀ k, zten k = lN (10 ^ k)
  | 0 => rfl
  | k + 1 => by
    have h10 : (10 : Int64) = lN 10 := rfl
    rw [zten, zten_eq k, h10, lN_mul, Nat.pow_succ, Nat.mul_comm]
theorem zten_lt {K : Nat} (hK : K ≤ 13) : 10 ^ K < 2 ^ 63 := Nat.lt_of_le_of_lt (Nat.pow_le_pow_right (by decide) hK) (by decide)
theorem zdiv0 {a K : Nat} : a / 10 ^ K = 0 ↔ a < 10 ^ K := by
  rw [Nat.div_eq_zero_iff]
  have : 10 ^ K ≠ 0 := Nat.pos_iff_ne_zero.mp (Nat.pow_pos (by decide))
  omega
theorem zlN0 {a : Nat} (ha : a < 2 ^ 63) : lN a = 0 ↔ a = 0 := by
  have h0 : (0 : Int64) = lN 0 := rfl
  rw [h0, pk_lEQ ha (by decide)]
/-- the two ways agree -/
theorem zchk_sign {a K K0 : Nat} (ha : a < 2 ^ 63) (h1 : 1 ≤ K) (h2 : K ≤ 12) (hlt : lN a < zten K) (h0 : a / 10 ^ K0 = 0) : zrm (10 - zrm (zsS (lN a) K0) 10) 10 = zchk (lN a) (nI K) := by
  rw [zten_eq, pk_lLT ha (zten_lt (by omega))] at hlt
  have hz := zdiv0.mpr hlt
  have hn : ¬ lN a < 0 := fun q => by
    have h9 : (0 : Int64) = lN 0 := rfl
    rw [h9, pk_lLT ha (by decide)] at q
    omega
  rw [zchk_in hn h1 h2, zcR_eq ha, hz, if_pos (show lN 0 = 0 from rfl), zsS_eq ha, zcS_any ha h0 hz]
theorem zchk_big {a K : Nat} (ha : a < 2 ^ 63) (h1 : 1 ≤ K) (h2 : K ≤ 12) (hlt : ¬ lN a < zten K) : zchk (lN a) (nI K) = -1 := by
  rw [zten_eq, pk_lLT ha (zten_lt (by omega))] at hlt
  have hn : ¬ lN a < 0 := fun q => by
    have h9 : (0 : Int64) = lN 0 := rfl
    rw [h9, pk_lLT ha (by decide)] at q
    omega
  have hk : a / 10 ^ K < 2 ^ 63 := Nat.lt_of_le_of_lt (Nat.div_le_self _ _) ha
  rw [zchk_in hn h1 h2, zcR_eq ha, if_neg]
  rw [zlN0 hk, zdiv0]
  exact hlt
/-! the acts: the last one of a copy up to a day; the place of a new one -/
def zlm (aC : Nat → Int32) (aD : Nat → Int64) (cp : Int32) (day : Int64) : Nat → Nat
  | 0 => 0
  | t + 1 => if aC t = cp ∧ aD t ≤ day then t + 1 else zlm aC aD cp day t
theorem zlm_le (aC : Nat → Int32) (aD : Nat → Int64) (cp : Int32) (day : Int64) : ∀ t, zlm aC aD cp day t ≤ t
  | 0 => Nat.le_refl 0
  | t + 1 => by
    unfold zlm
    by_cases h : aC t = cp ∧ aD t ≤ day
    · rw [if_pos h]; exact Nat.le_refl _
    · rw [if_neg h]; exact Nat.le_succ_of_le (zlm_le aC aD cp day t)
def zps (aD : Nat → Int64) (day : Int64) : Nat → Nat
  | 0 => 0
  | t + 1 => if day < aD t then zps aD day t else t + 1
theorem zps_le (aD : Nat → Int64) (day : Int64) : ∀ t, zps aD day t ≤ t
  | 0 => Nat.le_refl 0
  | t + 1 => by
    unfold zps
    by_cases h : day < aD t
    · rw [if_pos h]; exact Nat.le_succ_of_le (zps_le aD day t)
    · rw [if_neg h]; exact Nat.le_refl _
/-- shifted by one from t on -/
def zsh {α : Type} (f : Nat → α) (t n : Nat) : Nat → α := fun k => if t < k ∧ k ≤ n then f (k - 1) else f k
theorem zsh_0 {α : Type} (f : Nat → α) (n : Nat) : zsh f n n = f := by
  funext k
  unfold zsh
  rw [if_neg (by omega)]
theorem zsh_at {α : Type} (f : Nat → α) {t n : Nat} : zsh f (t + 1) n t = f t := by
  unfold zsh
  rw [if_neg (by omega)]
theorem zsh_1 {f : Nat → Int32} {t n : Nat} (h : t + 1 ≤ n) : upd (zsh f (t + 1) n) (t + 1) (f t) = zsh f t n := by
  funext k
  unfold upd zsh
  by_cases e : k = t + 1
  · subst e; rw [if_pos rfl, if_pos (by omega)]; rfl
  · rw [if_neg e]
    by_cases e2 : t + 1 < k ∧ k ≤ n
    · rw [if_pos e2, if_pos (by omega)]
    · rw [if_neg e2, if_neg (by omega)]
theorem zsh_1L {f : Nat → Int64} {t n : Nat} (h : t + 1 ≤ n) : vp_updL (zsh f (t + 1) n) (t + 1) (f t) = zsh f t n := by
  funext k
  unfold vp_updL zsh
  by_cases e : k = t + 1
  · subst e; rw [if_pos rfl, if_pos (by omega)]; rfl
  · rw [if_neg e]
    by_cases e2 : t + 1 < k ∧ k ≤ n
    · rw [if_pos e2, if_pos (by omega)]
    · rw [if_neg e2, if_neg (by omega)]
/-- put in at p -/
def zpi {α : Type} (f : Nat → α) (p n : Nat) (x : α) : Nat → α := fun k => if k = p then x else zsh f p n k
theorem zvp5 {t ac : Nat} (h : t < ac) (hac : ac < 5000) : vp_in (nI t) 5000 := vp_in_nI (by omega) (by decide)
theorem zvp5' {t ac : Nat} (h : t ≤ ac) (hac : ac < 5000) : vp_in (nI t) 5000 := vp_in_nI (by omega) (by decide)
abbrev zFm (k t : Int32) : Prop := (k = 0 ∧ ¬ t ≤ 0 ∧ ¬ 7 ≤ t) ∨ (k = 1 ∧ (t = 0 ∨ t = 4)) ∨ (k = 2 ∧ (t = 0 ∨ t = 3)) ∨ (k = 3 ∧ (t = 0 ∨ t = 6)) ∨ (k = 4 ∧ t = 0) ∨ (k = 5 ∧ (t = 0 ∨ t = 3)) ∨ (¬ k = 0 ∧ ¬ k = 1 ∧ ¬ k = 2 ∧ ¬ k = 3 ∧ ¬ k = 4 ∧ ¬ k = 5 ∧ ¬ 6 ≤ t)
theorem zsw6 {x : Int32} (h0 : ¬ x = 0) (h1 : ¬ x = 1) (h2 : ¬ x = 2) (h3 : ¬ x = 3) (h4 : ¬ x = 4) (h5 : ¬ x = 5) : x.toInt < 0 ∨ 5 < x.toInt := by
  have a0 := lv_neT (a := 0) h0 rfl
  have a1 := lv_neT (a := 1) h1 rfl
  have a2 := lv_neT (a := 2) h2 rfl
  have a3 := lv_neT (a := 3) h3 rfl
  have a4 := lv_neT (a := 4) h4 rfl
  have a5 := lv_neT (a := 5) h5 rfl
  omega
theorem zuf_id {α : Type} (f : Nat → α) (k : Nat) : zuf f k (f k) = f := by
  funext j
  unfold zuf
  by_cases h : j = k
  · rw [if_pos h, h]
  · rw [if_neg h]
def zFlm (co : Nat) (k on : Int32) (F : Nat → Nat → Int32) : Nat → Nat → Int32 := match zIx co k with
  | none => F
  | some j => zuf F 6 (upd (F 6) (j + 1) on)
theorem zcmp (a b : Int32) (n : Int) (ha : a.toInt = n) (hb : b.toInt = n + 1) (x : Int32) : a < x ↔ b ≤ x := by
  rw [Int32.lt_iff_toInt_lt, Int32.le_iff_toInt_le]
  omega
theorem gt9 {x : Int32} (h : 9 < x) : 10 ≤ x := (zcmp 9 10 9 rfl rfl x).mp h
theorem gt5 {x : Int32} (h : 5 < x) : 6 ≤ x := (zcmp 5 6 5 rfl rfl x).mp h
theorem le5 {x : Int32} (h : ¬ x ≤ 5) : 6 ≤ x := gt5 (Int32.not_le.mp h)
theorem zPl_9 {x : Int32} (h0 : ¬ x < 0) (h : ¬ 9 < x) : zPl x := ⟨h0, fun q => h ((zcmp 9 10 9 rfl rfl x).mpr q)⟩
theorem zTy_g5 {x : Int32} (h0 : ¬ x < 0) (h : ¬ 5 < x) : zTy x := ⟨h0, fun q => h ((zcmp 5 6 5 rfl rfl x).mpr q)⟩
theorem zTy_5 {x : Int32} (h0 : ¬ x < 0) (h : x ≤ 5) : zTy x := zTy_g5 h0 (Int32.not_lt.mpr h)
theorem zix6 (p t : Int32) : p * 6 + t = 6 * p + t := by rw [Int32.mul_comm]
theorem zRi_in6 {p t : Int32} (hp : zPl p) (ht : zTy t) : vp_in (6 * p + t) 60 := by rw [← zix6]; exact zRi_in hp ht
theorem zne1 {z : Nat} (h : z < 2 ^ 31) : ¬ nI z = -1 := fun q => by
  have h1 := nI_toInt h
  rw [q] at h1
  have h2 : (-1 : Int32).toInt = -1 := rfl
  omega
/-- the state on a day, by the acts of all -/
def zms (aC aS : Nat → Int32) (aD : Nat → Int64) (cp : Int32) (day : Int64) (ac : Nat) : Int32 := match zlm aC aD cp day ac with
  | 0 => 3
  | z + 1 => aS z
/-- a copy's values in the arrays -/
def cvm (F : Nat → Nat → Int32) (L : Nat → Nat → Int64) : Nat → zCV := fun j => (F 0 (j + 1), L 1 (j + 1), F 2 (j + 1), F 3 (j + 1), F 4 (j + 1), F 5 (j + 1), F 6 (j + 1), F 8 (j + 1), F 7 (j + 1))
abbrev zEF (F : Nat → Nat → Int32) (t ac : Nat) : Nat → Nat → Int32 := zuf (zuf (zuf F 11 (zsh (F 11) t ac)) 12 (zsh (F 12) t ac)) 13 (zsh (F 13) t ac)
abbrev zEL (L : Nat → Nat → Int64) (t ac : Nat) : Nat → Nat → Int64 := zuf L 14 (zsh (L 14) t ac)
abbrev zEN (F : Nat → Nat → Int32) (p ac : Nat) (cp sta lt : Int32) : Nat → Nat → Int32 := zuf (zuf (zuf F 11 (zpi (F 11) p ac cp)) 12 (zpi (F 12) p ac sta)) 13 (zpi (F 13) p ac lt)
theorem zEF_0 (F : Nat → Nat → Int32) (ac : Nat) : zEF F ac ac = F := by
  unfold zEF
  rw [zsh_0, zsh_0, zsh_0, zuf_id, zuf_id, zuf_id]
theorem zEL_0 (L : Nat → Nat → Int64) (ac : Nat) : zEL L ac ac = L := by
  unfold zEL
  rw [zsh_0, zuf_id]
theorem zEF_c {F : Nat → Nat → Int32} {a b c x y z : Nat → Int32} : zuf (zuf (zuf (zuf (zuf (zuf F 11 a) 12 b) 13 c) 11 x) 12 y) 13 z = zuf (zuf (zuf F 11 x) 12 y) 13 z := by
  funext k
  unfold zuf
  by_cases h1 : k = 13
  · simp [h1]
  · by_cases h2 : k = 12
    · simp [h2]
    · by_cases h3 : k = 11
      · simp [h3]
      · simp [h1, h2, h3]
theorem zEL_c {L : Nat → Nat → Int64} {a b : Nat → Int64} : zuf (zuf L 14 a) 14 b = zuf L 14 b := by
  funext k
  unfold zuf
  by_cases h : k = 14
  · rw [if_pos h, if_pos h]
  · rw [if_neg h, if_neg h, if_neg h]
theorem zpi_i {f : Nat → Int32} {p n : Nat} {x : Int32} : upd (zsh f p n) p x = zpi f p n x := rfl
theorem zpi_l {f : Nat → Int64} {p n : Nat} {x : Int64} : vp_updL (zsh f p n) p x = zpi f p n x := rfl
theorem zsub1 (x : Int32) : x + (-1) = x - 1 := by rw [Int32.sub_eq_add_neg]
/-! what the acts of one copy are, in their order -/
def zel (aC aS aL : Nat → Int32) (aD : Nat → Int64) (cp : Int32) : Nat → List zEV
  | 0 => []
  | t + 1 => zel aC aS aL aD cp t ++ (if aC t = cp then [(aD t, aS t, aL t)] else [])
def vHi (l : List zEV) (i what : Int32) : Int32 := if i < 0 then -1 else if what < 0 then -1 else if 1 < what then -1 else match l[i.toNatClampNeg]? with
  | none => -1
  | some x => if what = 0 then x.2.1 else zb (¬ x.2.2 = 0)
theorem zHi_map (L : List (Nat × zEV)) (i what : Int32) : zHi L i what = vHi (L.map Prod.snd) i what := by
  unfold zHi vHi
  rw [List.getElem?_map]
  cases L[i.toNatClampNeg]? <;> rfl
theorem zel_pre (aC aS aL : Nat → Int32) (aD : Nat → Int64) (cp : Int32) (t : Nat) : ∀ n, ∃ R, zel aC aS aL aD cp (t + n) = zel aC aS aL aD cp t ++ R
  | 0 => ⟨[], (List.append_nil _).symm⟩
  | n + 1 => by
    obtain ⟨R, h⟩ := zel_pre aC aS aL aD cp t n
    exact ⟨R ++ (if aC (t + n) = cp then [(aD (t + n), aS (t + n), aL (t + n))] else []), by rw [show t + (n + 1) = (t + n) + 1 from rfl, zel, h, List.append_assoc]⟩
theorem nI_of_clamp {i : Int32} (h : ¬ i < 0) : nI i.toNatClampNeg = i := by
  obtain ⟨j, hj, rfl⟩ := nI_of h
  rw [nI_clamp hj]
theorem zel_len (aC aS aL : Nat → Int32) (aD : Nat → Int64) (cp : Int32) : ∀ t, (zel aC aS aL aD cp t).length ≤ t
  | 0 => Nat.le_refl 0
  | t + 1 => by
    have h := zel_len aC aS aL aD cp t
    rw [zel, List.length_append]
    by_cases e : aC t = cp
    · rw [if_pos e]; exact Nat.succ_le_succ h
    · rw [if_neg e]; exact Nat.le_succ_of_le h
theorem zclamp_of {n : Nat} {i : Int32} (h : nI n = i) (_h0 : ¬ i < 0) (hn : n < 2 ^ 31) : i.toNatClampNeg = n := by
  rw [← h, nI_clamp hn]
theorem vHi_none {l : List zEV} {i what : Int32} (h : l.length ≤ i.toNatClampNeg) : vHi l i what = -1 := by
  unfold vHi
  rw [List.getElem?_eq_none h]
  by_cases a : i < 0
  · rw [if_pos a]
  · by_cases b : what < 0
    · rw [if_neg a, if_pos b]
    · by_cases c : 1 < what
      · rw [if_neg a, if_neg b, if_pos c]
      · rw [if_neg a, if_neg b, if_neg c]
theorem vHi_neg {l : List zEV} {i what : Int32} (h : i < 0) : vHi l i what = -1 := by unfold vHi; rw [if_pos h]
theorem zhi_neg {co : Nat} {k i what : Int32} {f : Nat → List zEV} (h : i < 0) : zsel co k (-1) (fun j => vHi (f j) i what) = -1 := by
  unfold zsel
  cases zIx co k with
  | none => rfl
  | some j => exact vHi_neg h
theorem zhi_end {co ac t : Nat} {k i what : Int32} {aC aS aL : Nat → Int32} {aD : Nat → Int64} (hlen : ¬ i < 0 → (zel aC aS aL aD k t).length ≤ i.toNatClampNeg) (ht : t = ac) (hco : co ≤ 80 := by assumption) : zsel co k (-1) (fun j => vHi (zel aC aS aL aD (nI (j + 1)) ac) i what) = -1 := by
  by_cases h : i < 0
  · exact zhi_neg h
  · cases hz : zIx co k with
    | none => rw [zsel_n hz]
    | some j =>
      obtain ⟨-, rfl⟩ := zIx_some hco hz
      rw [zsel_s hz, ← ht]
      exact vHi_none (hlen h)
/-- the answer for one entry -/
def zwh (x : zEV) (what : Int32) : Int32 := if what < 0 then -1 else if 1 < what then -1 else if what = 0 then x.2.1 else zb (¬ x.2.2 = 0)
theorem zhi_at {ac t : Nat} {cp i what : Int32} {aC aS aL : Nat → Int32} {aD : Nat → Int64} (h0 : ¬ i < 0) (ht : t < ac) (hc : aC t = cp) (hi : i.toNatClampNeg = (zel aC aS aL aD cp t).length) : vHi (zel aC aS aL aD cp ac) i what = zwh (aD t, aS t, aL t) what := by
  obtain ⟨n, rfl⟩ := Nat.le.dest ht
  obtain ⟨R, hR⟩ := zel_pre aC aS aL aD cp (t + 1) n
  have hx : (zel aC aS aL aD cp (t + 1 + n))[i.toNatClampNeg]? = some (aD t, aS t, aL t) := by
    rw [hR, zel, if_pos hc, hi, List.append_assoc, List.getElem?_append_right (Nat.le_refl _), Nat.sub_self]
    rfl
  unfold vHi zwh
  rw [if_neg h0]
  rw [show t.succ + n = t + 1 + n from rfl, hx]
theorem zwh0 {x : zEV} {what : Int32} (h : what = 0) : zwh x what = x.2.1 := by subst h; rfl
theorem zwh1 {x : zEV} {what : Int32} (h : what = 1) : zwh x what = zb (¬ x.2.2 = 0) := by subst h; rfl
theorem zwhN {x : zEV} {what : Int32} (h0 : ¬ what = 0) (h1 : ¬ what = 1) : zwh x what = -1 := by
  unfold zwh
  by_cases a : what < 0
  · rw [if_pos a]
  · by_cases b : 1 < what
    · rw [if_neg a, if_pos b]
    · exfalso
      have e0 := lv_neT (a := 0) h0 rfl
      have e1 := lv_neT (a := 1) h1 rfl
      rw [Int32.lt_iff_toInt_lt] at a b
      have z0 : (0 : Int32).toInt = 0 := rfl
      have z1 : (1 : Int32).toInt = 1 := rfl
      omega
theorem zms_z {aC aS : Nat → Int32} {aD : Nat → Int64} {cp : Int32} {day : Int64} {ac : Nat} (h : zlm aC aD cp day ac = 0) : zms aC aS aD cp day ac = 3 := by unfold zms; rw [h]
theorem zms_s {aC aS : Nat → Int32} {aD : Nat → Int64} {cp : Int32} {day : Int64} {ac z : Nat} (h : zlm aC aD cp day ac = z + 1) : zms aC aS aD cp day ac = aS z := by unfold zms; rw [h]
section ZV
variable (G : zG) (m0 : Nat) (ar : Nat → Nat) (co ac : Nat) (gr : Int64) (F : Nat → Nat → Int32) (L : Nat → Nat → Int64)
def zVQ (k who : Int32) : Option Value → zMap → Prop := fun r M1 => match zIx co k with
  | none => r = some (.int (-1)) ∧ zJ G M1 m0 ar 0 (nI co) (nI ac) gr F L
  | some j => if ¬ who < 0 ∧ who ≤ 99 then
      (if zWd (F 5 (j + 1)) ∧ ¬ F 7 (j + 1) = who then
        (if F 7 (j + 1) = -1 then r = some (.int 1) ∧ zJ G M1 m0 ar 0 (nI co) (nI ac) gr (zuf F 7 (upd (F 7) (j + 1) who)) L
        else r = some (.int 2) ∧ zJ G M1 m0 ar 0 (nI co) (nI (ac + 1)) (if gr + 1 ≤ gr then gr else gr + 1) (zuf (zEN F (zps (L 14) (gr + 1) ac) ac (nI (j + 1)) 7 0) 5 (upd (F 5) (j + 1) 7)) (zuf L 14 (zpi (L 14) (zps (L 14) (gr + 1) ac) ac (gr + 1))))
      else r = some (.int (-2)) ∧ zJ G M1 m0 ar 0 (nI co) (nI ac) gr F L)
    else r = some (.int (-1)) ∧ zJ G M1 m0 ar 0 (nI co) (nI ac) gr F L
abbrev zA1m (kind place pl : Int32) (day : Int64) : Prop := ¬ kind < 0 ∧ ¬ 6 < kind ∧ ¬ day < 0 ∧ ¬ 1000000000000 < day ∧ (kind = 2 → zPl place ∧ ¬ place = pl)
abbrev zLm (bd : Nat → Int32) (kind place : Int32) (day gr : Int64) (fro pl ty : Int32) : Prop := (kind = 2 ∧ ¬ bd (6 * place + ty).toNatClampNeg = 0) ∨ (kind = 0 ∧ ¬ day < gr ∧ fro = 2 ∧ ¬ bd (6 * pl + ty).toNatClampNeg = 0)
def zCF (F0 : Nat → Nat → Int32) (j : Nat) (kind place fro : Int32) : Nat → Nat → Int32 :=
  zuf (zuf (zuf (zuf (zuf F0 8 (upd (F0 8) (j + 1) (F0 8 (j + 1) + (if kind = 6 ∧ fro = 1 then F0 10 (F0 0 (j + 1)).toNatClampNeg else 0)))) 5 (upd (F0 5) (j + 1) kind)) 4 (upd (F0 4) (j + 1) (if kind = 2 then place else F0 4 (j + 1)))) 3 (upd (F0 3) (j + 1) (if kind = 0 ∧ ¬ F0 6 (j + 1) = 0 then F0 4 (j + 1) else F0 3 (j + 1)))) 7 (upd (F0 7) (j + 1) (-1))
def zBQ (k kind place : Int32) (day : Int64) : Option Value → zMap → Prop := fun r M1 => match zIx co k with
  | none => r = some (.int (-1)) ∧ zJ G M1 m0 ar 0 (nI co) (nI ac) gr F L
  | some j => if zA1m kind place (F 4 (j + 1)) day then
      (if zFm kind (zBe gr day (F 5 (j + 1)) (zms (F 11) (F 12) (L 14) (nI (j + 1)) day ac)) then
        (if zLm (F 9) kind place day gr (zBe gr day (F 5 (j + 1)) (zms (F 11) (F 12) (L 14) (nI (j + 1)) day ac)) (F 4 (j + 1)) (F 0 (j + 1)) then r = some (.int (-3)) ∧ zJ G M1 m0 ar 0 (nI co) (nI ac) gr F L
        else r = some (.int kind) ∧ zJ G M1 m0 ar 0 (nI co) (nI (ac + 1)) (if day ≤ gr then gr else day) (if day < gr then zEN F (zps (L 14) day ac) ac (nI (j + 1)) kind (zb (day < gr)) else zCF (zEN F (zps (L 14) day ac) ac (nI (j + 1)) kind (zb (day < gr))) j kind place (zBe gr day (F 5 (j + 1)) (zms (F 11) (F 12) (L 14) (nI (j + 1)) day ac))) (zuf L 14 (zpi (L 14) (zps (L 14) day ac) ac day)))
      else r = some (.int (-2)) ∧ zJ G M1 m0 ar 0 (nI co) (nI ac) gr F L)
    else r = some (.int (-1)) ∧ zJ G M1 m0 ar 0 (nI co) (nI ac) gr F L
end ZV
theorem zCF_eq {F0 : Nat → Nat → Int32} {j : Nat} {kind place fro vA vB vC : Int32} (hA : (if kind = 6 ∧ fro = 1 then F0 10 (F0 0 (j + 1)).toNatClampNeg else 0) = vA) (hB : (if kind = 2 then place else F0 4 (j + 1)) = vB) (hC : (if kind = 0 ∧ ¬ F0 6 (j + 1) = 0 then F0 4 (j + 1) else F0 3 (j + 1)) = vC) :
    zCF F0 j kind place fro = zuf (zuf (zuf (zuf (zuf F0 8 (upd (F0 8) (j + 1) (F0 8 (j + 1) + vA))) 5 (upd (F0 5) (j + 1) kind)) 4 (upd (F0 4) (j + 1) vB)) 3 (upd (F0 3) (j + 1) vC)) 7 (upd (F0 7) (j + 1) (-1)) := by
  unfold zCF
  rw [hA, hB, hC]
/-! a barcode, by the reference -/
theorem zdiv10 {a : Nat} (ha : a < 2 ^ 63) : lN a / 10 = lN (a / 10) := pk_lDiv (b := 10) ha (by decide) (by decide)
theorem zmod10 {a : Nat} (ha : a < 2 ^ 63) : lN a - lN a / 10 * 10 = lN (a % 10) := pk_lRem (b := 10) ha (by decide) (by decide)
theorem zBc_eq {a : Nat} {dg : Int32} (ha : a < 2 ^ 63) : zBc (lN a) dg ↔ zchk (lN (a / 10)) dg = nI (a % 10) := by
  have hn : ¬ lN a < 0 := fun q => by
    have h9 : (0 : Int64) = lN 0 := rfl
    rw [h9, pk_lLT ha (by decide)] at q
    omega
  have e : (lN a - lN a / 10 * 10).toInt32 = nI (a % 10) := by rw [zmod10 ha, lN_i]
  constructor
  · intro h
    have h2 := h.2
    rw [e, zdiv10 ha] at h2
    exact h2
  · intro h
    refine ⟨hn, ?_⟩
    rw [e, zdiv10 ha]
    exact h
theorem zBc_dig {bc : Int64} {dg : Int32} (h : dg < 1 ∨ 12 < dg) : ¬ zBc bc dg := fun q => by
  obtain ⟨a, ha, rfl⟩ := pk_lOf q.1
  rw [zBc_eq ha] at q
  unfold zchk at q
  rw [if_pos (Or.inr h)] at q
  exact zne1 (z := a % 10) (by omega) q.symm
theorem zBc_big {a K : Nat} (ha : a < 2 ^ 63) (h1 : 1 ≤ K) (h2 : K ≤ 12) (h : zten (K + 1) ≤ lN a) : ¬ zBc (lN a) (nI K) := fun q => by
  rw [zBc_eq ha] at q
  rw [zten_eq, pk_lLE (zten_lt (by omega)) ha] at h
  have h3 : 10 ^ K ≤ a / 10 := by
    rw [Nat.le_div_iff_mul_le (by decide), ← Nat.pow_succ]
    exact h
  rw [zchk_big (Nat.lt_of_le_of_lt (Nat.div_le_self _ _) ha) h1 h2 (fun z => by
    rw [zten_eq, pk_lLT (Nat.lt_of_le_of_lt (Nat.div_le_self _ _) ha) (zten_lt (by omega))] at z
    omega)] at q
  exact zne1 (z := a % 10) (by omega) q.symm
theorem zBc_sg {a K K0 : Nat} (ha : a < 2 ^ 63) (h1 : 1 ≤ K) (h2 : K ≤ 12) (h : ¬ zten (K + 1) ≤ lN a) (h0 : a / 10 / 10 ^ K0 = 0) : ((zrm (10 - zrm (zsS (lN (a / 10)) K0) 10) 10).toInt64 = lN a - lN a / 10 * 10) ↔ zBc (lN a) (nI K) := by
  have ha10 : a / 10 < 2 ^ 63 := Nat.lt_of_le_of_lt (Nat.div_le_self _ _) ha
  rw [zten_eq, pk_lLE (zten_lt (by omega)) ha] at h
  have h3 : a / 10 < 10 ^ K := by
    rw [Nat.div_lt_iff_lt_mul (by decide), ← Nat.pow_succ]
    omega
  rw [zBc_eq ha, zmod10 ha, zchk_sign ha10 h1 h2 (by rw [zten_eq, pk_lLT ha10 (zten_lt (by omega))]; exact h3) h0]
  constructor
  · intro q
    have q2 := congrArg Int64.toInt32 q
    rw [lN_i] at q2
    rw [← q2]
    simp
  · intro q
    rw [q, nI_l (by omega)]
def zNF (F : Nat → Nat → Int32) (co : Nat) (ty dg hm : Int32) : Nat → Nat → Int32 :=
  zuf (zuf (zuf (zuf (zuf (zuf F 0 (upd (F 0) (co + 1) ty)) 2 (upd (F 2) (co + 1) dg)) 3 (upd (F 3) (co + 1) hm)) 4 (upd (F 4) (co + 1) hm)) 5 (upd (F 5) (co + 1) 3)) 7 (upd (F 7) (co + 1) (-1))
theorem zinj : ∀ {l : List Nat} (_ : l.Nodup) (i j : Nat), i < l.length → j < l.length → l.getD i 0 = l.getD j 0 → i = j
  | [], _, i, _, h, _, _ => absurd h (Nat.not_lt_zero i)
  | a :: l, hn, i, j, hi, hj, e => by
    have hn2 := List.nodup_cons.mp hn
    cases i with
    | zero =>
      cases j with
      | zero => rfl
      | succ j =>
        exfalso
        have hj2 : j < l.length := Nat.lt_of_succ_lt_succ hj
        have e2 : a = l.getD j 0 := e
        rw [List.getD_eq_getElem?_getD, List.getElem?_eq_getElem hj2] at e2
        exact hn2.1 (by rw [e2]; exact List.getElem_mem hj2)
    | succ i =>
      have hi2 : i < l.length := Nat.lt_of_succ_lt_succ hi
      cases j with
      | zero =>
        exfalso
        have e2 : l.getD i 0 = a := e
        rw [List.getD_eq_getElem?_getD, List.getElem?_eq_getElem hi2] at e2
        exact hn2.1 (by rw [← e2]; exact List.getElem_mem hi2)
      | succ j => rw [zinj hn2.2 i j hi2 (Nat.lt_of_succ_lt_succ hj) e]
end
section
set_option maxHeartbeats 4000000 in
set_option maxRecDepth 100000 in
theorem c_X2_isType (l : Launch) (A : Nat → Prop) (G : zG) (M : zMap) (p0 : Int32) : zMet l yX2_isType cX2_isType 1 (some .boolean) { frames := 0, cells := 0, slots := 0, locals := 0 } [.int p0] A G M (fun r M1 => r = some (.int (zb (zTy p0))) ∧ M1 = M) := by
  refine zMet.of (by decide) (Nat.le_of_ble_eq_true rfl) ?_
  intro p e s m args below meth c ls S hr hlocks hnm hK hM hA hS hl
  have hl : lv_has ls 1 [(0, .int p0)] := hl
  have hx := S.1
  have hb := S.2.1
  have hown := S.2.2.2.1
  have hts := S.2.2.2.2
  have hr : meth.sig.returnType = some .boolean := hr
  refine lv_iload_n hx hb dX2_isType_0 rfl (lv_at hl 0 rfl) ?_
  refine lv_if_lt (tgt := 14) hx hb dX2_isType_1 (by decide) (fun c_1 => ?_) (fun c_1 => ?_)
  · -- 1 jump
    refine lv_iconst (v := 0) hx hb dX2_isType_14 (by decide) ?_
    exact z_zret S hr hlocks (by decide) hM hS ⟨by simp [zb, zTy, c_1], rfl⟩ (Nat.le_of_ble_eq_true rfl) (Nat.le_of_ble_eq_true rfl) dX2_isType_15
  · -- 1 on
    refine lv_iload_n hx hb dX2_isType_4 rfl (lv_at hl 0 rfl) ?_
    refine lv_bipush (v := 6) hx hb dX2_isType_5 (by decide) ?_
    refine lv_icmp_ge (tgt := 14) hx hb dX2_isType_7 (by decide) (fun c_2 => ?_) (fun c_2 => ?_)
    · -- 7 jump
      refine lv_iconst (v := 0) hx hb dX2_isType_14 (by decide) ?_
      exact z_zret S hr hlocks (by decide) hM hS ⟨by simp [zb, zTy, c_1, c_2], rfl⟩ (Nat.le_of_ble_eq_true rfl) (Nat.le_of_ble_eq_true rfl) dX2_isType_15
    · -- 7 on
      refine lv_iconst (v := 1) hx hb dX2_isType_10 (by decide) ?_
      refine lv_goto (tgt := 15) hx hb dX2_isType_11 (by decide) ?_
      exact z_zret S hr hlocks (by decide) hM hS ⟨by simp [zb, zTy, c_1, c_2], rfl⟩ (Nat.le_of_ble_eq_true rfl) (Nat.le_of_ble_eq_true rfl) dX2_isType_15
set_option maxHeartbeats 4000000 in
set_option maxRecDepth 100000 in
theorem c_X2_isPlace (l : Launch) (A : Nat → Prop) (G : zG) (M : zMap) (p0 : Int32) : zMet l yX2_isPlace cX2_isPlace 1 (some .boolean) { frames := 0, cells := 0, slots := 0, locals := 0 } [.int p0] A G M (fun r M1 => r = some (.int (zb (zPl p0))) ∧ M1 = M) := by
  refine zMet.of (by decide) (Nat.le_of_ble_eq_true rfl) ?_
  intro p e s m args below meth c ls S hr hlocks hnm hK hM hA hS hl
  have hl : lv_has ls 1 [(0, .int p0)] := hl
  have hx := S.1
  have hb := S.2.1
  have hown := S.2.2.2.1
  have hts := S.2.2.2.2
  have hr : meth.sig.returnType = some .boolean := hr
  refine lv_iload_n hx hb dX2_isPlace_0 rfl (lv_at hl 0 rfl) ?_
  refine lv_if_lt (tgt := 14) hx hb dX2_isPlace_1 (by decide) (fun c_1 => ?_) (fun c_1 => ?_)
  · -- 1 jump
    refine lv_iconst (v := 0) hx hb dX2_isPlace_14 (by decide) ?_
    exact z_zret S hr hlocks (by decide) hM hS ⟨by simp [zb, zPl, c_1], rfl⟩ (Nat.le_of_ble_eq_true rfl) (Nat.le_of_ble_eq_true rfl) dX2_isPlace_15
  · -- 1 on
    refine lv_iload_n hx hb dX2_isPlace_4 rfl (lv_at hl 0 rfl) ?_
    refine lv_bipush (v := 10) hx hb dX2_isPlace_5 (by decide) ?_
    refine lv_icmp_ge (tgt := 14) hx hb dX2_isPlace_7 (by decide) (fun c_2 => ?_) (fun c_2 => ?_)
    · -- 7 jump
      refine lv_iconst (v := 0) hx hb dX2_isPlace_14 (by decide) ?_
      exact z_zret S hr hlocks (by decide) hM hS ⟨by simp [zb, zPl, c_1, c_2], rfl⟩ (Nat.le_of_ble_eq_true rfl) (Nat.le_of_ble_eq_true rfl) dX2_isPlace_15
    · -- 7 on
      refine lv_iconst (v := 1) hx hb dX2_isPlace_10 (by decide) ?_
      refine lv_goto (tgt := 15) hx hb dX2_isPlace_11 (by decide) ?_
      exact z_zret S hr hlocks (by decide) hM hS ⟨by simp [zb, zPl, c_1, c_2], rfl⟩ (Nat.le_of_ble_eq_true rfl) (Nat.le_of_ble_eq_true rfl) dX2_isPlace_15
set_option maxHeartbeats 4000000 in
set_option maxRecDepth 100000 in
theorem c_X2_doubled (l : Launch) (A : Nat → Prop) (G : zG) (M : zMap) (p0 : Int32) : zMet l yX2_doubled cX2_doubled 2 (some .int) { frames := 0, cells := 0, slots := 0, locals := 0 } [.int p0] A G M (fun r M1 => r = some (.int (zdb p0)) ∧ M1 = M) := by
  refine zMet.of (by decide) (Nat.le_of_ble_eq_true rfl) ?_
  intro p e s m args below meth c ls S hr hlocks hnm hK hM hA hS hl
  have hl : lv_has ls 2 [(0, .int p0)] := hl
  have hx := S.1
  have hb := S.2.1
  have hown := S.2.2.2.1
  have hts := S.2.2.2.2
  have hr : meth.sig.returnType = some .int := hr
  refine lv_iconst (v := 2) hx hb dX2_doubled_0 (by decide) ?_
  refine lv_iload_n hx hb dX2_doubled_1 rfl (lv_at hl 0 rfl) ?_
  refine lv_imul hx hb dX2_doubled_2 ?_
  refine lv_istore_n (lv' := [(1, .int (2 * p0)), (0, .int p0)]) hx hb dX2_doubled_3 rfl hl (by decide) rfl (fun ls hl => ?_)
  refine lv_iload_n hx hb dX2_doubled_4 rfl (lv_at hl 0 rfl) ?_
  refine lv_bipush (v := 9) hx hb dX2_doubled_5 (by decide) ?_
  refine lv_icmp_le (tgt := 17) hx hb dX2_doubled_7 (by decide) (fun c_1 => ?_) (fun c_1 => ?_)
  · -- 7 jump
    refine lv_iload_n hx hb dX2_doubled_17 rfl (lv_at hl 0 rfl) ?_
    exact z_iret S hr hlocks hM hS ⟨by simp [zdb, c_1], rfl⟩ (Nat.le_of_ble_eq_true rfl) (Nat.le_of_ble_eq_true rfl) dX2_doubled_18
  · -- 7 on
    refine lv_iload_n hx hb dX2_doubled_10 rfl (lv_at hl 0 rfl) ?_
    refine lv_bipush (v := 9) hx hb dX2_doubled_11 (by decide) ?_
    refine lv_isub hx hb dX2_doubled_13 ?_
    refine lv_goto (tgt := 18) hx hb dX2_doubled_14 (by decide) ?_
    exact z_iret S hr hlocks hM hS ⟨by simp [zdb, c_1], rfl⟩ (Nat.le_of_ble_eq_true rfl) (Nat.le_of_ble_eq_true rfl) dX2_doubled_18
set_option maxHeartbeats 4000000 in
set_option maxRecDepth 100000 in
theorem c_X2_canBeWeeded (l : Launch) (A : Nat → Prop) (G : zG) (M : zMap) (p0 : Int32) : zMet l yX2_canBeWeeded cX2_canBeWeeded 1 (some .boolean) { frames := 0, cells := 0, slots := 0, locals := 0 } [.int p0] A G M (fun r M1 => r = some (.int (zb (zWd p0))) ∧ M1 = M) := by
  refine zMet.of (by decide) (Nat.le_of_ble_eq_true rfl) ?_
  intro p e s m args below meth c ls S hr hlocks hnm hK hM hA hS hl
  have hl : lv_has ls 1 [(0, .int p0)] := hl
  have hx := S.1
  have hb := S.2.1
  have hown := S.2.2.2.1
  have hts := S.2.2.2.2
  have hr : meth.sig.returnType = some .boolean := hr
  refine lv_iload_n hx hb dX2_canBeWeeded_0 rfl (lv_at hl 0 rfl) ?_
  refine lv_if_eq (tgt := 15) hx hb dX2_canBeWeeded_1 (by decide) (fun c_1 => ?_) (fun c_1 => ?_)
  · -- 1 jump
    refine lv_iconst (v := 1) hx hb dX2_canBeWeeded_15 (by decide) ?_
    refine lv_goto (tgt := 20) hx hb dX2_canBeWeeded_16 (by decide) ?_
    exact z_zret S hr hlocks (by decide) hM hS ⟨by simp [zb, zWd, c_1], rfl⟩ (Nat.le_of_ble_eq_true rfl) (Nat.le_of_ble_eq_true rfl) dX2_canBeWeeded_20
  · -- 1 on
    refine lv_iload_n hx hb dX2_canBeWeeded_4 rfl (lv_at hl 0 rfl) ?_
    refine lv_iconst (v := 3) hx hb dX2_canBeWeeded_5 (by decide) ?_
    refine lv_icmp_eq (tgt := 15) hx hb dX2_canBeWeeded_6 (by decide) (fun c_2 => ?_) (fun c_2 => ?_)
    · -- 6 jump
      refine lv_iconst (v := 1) hx hb dX2_canBeWeeded_15 (by decide) ?_
      refine lv_goto (tgt := 20) hx hb dX2_canBeWeeded_16 (by decide) ?_
      exact z_zret S hr hlocks (by decide) hM hS ⟨by simp [zb, zWd, c_1, c_2], rfl⟩ (Nat.le_of_ble_eq_true rfl) (Nat.le_of_ble_eq_true rfl) dX2_canBeWeeded_20
    · -- 6 on
      refine lv_iload_n hx hb dX2_canBeWeeded_9 rfl (lv_at hl 0 rfl) ?_
      refine lv_bipush (v := 6) hx hb dX2_canBeWeeded_10 (by decide) ?_
      refine lv_icmp_ne (tgt := 19) hx hb dX2_canBeWeeded_12 (by decide) (fun c_3 => ?_) (fun c_3 => ?_)
      · -- 12 jump
        refine lv_iconst (v := 0) hx hb dX2_canBeWeeded_19 (by decide) ?_
        exact z_zret S hr hlocks (by decide) hM hS ⟨by simp [zb, zWd, c_1, c_2, c_3], rfl⟩ (Nat.le_of_ble_eq_true rfl) (Nat.le_of_ble_eq_true rfl) dX2_canBeWeeded_20
      · -- 12 on
        refine lv_iconst (v := 1) hx hb dX2_canBeWeeded_15 (by decide) ?_
        refine lv_goto (tgt := 20) hx hb dX2_canBeWeeded_16 (by decide) ?_
        exact z_zret S hr hlocks (by decide) hM hS ⟨by simp [zb, zWd, c_1, c_2, c_3], rfl⟩ (Nat.le_of_ble_eq_true rfl) (Nat.le_of_ble_eq_true rfl) dX2_canBeWeeded_20
set_option maxHeartbeats 4000000 in
set_option maxRecDepth 100000 in
theorem c_X2_canFollow (l : Launch) (A : Nat → Prop) (G : zG) (M : zMap) (p0 p1 : Int32) : zMet l yX2_canFollow cX2_canFollow 2 (some .boolean) { frames := 0, cells := 0, slots := 0, locals := 0 } [.int p0, .int p1] A G M (fun r M1 => r = some (.int (zb (zFo p0 p1))) ∧ M1 = M) := by
  refine zMet.of (by decide) (Nat.le_of_ble_eq_true rfl) ?_
  intro p e s m args below meth c ls S hr hlocks hnm hK hM hA hS hl
  have hl : lv_has ls 2 [(0, .int p0), (1, .int p1)] := hl
  have hx := S.1
  have hb := S.2.1
  have hown := S.2.2.2.1
  have hts := S.2.2.2.2
  have hr : meth.sig.returnType = some .boolean := hr
  refine lv_iload_n hx hb dX2_canFollow_0 rfl (lv_at hl 0 rfl) ?_
  by_cases hk_0 : p0 = 0
  · subst hk_0
    refine lv_tableIn (tgt := 44) hx hb dX2_canFollow_1 (by decide) (by decide) rfl (by decide) ?_
    refine lv_iload_n hx hb dX2_canFollow_44 rfl (lv_at hl 1 rfl) ?_
    refine lv_iconst (v := 1) hx hb dX2_canFollow_45 (by decide) ?_
    refine lv_icmp_lt (tgt := 59) hx hb dX2_canFollow_46 (by decide) (fun c_1 => ?_) (fun c_1 => ?_)
    · -- 46 jump
      refine lv_iconst (v := 0) hx hb dX2_canFollow_59 (by decide) ?_
      exact z_zret S hr hlocks (by decide) hM hS ⟨by simp [zb, zFo, c_1], rfl⟩ (Nat.le_of_ble_eq_true rfl) (Nat.le_of_ble_eq_true rfl) dX2_canFollow_60
    · -- 46 on
      refine lv_iload_n hx hb dX2_canFollow_49 rfl (lv_at hl 1 rfl) ?_
      refine lv_bipush (v := 6) hx hb dX2_canFollow_50 (by decide) ?_
      refine lv_icmp_gt (tgt := 59) hx hb dX2_canFollow_52 (by decide) (fun c_2 => ?_) (fun c_2 => ?_)
      · -- 52 jump
        refine lv_iconst (v := 0) hx hb dX2_canFollow_59 (by decide) ?_
        exact z_zret S hr hlocks (by decide) hM hS ⟨by simp [zb, zFo, c_1, c_2], rfl⟩ (Nat.le_of_ble_eq_true rfl) (Nat.le_of_ble_eq_true rfl) dX2_canFollow_60
      · -- 52 on
        refine lv_iconst (v := 1) hx hb dX2_canFollow_55 (by decide) ?_
        refine lv_goto (tgt := 60) hx hb dX2_canFollow_56 (by decide) ?_
        exact z_zret S hr hlocks (by decide) hM hS ⟨by simp [zb, zFo, c_1, c_2], rfl⟩ (Nat.le_of_ble_eq_true rfl) (Nat.le_of_ble_eq_true rfl) dX2_canFollow_60
  by_cases hk_1 : p0 = 1
  · subst hk_1
    refine lv_tableIn (tgt := 61) hx hb dX2_canFollow_1 (by decide) (by decide) rfl (by decide) ?_
    refine lv_iload_n hx hb dX2_canFollow_61 rfl (lv_at hl 1 rfl) ?_
    refine lv_if_eq (tgt := 70) hx hb dX2_canFollow_62 (by decide) (fun c_3 => ?_) (fun c_3 => ?_)
    · -- 62 jump
      refine lv_iconst (v := 1) hx hb dX2_canFollow_70 (by decide) ?_
      refine lv_goto (tgt := 75) hx hb dX2_canFollow_71 (by decide) ?_
      exact z_zret S hr hlocks (by decide) hM hS ⟨by simp [zb, zFo, c_3], rfl⟩ (Nat.le_of_ble_eq_true rfl) (Nat.le_of_ble_eq_true rfl) dX2_canFollow_75
    · -- 62 on
      refine lv_iload_n hx hb dX2_canFollow_65 rfl (lv_at hl 1 rfl) ?_
      refine lv_iconst (v := 4) hx hb dX2_canFollow_66 (by decide) ?_
      refine lv_icmp_ne (tgt := 74) hx hb dX2_canFollow_67 (by decide) (fun c_4 => ?_) (fun c_4 => ?_)
      · -- 67 jump
        refine lv_iconst (v := 0) hx hb dX2_canFollow_74 (by decide) ?_
        exact z_zret S hr hlocks (by decide) hM hS ⟨by simp [zb, zFo, c_3, c_4], rfl⟩ (Nat.le_of_ble_eq_true rfl) (Nat.le_of_ble_eq_true rfl) dX2_canFollow_75
      · -- 67 on
        refine lv_iconst (v := 1) hx hb dX2_canFollow_70 (by decide) ?_
        refine lv_goto (tgt := 75) hx hb dX2_canFollow_71 (by decide) ?_
        exact z_zret S hr hlocks (by decide) hM hS ⟨by simp [zb, zFo, c_3, c_4], rfl⟩ (Nat.le_of_ble_eq_true rfl) (Nat.le_of_ble_eq_true rfl) dX2_canFollow_75
  by_cases hk_2 : p0 = 2
  · subst hk_2
    refine lv_tableIn (tgt := 76) hx hb dX2_canFollow_1 (by decide) (by decide) rfl (by decide) ?_
    refine lv_iload_n hx hb dX2_canFollow_76 rfl (lv_at hl 1 rfl) ?_
    refine lv_if_eq (tgt := 85) hx hb dX2_canFollow_77 (by decide) (fun c_5 => ?_) (fun c_5 => ?_)
    · -- 77 jump
      refine lv_iconst (v := 1) hx hb dX2_canFollow_85 (by decide) ?_
      refine lv_goto (tgt := 90) hx hb dX2_canFollow_86 (by decide) ?_
      exact z_zret S hr hlocks (by decide) hM hS ⟨by simp [zb, zFo, c_5], rfl⟩ (Nat.le_of_ble_eq_true rfl) (Nat.le_of_ble_eq_true rfl) dX2_canFollow_90
    · -- 77 on
      refine lv_iload_n hx hb dX2_canFollow_80 rfl (lv_at hl 1 rfl) ?_
      refine lv_iconst (v := 3) hx hb dX2_canFollow_81 (by decide) ?_
      refine lv_icmp_ne (tgt := 89) hx hb dX2_canFollow_82 (by decide) (fun c_6 => ?_) (fun c_6 => ?_)
      · -- 82 jump
        refine lv_iconst (v := 0) hx hb dX2_canFollow_89 (by decide) ?_
        exact z_zret S hr hlocks (by decide) hM hS ⟨by simp [zb, zFo, c_5, c_6], rfl⟩ (Nat.le_of_ble_eq_true rfl) (Nat.le_of_ble_eq_true rfl) dX2_canFollow_90
      · -- 82 on
        refine lv_iconst (v := 1) hx hb dX2_canFollow_85 (by decide) ?_
        refine lv_goto (tgt := 90) hx hb dX2_canFollow_86 (by decide) ?_
        exact z_zret S hr hlocks (by decide) hM hS ⟨by simp [zb, zFo, c_5, c_6], rfl⟩ (Nat.le_of_ble_eq_true rfl) (Nat.le_of_ble_eq_true rfl) dX2_canFollow_90
  by_cases hk_3 : p0 = 3
  · subst hk_3
    refine lv_tableIn (tgt := 91) hx hb dX2_canFollow_1 (by decide) (by decide) rfl (by decide) ?_
    refine lv_iload_n hx hb dX2_canFollow_91 rfl (lv_at hl 1 rfl) ?_
    refine lv_if_eq (tgt := 101) hx hb dX2_canFollow_92 (by decide) (fun c_7 => ?_) (fun c_7 => ?_)
    · -- 92 jump
      refine lv_iconst (v := 1) hx hb dX2_canFollow_101 (by decide) ?_
      refine lv_goto (tgt := 106) hx hb dX2_canFollow_102 (by decide) ?_
      exact z_zret S hr hlocks (by decide) hM hS ⟨by simp [zb, zFo, c_7], rfl⟩ (Nat.le_of_ble_eq_true rfl) (Nat.le_of_ble_eq_true rfl) dX2_canFollow_106
    · -- 92 on
      refine lv_iload_n hx hb dX2_canFollow_95 rfl (lv_at hl 1 rfl) ?_
      refine lv_bipush (v := 6) hx hb dX2_canFollow_96 (by decide) ?_
      refine lv_icmp_ne (tgt := 105) hx hb dX2_canFollow_98 (by decide) (fun c_8 => ?_) (fun c_8 => ?_)
      · -- 98 jump
        refine lv_iconst (v := 0) hx hb dX2_canFollow_105 (by decide) ?_
        exact z_zret S hr hlocks (by decide) hM hS ⟨by simp [zb, zFo, c_7, c_8], rfl⟩ (Nat.le_of_ble_eq_true rfl) (Nat.le_of_ble_eq_true rfl) dX2_canFollow_106
      · -- 98 on
        refine lv_iconst (v := 1) hx hb dX2_canFollow_101 (by decide) ?_
        refine lv_goto (tgt := 106) hx hb dX2_canFollow_102 (by decide) ?_
        exact z_zret S hr hlocks (by decide) hM hS ⟨by simp [zb, zFo, c_7, c_8], rfl⟩ (Nat.le_of_ble_eq_true rfl) (Nat.le_of_ble_eq_true rfl) dX2_canFollow_106
  by_cases hk_4 : p0 = 4
  · subst hk_4
    refine lv_tableIn (tgt := 107) hx hb dX2_canFollow_1 (by decide) (by decide) rfl (by decide) ?_
    refine lv_iload_n hx hb dX2_canFollow_107 rfl (lv_at hl 1 rfl) ?_
    refine lv_if_ne (tgt := 115) hx hb dX2_canFollow_108 (by decide) (fun c_9 => ?_) (fun c_9 => ?_)
    · -- 108 jump
      refine lv_iconst (v := 0) hx hb dX2_canFollow_115 (by decide) ?_
      exact z_zret S hr hlocks (by decide) hM hS ⟨by simp [zb, zFo, c_9], rfl⟩ (Nat.le_of_ble_eq_true rfl) (Nat.le_of_ble_eq_true rfl) dX2_canFollow_116
    · -- 108 on
      refine lv_iconst (v := 1) hx hb dX2_canFollow_111 (by decide) ?_
      refine lv_goto (tgt := 116) hx hb dX2_canFollow_112 (by decide) ?_
      exact z_zret S hr hlocks (by decide) hM hS ⟨by simp [zb, zFo, c_9], rfl⟩ (Nat.le_of_ble_eq_true rfl) (Nat.le_of_ble_eq_true rfl) dX2_canFollow_116
  by_cases hk_5 : p0 = 5
  · subst hk_5
    refine lv_tableIn (tgt := 76) hx hb dX2_canFollow_1 (by decide) (by decide) rfl (by decide) ?_
    refine lv_iload_n hx hb dX2_canFollow_76 rfl (lv_at hl 1 rfl) ?_
    refine lv_if_eq (tgt := 85) hx hb dX2_canFollow_77 (by decide) (fun c_10 => ?_) (fun c_10 => ?_)
    · -- 77 jump
      refine lv_iconst (v := 1) hx hb dX2_canFollow_85 (by decide) ?_
      refine lv_goto (tgt := 90) hx hb dX2_canFollow_86 (by decide) ?_
      exact z_zret S hr hlocks (by decide) hM hS ⟨by simp [zb, zFo, c_10], rfl⟩ (Nat.le_of_ble_eq_true rfl) (Nat.le_of_ble_eq_true rfl) dX2_canFollow_90
    · -- 77 on
      refine lv_iload_n hx hb dX2_canFollow_80 rfl (lv_at hl 1 rfl) ?_
      refine lv_iconst (v := 3) hx hb dX2_canFollow_81 (by decide) ?_
      refine lv_icmp_ne (tgt := 89) hx hb dX2_canFollow_82 (by decide) (fun c_11 => ?_) (fun c_11 => ?_)
      · -- 82 jump
        refine lv_iconst (v := 0) hx hb dX2_canFollow_89 (by decide) ?_
        exact z_zret S hr hlocks (by decide) hM hS ⟨by simp [zb, zFo, c_10, c_11], rfl⟩ (Nat.le_of_ble_eq_true rfl) (Nat.le_of_ble_eq_true rfl) dX2_canFollow_90
      · -- 82 on
        refine lv_iconst (v := 1) hx hb dX2_canFollow_85 (by decide) ?_
        refine lv_goto (tgt := 90) hx hb dX2_canFollow_86 (by decide) ?_
        exact z_zret S hr hlocks (by decide) hM hS ⟨by simp [zb, zFo, c_10, c_11], rfl⟩ (Nat.le_of_ble_eq_true rfl) (Nat.le_of_ble_eq_true rfl) dX2_canFollow_90
  by_cases hk_6 : p0 = 6
  · subst hk_6
    refine lv_tableIn (tgt := 117) hx hb dX2_canFollow_1 (by decide) (by decide) rfl (by decide) ?_
    refine lv_iload_n hx hb dX2_canFollow_117 rfl (lv_at hl 1 rfl) ?_
    refine lv_if_lt (tgt := 130) hx hb dX2_canFollow_118 (by decide) (fun c_12 => ?_) (fun c_12 => ?_)
    · -- 118 jump
      refine lv_iconst (v := 0) hx hb dX2_canFollow_130 (by decide) ?_
      exact z_zret S hr hlocks (by decide) hM hS ⟨by simp [zb, zFo, c_12], rfl⟩ (Nat.le_of_ble_eq_true rfl) (Nat.le_of_ble_eq_true rfl) dX2_canFollow_131
    · -- 118 on
      refine lv_iload_n hx hb dX2_canFollow_121 rfl (lv_at hl 1 rfl) ?_
      refine lv_iconst (v := 5) hx hb dX2_canFollow_122 (by decide) ?_
      refine lv_icmp_gt (tgt := 130) hx hb dX2_canFollow_123 (by decide) (fun c_13 => ?_) (fun c_13 => ?_)
      · -- 123 jump
        refine lv_iconst (v := 0) hx hb dX2_canFollow_130 (by decide) ?_
        exact z_zret S hr hlocks (by decide) hM hS ⟨by simp [zb, zFo, c_12, c_13], rfl⟩ (Nat.le_of_ble_eq_true rfl) (Nat.le_of_ble_eq_true rfl) dX2_canFollow_131
      · -- 123 on
        refine lv_iconst (v := 1) hx hb dX2_canFollow_126 (by decide) ?_
        refine lv_goto (tgt := 131) hx hb dX2_canFollow_127 (by decide) ?_
        exact z_zret S hr hlocks (by decide) hM hS ⟨by simp [zb, zFo, c_12, c_13], rfl⟩ (Nat.le_of_ble_eq_true rfl) (Nat.le_of_ble_eq_true rfl) dX2_canFollow_131
  refine lv_tableOut (tgt := 132) hx hb dX2_canFollow_1 (zsw7 hk_0 hk_1 hk_2 hk_3 hk_4 hk_5 hk_6) (by decide) ?_
  refine lv_iconst (v := 0) hx hb dX2_canFollow_132 (by decide) ?_
  exact z_zret S hr hlocks (by decide) hM hS ⟨by simp [zb, zFo, hk_0, hk_1, hk_2, hk_3, hk_4, hk_5, hk_6], rfl⟩ (Nat.le_of_ble_eq_true rfl) (Nat.le_of_ble_eq_true rfl) dX2_canFollow_133
set_option maxHeartbeats 4000000 in
set_option maxRecDepth 100000 in
theorem c_X2_find (l : Launch) (A : Nat → Prop) (G : zG) (M : zMap) (h0 cps : Nat) (n : Int32) (den fee : Nat) (gd : Int64) (ec : Int32) (f : Nat → Option Nat) (k : Int32) (h : M h0 = some (oI cps n den fee gd ec)) (hc : M cps = some (.inl (G.2.2 2, 80, .inr (.inr (.inr (.inr f)))))) : zMet l yX2_find cX2_find 2 (some (.object "ItemStates$Copy")) { frames := 0, cells := 0, slots := 0, locals := 0 } [.ref h0, .int k] A G M (fun r M1 => r = some (va_rf (zFi n f k)) ∧ M1 = M) := by
  refine zMet.of (by decide) (Nat.le_of_ble_eq_true rfl) ?_
  intro p e s m args below meth c ls S hr hlocks hnm hK hM hA hS hl
  have hl : lv_has ls 2 [(0, .ref h0), (1, .int k)] := hl
  have hx := S.1
  have hb := S.2.1
  have hown := S.2.2.2.1
  have hts := S.2.2.2.2
  have hr : meth.sig.returnType = some (.object "ItemStates$Copy") := hr
  refine lv_iload_n hx hb dX2_find_0 rfl (lv_at hl 1 rfl) ?_
  refine lv_iconst (v := 1) hx hb dX2_find_1 (by decide) ?_
  refine lv_icmp_lt (tgt := 22) hx hb dX2_find_2 (by decide) (fun c_1 => ?_) (fun c_1 => ?_)
  · -- 2 jump
    refine lv_null hx hb dX2_find_22 ?_
    exact z_aret S hr hlocks (Or.inl rfl) hM hS ⟨by simp [zFi, va_rf, c_1], rfl⟩ (Nat.le_of_ble_eq_true rfl) (Nat.le_of_ble_eq_true rfl) dX2_find_23
  · -- 2 on
    refine lv_iload_n hx hb dX2_find_5 rfl (lv_at hl 1 rfl) ?_
    refine lv_aload_n hx hb dX2_find_6 rfl (lv_at hl 0 rfl) ?_
    refine z_get (v := .int n) S kX2 hK hM h 1 (by decide) kw_17 rfl dX2_find_7 ?_
    refine lv_icmp_gt (tgt := 22) hx hb dX2_find_10 (by decide) (fun c_2 => ?_) (fun c_2 => ?_)
    · -- 10 jump
      refine lv_null hx hb dX2_find_22 ?_
      exact z_aret S hr hlocks (Or.inl rfl) hM hS ⟨by simp [zFi, va_rf, c_1, c_2], rfl⟩ (Nat.le_of_ble_eq_true rfl) (Nat.le_of_ble_eq_true rfl) dX2_find_23
    · -- 10 on
      refine lv_iload_n hx hb dX2_find_13 rfl (lv_at hl 1 rfl) ?_
      refine lv_aload_n hx hb dX2_find_14 rfl (lv_at hl 0 rfl) ?_
      refine z_get (v := .ref cps) S kX2 hK hM h 0 (by decide) kw_16 rfl dX2_find_15 ?_
      refine z_alen (v := 80) S hK hM 2 hc rfl rfl dX2_find_18 ?_
      refine lv_icmp_le (tgt := 24) hx hb dX2_find_19 (by decide) (fun c_3 => ?_) (fun c_3 => ?_)
      · -- 19 jump
        replace c_3 := Int32.not_lt.mpr c_3
        refine lv_aload_n hx hb dX2_find_24 rfl (lv_at hl 0 rfl) ?_
        refine z_get (v := .ref cps) S kX2 hK hM h 0 (by decide) kw_16 rfl dX2_find_25 ?_
        refine lv_iload_n hx hb dX2_find_28 rfl (lv_at hl 1 rfl) ?_
        refine lv_iconst (v := 1) hx hb dX2_find_29 (by decide) ?_
        refine lv_isub hx hb dX2_find_30 ?_
        refine z_aald S hK hM 2 hc rfl (zFi_in c_1 c_3) dX2_find_31 ?_
        exact z_aret S hr hlocks (z_rf _) hM hS ⟨by simp [zFi, va_rf, c_1, c_2, c_3], rfl⟩ (Nat.le_of_ble_eq_true rfl) (Nat.le_of_ble_eq_true rfl) dX2_find_32
      · -- 19 on
        replace c_3 := Int32.not_le.mp c_3
        refine lv_null hx hb dX2_find_22 ?_
        exact z_aret S hr hlocks (Or.inl rfl) hM hS ⟨by simp [zFi, va_rf, c_1, c_2, c_3], rfl⟩ (Nat.le_of_ble_eq_true rfl) (Nat.le_of_ble_eq_true rfl) dX2_find_23
set_option maxHeartbeats 4000000 in
set_option maxRecDepth 100000 in
theorem c_X2_hasRight (l : Launch) (A : Nat → Prop) (G : zG) (M : zMap) (h0 cps : Nat) (n : Int32) (den fee : Nat) (gd : Int64) (ec : Int32) (dn : Nat → Int32) (p0 p1 : Int32) (h : M h0 = some (oI cps n den fee gd ec)) (hd : M den = some (.inl (G.2.2 1, 60, .inl dn))) : zMet l yX2_hasRight cX2_hasRight 3 (some .boolean) { frames := 1, cells := 0, slots := 0, locals := 40 } [.ref h0, .int p0, .int p1] A G M (fun r M1 => r = some (.int (zb (zRi dn p0 p1))) ∧ M1 = M) := by
  refine zMet.of (by decide) (Nat.le_of_ble_eq_true rfl) ?_
  intro p e s m args below meth c ls S hr hlocks hnm hK hM hA hS hl
  have hl : lv_has ls 3 [(0, .ref h0), (1, .int p0), (2, .int p1)] := hl
  have hx := S.1
  have hb := S.2.1
  have hown := S.2.2.2.1
  have hts := S.2.2.2.2
  have hr : meth.sig.returnType = some .boolean := hr
  refine lv_iload_n hx hb dX2_hasRight_0 rfl (lv_at hl 1 rfl) ?_
  refine z_callS (As := [.int p0]) (rest := []) S (c_X2_isPlace l A G M p0) ok_X2_isPlace kw_52 kw_53 ⟨Nat.le_of_ble_eq_true rfl, Nat.le_of_ble_eq_true rfl⟩ hK hM hS hA rfl hl.1 rfl (Nat.le_of_ble_eq_true rfl) dX2_hasRight_1 ⟨Nat.le_of_ble_eq_true rfl, Nat.le_of_ble_eq_true rfl⟩ (fun r_3 M_1 H locs hp_2 hM hS => ?_)
  obtain ⟨rfl, hM9⟩ := hp_2
  rw [hM9] at hM
  refine W.eq (g2 := F0 m 4 ls [.int (zb (zPl p0))]) rfl ?_
  refine lv_if_eq (tgt := 32) hx hb dX2_hasRight_4 (by decide) (fun c_4 => ?_) (fun c_4 => ?_)
  · -- 4 jump
    rw [zb_0] at c_4
    refine lv_iconst (v := 0) hx hb dX2_hasRight_32 (by decide) ?_
    exact z_zret S hr hlocks (by decide) hM hS ⟨by rw [zb_f (fun q => c_4 q.1)], rfl⟩ (Nat.le_of_ble_eq_true rfl) (Nat.le_of_ble_eq_true rfl) dX2_hasRight_33
  · -- 4 on
    rw [zb_0n] at c_4
    refine lv_iload_n hx hb dX2_hasRight_7 rfl (lv_at hl 2 rfl) ?_
    refine z_callS (As := [.int p1]) (rest := []) S (c_X2_isType l A G M p1) ok_X2_isType kw_49 kw_50 ⟨Nat.le_of_ble_eq_true rfl, Nat.le_of_ble_eq_true rfl⟩ hK hM hS hA rfl hl.1 rfl (Nat.le_of_ble_eq_true rfl) dX2_hasRight_8 ⟨Nat.le_of_ble_eq_true rfl, Nat.le_of_ble_eq_true rfl⟩ (fun r_7 M_5 H locs hp_6 hM hS => ?_)
    obtain ⟨rfl, hM9⟩ := hp_6
    rw [hM9] at hM
    refine W.eq (g2 := F0 m 11 ls [.int (zb (zTy p1))]) rfl ?_
    refine lv_if_eq (tgt := 32) hx hb dX2_hasRight_11 (by decide) (fun c_8 => ?_) (fun c_8 => ?_)
    · -- 11 jump
      rw [zb_0] at c_8
      refine lv_iconst (v := 0) hx hb dX2_hasRight_32 (by decide) ?_
      exact z_zret S hr hlocks (by decide) hM hS ⟨by rw [zb_f (fun q => c_8 q.2.1)], rfl⟩ (Nat.le_of_ble_eq_true rfl) (Nat.le_of_ble_eq_true rfl) dX2_hasRight_33
    · -- 11 on
      rw [zb_0n] at c_8
      refine lv_aload_n hx hb dX2_hasRight_14 rfl (lv_at hl 0 rfl) ?_
      refine z_get (v := .ref den) S kX2 hK hM h 2 (by decide) kw_18 rfl dX2_hasRight_15 ?_
      refine lv_iload_n hx hb dX2_hasRight_18 rfl (lv_at hl 1 rfl) ?_
      refine lv_bipush (v := 6) hx hb dX2_hasRight_19 (by decide) ?_
      refine lv_imul hx hb dX2_hasRight_21 ?_
      refine lv_iload_n hx hb dX2_hasRight_22 rfl (lv_at hl 2 rfl) ?_
      refine lv_iadd hx hb dX2_hasRight_23 ?_
      refine z_zald S hK hM 1 hd rfl (zRi_in c_4 c_8) dX2_hasRight_24 ?_
      refine lv_if_ne (tgt := 32) hx hb dX2_hasRight_25 (by decide) (fun c_9 => ?_) (fun c_9 => ?_)
      · -- 25 jump
        refine lv_iconst (v := 0) hx hb dX2_hasRight_32 (by decide) ?_
        exact z_zret S hr hlocks (by decide) hM hS ⟨by rw [zb_f (fun q => c_9 q.2.2)], rfl⟩ (Nat.le_of_ble_eq_true rfl) (Nat.le_of_ble_eq_true rfl) dX2_hasRight_33
      · -- 25 on
        refine lv_iconst (v := 1) hx hb dX2_hasRight_28 (by decide) ?_
        refine lv_goto (tgt := 33) hx hb dX2_hasRight_29 (by decide) ?_
        exact z_zret S hr hlocks (by decide) hM hS ⟨by rw [zb_t ⟨c_4, c_8, c_9⟩], rfl⟩ (Nat.le_of_ble_eq_true rfl) (Nat.le_of_ble_eq_true rfl) dX2_hasRight_33
set_option maxHeartbeats 4000000 in
set_option maxRecDepth 100000 in
theorem c_X2_lacksRight (l : Launch) (A : Nat → Prop) (G : zG) (M : zMap) (h0 cps : Nat) (n : Int32) (den fee : Nat) (gd : Int64) (ec : Int32) (dn : Nat → Int32) (it : Nat) (ty : Int32) (bc : Int64) (dg hm pl st fl ow wb : Int32) (fi : Option Nat) (kind place late : Int32) (h : M h0 = some (oI cps n den fee gd ec)) (hd : M den = some (.inl (G.2.2 1, 60, .inl dn))) (hi : M it = some (oC ty bc dg hm pl st fl ow wb fi)) : zMet l yX2_lacksRight cX2_lacksRight 6 (some .boolean) { frames := 2, cells := 0, slots := 0, locals := 80 } [.ref h0, .ref it, .int kind, .int place, .int late] A G M (fun r M1 => r = some (.int (zb (zLk dn kind place late st pl ty))) ∧ M1 = M) := by
  refine zMet.of (by decide) (Nat.le_of_ble_eq_true rfl) ?_
  intro p e s m args below meth c ls S hr hlocks hnm hK hM hA hS hl
  have hl : lv_has ls 6 [(0, .ref h0), (1, .ref it), (2, .int kind), (3, .int place), (4, .int late)] := hl
  have hx := S.1
  have hb := S.2.1
  have hown := S.2.2.2.1
  have hts := S.2.2.2.2
  have hr : meth.sig.returnType = some .boolean := hr
  refine lv_iload_n hx hb dX2_lacksRight_0 rfl (lv_at hl 2 rfl) ?_
  refine lv_iconst (v := 2) hx hb dX2_lacksRight_1 (by decide) ?_
  refine lv_icmp_ne (tgt := 23) hx hb dX2_lacksRight_2 (by decide) (fun c_1 => ?_) (fun c_1 => ?_)
  · -- 2 jump
    refine lv_iload_n hx hb dX2_lacksRight_23 rfl (lv_at hl 2 rfl) ?_
    refine lv_if_ne (tgt := 44) hx hb dX2_lacksRight_24 (by decide) (fun c_2 => ?_) (fun c_2 => ?_)
    · -- 24 jump
      refine lv_iconst (v := 0) hx hb dX2_lacksRight_44 (by decide) ?_
      refine lv_istore (lv' := [(5, .int 0), (0, .ref h0), (1, .ref it), (2, .int kind), (3, .int place), (4, .int late)]) hx hb dX2_lacksRight_45 hl (by decide) rfl (fun ls hl => ?_)
      refine lv_iload hx hb dX2_lacksRight_47 (lv_at hl 0 rfl) ?_
      refine lv_if_eq (tgt := 71) hx hb dX2_lacksRight_49 (by decide) (fun c_3 => ?_) (fun c_3 => absurd c_3 (by decide))
      refine lv_iconst (v := 0) hx hb dX2_lacksRight_71 (by decide) ?_
      exact z_zret S hr hlocks (by decide) hM hS ⟨by simp only [zb]; simp [zLk, c_1, c_2], rfl⟩ (Nat.le_of_ble_eq_true rfl) (Nat.le_of_ble_eq_true rfl) dX2_lacksRight_72
    · -- 24 on
      refine lv_aload_n hx hb dX2_lacksRight_27 rfl (lv_at hl 1 rfl) ?_
      refine z_getN (v := .int st) S kX0 hK hM hi 5 (by decide) kw_88 rfl dX2_lacksRight_28 ?_
      refine lv_iconst (v := 2) hx hb dX2_lacksRight_31 (by decide) ?_
      refine lv_icmp_ne (tgt := 44) hx hb dX2_lacksRight_32 (by decide) (fun c_4 => ?_) (fun c_4 => ?_)
      · -- 32 jump
        refine lv_iconst (v := 0) hx hb dX2_lacksRight_44 (by decide) ?_
        refine lv_istore (lv' := [(5, .int 0), (0, .ref h0), (1, .ref it), (2, .int kind), (3, .int place), (4, .int late)]) hx hb dX2_lacksRight_45 hl (by decide) rfl (fun ls hl => ?_)
        refine lv_iload hx hb dX2_lacksRight_47 (lv_at hl 0 rfl) ?_
        refine lv_if_eq (tgt := 71) hx hb dX2_lacksRight_49 (by decide) (fun c_5 => ?_) (fun c_5 => absurd c_5 (by decide))
        refine lv_iconst (v := 0) hx hb dX2_lacksRight_71 (by decide) ?_
        exact z_zret S hr hlocks (by decide) hM hS ⟨by simp only [zb]; simp [zLk, c_1, c_2, c_4], rfl⟩ (Nat.le_of_ble_eq_true rfl) (Nat.le_of_ble_eq_true rfl) dX2_lacksRight_72
      · -- 32 on
        refine lv_iload hx hb dX2_lacksRight_35 (lv_at hl 4 rfl) ?_
        refine lv_if_ne (tgt := 44) hx hb dX2_lacksRight_37 (by decide) (fun c_6 => ?_) (fun c_6 => ?_)
        · -- 37 jump
          refine lv_iconst (v := 0) hx hb dX2_lacksRight_44 (by decide) ?_
          refine lv_istore (lv' := [(5, .int 0), (0, .ref h0), (1, .ref it), (2, .int kind), (3, .int place), (4, .int late)]) hx hb dX2_lacksRight_45 hl (by decide) rfl (fun ls hl => ?_)
          refine lv_iload hx hb dX2_lacksRight_47 (lv_at hl 0 rfl) ?_
          refine lv_if_eq (tgt := 71) hx hb dX2_lacksRight_49 (by decide) (fun c_7 => ?_) (fun c_7 => absurd c_7 (by decide))
          refine lv_iconst (v := 0) hx hb dX2_lacksRight_71 (by decide) ?_
          exact z_zret S hr hlocks (by decide) hM hS ⟨by simp only [zb]; simp [zLk, c_1, c_2, c_4, c_6], rfl⟩ (Nat.le_of_ble_eq_true rfl) (Nat.le_of_ble_eq_true rfl) dX2_lacksRight_72
        · -- 37 on
          refine lv_iconst (v := 1) hx hb dX2_lacksRight_40 (by decide) ?_
          refine lv_goto (tgt := 45) hx hb dX2_lacksRight_41 (by decide) ?_
          refine lv_istore (lv' := [(5, .int 1), (0, .ref h0), (1, .ref it), (2, .int kind), (3, .int place), (4, .int late)]) hx hb dX2_lacksRight_45 hl (by decide) rfl (fun ls hl => ?_)
          refine lv_iload hx hb dX2_lacksRight_47 (lv_at hl 0 rfl) ?_
          refine lv_if_eq (tgt := 71) hx hb dX2_lacksRight_49 (by decide) (fun c_8 => absurd c_8 (by decide)) (fun c_8 => ?_)
          refine lv_aload_n hx hb dX2_lacksRight_52 rfl (lv_at hl 1 rfl) ?_
          refine lv_aload_n hx hb dX2_lacksRight_53 rfl (lv_at hl 2 rfl) ?_
          refine z_getN (v := .int pl) S kX0 hK hM hi 4 (by decide) kw_86 rfl dX2_lacksRight_54 ?_
          refine lv_aload_n hx hb dX2_lacksRight_57 rfl (lv_at hl 2 rfl) ?_
          refine z_getN (v := .int ty) S kX0 hK hM hi 0 (by decide) kw_78 rfl dX2_lacksRight_58 ?_
          refine z_callV (As := [.int pl, .int ty]) (rest := []) S (c_X2_hasRight l A G M h0 cps n den fee gd ec dn pl ty h hd) ok_X2_hasRight kw_68 kw_70 ks_3 ⟨Nat.le_of_ble_eq_true rfl, Nat.le_of_ble_eq_true rfl⟩ hK hM hS hA h rfl rfl hl.1 rfl (Nat.le_of_ble_eq_true rfl) dX2_lacksRight_61 ⟨Nat.le_of_ble_eq_true rfl, Nat.le_of_ble_eq_true rfl⟩ (fun r_11 M_9 H locs hp_10 hM hS => ?_)
          obtain ⟨rfl, hM9⟩ := hp_10
          rw [hM9] at hM
          refine W.eq (g2 := F0 m 64 ls [.int (zb (zRi dn pl ty))]) rfl ?_
          refine lv_if_ne (tgt := 71) hx hb dX2_lacksRight_64 (by decide) (fun c_12 => ?_) (fun c_12 => ?_)
          · -- 64 jump
            rw [zb_0n] at c_12
            refine lv_iconst (v := 0) hx hb dX2_lacksRight_71 (by decide) ?_
            exact z_zret S hr hlocks (by decide) hM hS ⟨by simp only [zb]; simp [zLk, c_1, c_2, c_4, c_6, c_12], rfl⟩ (Nat.le_of_ble_eq_true rfl) (Nat.le_of_ble_eq_true rfl) dX2_lacksRight_72
          · -- 64 on
            rw [zb_0] at c_12
            refine lv_iconst (v := 1) hx hb dX2_lacksRight_67 (by decide) ?_
            refine lv_goto (tgt := 72) hx hb dX2_lacksRight_68 (by decide) ?_
            exact z_zret S hr hlocks (by decide) hM hS ⟨by simp only [zb]; simp [zLk, c_1, c_2, c_4, c_6, c_12], rfl⟩ (Nat.le_of_ble_eq_true rfl) (Nat.le_of_ble_eq_true rfl) dX2_lacksRight_72
  · -- 2 on
    refine lv_aload_n hx hb dX2_lacksRight_5 rfl (lv_at hl 0 rfl) ?_
    refine lv_iload_n hx hb dX2_lacksRight_6 rfl (lv_at hl 3 rfl) ?_
    refine lv_aload_n hx hb dX2_lacksRight_7 rfl (lv_at hl 1 rfl) ?_
    refine z_getN (v := .int ty) S kX0 hK hM hi 0 (by decide) kw_78 rfl dX2_lacksRight_8 ?_
    refine z_callV (As := [.int place, .int ty]) (rest := []) S (c_X2_hasRight l A G M h0 cps n den fee gd ec dn place ty h hd) ok_X2_hasRight kw_68 kw_70 ks_3 ⟨Nat.le_of_ble_eq_true rfl, Nat.le_of_ble_eq_true rfl⟩ hK hM hS hA h rfl rfl hl.1 rfl (Nat.le_of_ble_eq_true rfl) dX2_lacksRight_11 ⟨Nat.le_of_ble_eq_true rfl, Nat.le_of_ble_eq_true rfl⟩ (fun r_15 M_13 H locs hp_14 hM hS => ?_)
    obtain ⟨rfl, hM9⟩ := hp_14
    rw [hM9] at hM
    refine W.eq (g2 := F0 m 14 ls [.int (zb (zRi dn place ty))]) rfl ?_
    refine lv_if_ne (tgt := 21) hx hb dX2_lacksRight_14 (by decide) (fun c_16 => ?_) (fun c_16 => ?_)
    · -- 14 jump
      rw [zb_0n] at c_16
      refine lv_iconst (v := 0) hx hb dX2_lacksRight_21 (by decide) ?_
      exact z_zret S hr hlocks (by decide) hM hS ⟨by simp only [zb]; simp [zLk, c_1, c_16], rfl⟩ (Nat.le_of_ble_eq_true rfl) (Nat.le_of_ble_eq_true rfl) dX2_lacksRight_22
    · -- 14 on
      rw [zb_0] at c_16
      refine lv_iconst (v := 1) hx hb dX2_lacksRight_17 (by decide) ?_
      refine lv_goto (tgt := 22) hx hb dX2_lacksRight_18 (by decide) ?_
      exact z_zret S hr hlocks (by decide) hM hS ⟨by simp only [zb]; simp [zLk, c_1, c_16], rfl⟩ (Nat.le_of_ble_eq_true rfl) (Nat.le_of_ble_eq_true rfl) dX2_lacksRight_22
end
section
set_option maxHeartbeats 4000000 in
set_option maxRecDepth 100000 in
theorem c_X1_init (l : Launch) (A : Nat → Prop) (G : zG) (M : zMap) (q : Nat) (w0 : Int64) (w1 w2 : Int32) (w3 : Option Nat) (d : Int64) (sta lt : Int32) (nx : Option Nat) (h : M q = some (oE w0 w1 w2 w3)) (hbool : zbool lt) : zMet l yX1_init cX1_init 6 none { frames := 1, cells := 0, slots := 0, locals := 40 } [.ref q, .long d, .int sta, .int lt, va_rf nx] A G M (fun r M1 => r = none ∧ M1 = zu M q (oE d sta lt nx)) := by
  refine zMet.of (by decide) (by cases nx <;> exact Nat.le_of_ble_eq_true rfl) ?_
  intro p e s m args below meth c ls S hr hlocks hnm hK hM hA hS hl
  have hl : lv_has ls 6 [(0, .ref q), (1, .long d), (3, .int sta), (4, .int lt), (5, va_rf nx)] := hl
  have hx := S.1
  have hb := S.2.1
  have hown := S.2.2.2.1
  have hts := S.2.2.2.2
  have hr : meth.sig.returnType = none := hr
  have hnm : meth.name = "<init>" := hnm
  refine lv_aload_n hx hb dX1_init_0 rfl (lv_at hl 0 rfl) ?_
  refine z_objInit S hl.1 kw_154 kw_12 kw_13 dX1_init_1 (Nat.le_of_ble_eq_true rfl) (Nat.le_of_ble_eq_true rfl) ?_
  refine lv_aload_n hx hb dX1_init_4 rfl (lv_at hl 0 rfl) ?_
  refine lv_lload_n hx hb dX1_init_5 rfl (lv_at hl 1 rfl) ?_
  refine z_putF S kX1 hK hM hS h 0 (by decide) kw_155 rfl hnm rfl rfl rfl (Nat.le_of_ble_eq_true rfl) dX1_init_6 (fun H locs hM hS => ?_)
  obtain ⟨M_1, eM_2⟩ : ∃ z : zMap, z = zu M q (.inr (1, [.long d, .int w1, .int w2, va_rf w3])) := ⟨_, rfl⟩
  replace hM : zM A G M_1 H := by rw [eM_2]; exact hM
  have he_3 : M_1 q = some (.inr (1, [.long d, .int w1, .int w2, va_rf w3])) := by rw [eM_2]; exact zu_s _ _ _
  refine lv_aload_n hx hb dX1_init_9 rfl (lv_at hl 0 rfl) ?_
  refine lv_iload_n hx hb dX1_init_10 rfl (lv_at hl 2 rfl) ?_
  refine z_putF S kX1 hK hM hS he_3 1 (by decide) kw_157 rfl hnm rfl rfl rfl (Nat.le_of_ble_eq_true rfl) dX1_init_11 (fun H locs hM hS => ?_)
  obtain ⟨M_4, eM_5⟩ : ∃ z : zMap, z = zu M_1 q (.inr (1, [.long d, .int sta, .int w2, va_rf w3])) := ⟨_, rfl⟩
  replace hM : zM A G M_4 H := by rw [eM_5]; exact hM
  have he_6 : M_4 q = some (.inr (1, [.long d, .int sta, .int w2, va_rf w3])) := by rw [eM_5]; exact zu_s _ _ _
  refine lv_aload_n hx hb dX1_init_14 rfl (lv_at hl 0 rfl) ?_
  refine lv_iload hx hb dX1_init_15 (lv_at hl 3 rfl) ?_
  refine z_putF S kX1 hK hM hS he_6 2 (by decide) kw_159 rfl hnm rfl (z_nb hbool) (z_fb hbool) (Nat.le_of_ble_eq_true rfl) dX1_init_17 (fun H locs hM hS => ?_)
  obtain ⟨M_7, eM_8⟩ : ∃ z : zMap, z = zu M_4 q (.inr (1, [.long d, .int sta, .int lt, va_rf w3])) := ⟨_, rfl⟩
  replace hM : zM A G M_7 H := by rw [eM_8]; exact hM
  have he_9 : M_7 q = some (.inr (1, [.long d, .int sta, .int lt, va_rf w3])) := by rw [eM_8]; exact zu_s _ _ _
  refine lv_aload_n hx hb dX1_init_20 rfl (lv_at hl 0 rfl) ?_
  refine z_aloadq hx hb dX1_init_21 (lv_at hl 4 rfl) ?_
  refine z_put S kX1 hK hM hS he_9 3 (by decide) kw_161 rfl (z_nq _ _) (z_fq _ _) (Nat.le_of_ble_eq_true rfl) dX1_init_23 (fun H locs hM hS => ?_)
  obtain ⟨M_10, eM_11⟩ : ∃ z : zMap, z = zu M_7 q (.inr (1, [.long d, .int sta, .int lt, va_rf nx])) := ⟨_, rfl⟩
  replace hM : zM A G M_10 H := by rw [eM_11]; exact hM
  have he_12 : M_10 q = some (.inr (1, [.long d, .int sta, .int lt, va_rf nx])) := by rw [eM_11]; exact zu_s _ _ _
  exact z_vret S hr hlocks hM hS ⟨rfl, by simp only [eM_11, eM_8, eM_5, eM_2, zu_u]⟩ (Nat.le_of_ble_eq_true rfl) (Nat.le_of_ble_eq_true rfl) dX1_init_26
set_option maxHeartbeats 4000000 in
set_option maxRecDepth 100000 in
theorem c_X0_init (l : Launch) (A : Nat → Prop) (G : zG) (M : zMap) (q : Nat) (w0 : Int32) (w1 : Int64) (w2 w3 w4 w5 w6 w7 w8 : Int32) (w9 : Option Nat) (ty : Int32) (bc : Int64) (dg hm : Int32) (h : M q = some (oC w0 w1 w2 w3 w4 w5 w6 w7 w8 w9)) : zMet l yX0_init cX0_init 6 none { frames := 1, cells := 0, slots := 0, locals := 40 } [.ref q, .int ty, .long bc, .int dg, .int hm] A G M (fun r M1 => r = none ∧ M1 = zu M q (oC ty bc dg hm hm 3 0 0 (-1) none)) := by
  refine zMet.of (by decide) (Nat.le_of_ble_eq_true rfl) ?_
  intro p e s m args below meth c ls S hr hlocks hnm hK hM hA hS hl
  have hl : lv_has ls 6 [(0, .ref q), (1, .int ty), (2, .long bc), (4, .int dg), (5, .int hm)] := hl
  have hx := S.1
  have hb := S.2.1
  have hown := S.2.2.2.1
  have hts := S.2.2.2.2
  have hr : meth.sig.returnType = none := hr
  have hnm : meth.name = "<init>" := hnm
  refine lv_aload_n hx hb dX0_init_0 rfl (lv_at hl 0 rfl) ?_
  refine z_objInit S hl.1 kw_76 kw_12 kw_13 dX0_init_1 (Nat.le_of_ble_eq_true rfl) (Nat.le_of_ble_eq_true rfl) ?_
  refine lv_aload_n hx hb dX0_init_4 rfl (lv_at hl 0 rfl) ?_
  refine lv_iload_n hx hb dX0_init_5 rfl (lv_at hl 1 rfl) ?_
  refine z_putF S kX0 hK hM hS h 0 (by decide) kw_77 rfl hnm rfl rfl rfl (Nat.le_of_ble_eq_true rfl) dX0_init_6 (fun H locs hM hS => ?_)
  obtain ⟨M_1, eM_2⟩ : ∃ z : zMap, z = zu M q (.inr (0, [.int ty, .long w1, .int w2, .int w3, .int w4, .int w5, .int w6, .int w7, .int w8, va_rf w9])) := ⟨_, rfl⟩
  replace hM : zM A G M_1 H := by rw [eM_2]; exact hM
  have he_3 : M_1 q = some (.inr (0, [.int ty, .long w1, .int w2, .int w3, .int w4, .int w5, .int w6, .int w7, .int w8, va_rf w9])) := by rw [eM_2]; exact zu_s _ _ _
  refine lv_aload_n hx hb dX0_init_9 rfl (lv_at hl 0 rfl) ?_
  refine lv_lload_n hx hb dX0_init_10 rfl (lv_at hl 2 rfl) ?_
  refine z_putF S kX0 hK hM hS he_3 1 (by decide) kw_79 rfl hnm rfl rfl rfl (Nat.le_of_ble_eq_true rfl) dX0_init_11 (fun H locs hM hS => ?_)
  obtain ⟨M_4, eM_5⟩ : ∃ z : zMap, z = zu M_1 q (.inr (0, [.int ty, .long bc, .int w2, .int w3, .int w4, .int w5, .int w6, .int w7, .int w8, va_rf w9])) := ⟨_, rfl⟩
  replace hM : zM A G M_4 H := by rw [eM_5]; exact hM
  have he_6 : M_4 q = some (.inr (0, [.int ty, .long bc, .int w2, .int w3, .int w4, .int w5, .int w6, .int w7, .int w8, va_rf w9])) := by rw [eM_5]; exact zu_s _ _ _
  refine lv_aload_n hx hb dX0_init_14 rfl (lv_at hl 0 rfl) ?_
  refine lv_iload hx hb dX0_init_15 (lv_at hl 3 rfl) ?_
  refine z_putF S kX0 hK hM hS he_6 2 (by decide) kw_81 rfl hnm rfl rfl rfl (Nat.le_of_ble_eq_true rfl) dX0_init_17 (fun H locs hM hS => ?_)
  obtain ⟨M_7, eM_8⟩ : ∃ z : zMap, z = zu M_4 q (.inr (0, [.int ty, .long bc, .int dg, .int w3, .int w4, .int w5, .int w6, .int w7, .int w8, va_rf w9])) := ⟨_, rfl⟩
  replace hM : zM A G M_7 H := by rw [eM_8]; exact hM
  have he_9 : M_7 q = some (.inr (0, [.int ty, .long bc, .int dg, .int w3, .int w4, .int w5, .int w6, .int w7, .int w8, va_rf w9])) := by rw [eM_8]; exact zu_s _ _ _
  refine lv_aload_n hx hb dX0_init_20 rfl (lv_at hl 0 rfl) ?_
  refine lv_iload hx hb dX0_init_21 (lv_at hl 4 rfl) ?_
  refine z_put S kX0 hK hM hS he_9 3 (by decide) kw_83 rfl rfl rfl (Nat.le_of_ble_eq_true rfl) dX0_init_23 (fun H locs hM hS => ?_)
  obtain ⟨M_10, eM_11⟩ : ∃ z : zMap, z = zu M_7 q (.inr (0, [.int ty, .long bc, .int dg, .int hm, .int w4, .int w5, .int w6, .int w7, .int w8, va_rf w9])) := ⟨_, rfl⟩
  replace hM : zM A G M_10 H := by rw [eM_11]; exact hM
  have he_12 : M_10 q = some (.inr (0, [.int ty, .long bc, .int dg, .int hm, .int w4, .int w5, .int w6, .int w7, .int w8, va_rf w9])) := by rw [eM_11]; exact zu_s _ _ _
  refine lv_aload_n hx hb dX0_init_26 rfl (lv_at hl 0 rfl) ?_
  refine lv_iload hx hb dX0_init_27 (lv_at hl 4 rfl) ?_
  refine z_put S kX0 hK hM hS he_12 4 (by decide) kw_85 rfl rfl rfl (Nat.le_of_ble_eq_true rfl) dX0_init_29 (fun H locs hM hS => ?_)
  obtain ⟨M_13, eM_14⟩ : ∃ z : zMap, z = zu M_10 q (.inr (0, [.int ty, .long bc, .int dg, .int hm, .int hm, .int w5, .int w6, .int w7, .int w8, va_rf w9])) := ⟨_, rfl⟩
  replace hM : zM A G M_13 H := by rw [eM_14]; exact hM
  have he_15 : M_13 q = some (.inr (0, [.int ty, .long bc, .int dg, .int hm, .int hm, .int w5, .int w6, .int w7, .int w8, va_rf w9])) := by rw [eM_14]; exact zu_s _ _ _
  refine lv_aload_n hx hb dX0_init_32 rfl (lv_at hl 0 rfl) ?_
  refine lv_iconst (v := 3) hx hb dX0_init_33 (by decide) ?_
  refine z_put S kX0 hK hM hS he_15 5 (by decide) kw_87 rfl rfl rfl (Nat.le_of_ble_eq_true rfl) dX0_init_34 (fun H locs hM hS => ?_)
  obtain ⟨M_16, eM_17⟩ : ∃ z : zMap, z = zu M_13 q (.inr (0, [.int ty, .long bc, .int dg, .int hm, .int hm, .int 3, .int w6, .int w7, .int w8, va_rf w9])) := ⟨_, rfl⟩
  replace hM : zM A G M_16 H := by rw [eM_17]; exact hM
  have he_18 : M_16 q = some (.inr (0, [.int ty, .long bc, .int dg, .int hm, .int hm, .int 3, .int w6, .int w7, .int w8, va_rf w9])) := by rw [eM_17]; exact zu_s _ _ _
  refine lv_aload_n hx hb dX0_init_37 rfl (lv_at hl 0 rfl) ?_
  refine lv_iconst (v := 0) hx hb dX0_init_38 (by decide) ?_
  refine z_put S kX0 hK hM hS he_18 6 (by decide) kw_89 rfl (by decide) (by decide) (Nat.le_of_ble_eq_true rfl) dX0_init_39 (fun H locs hM hS => ?_)
  obtain ⟨M_19, eM_20⟩ : ∃ z : zMap, z = zu M_16 q (.inr (0, [.int ty, .long bc, .int dg, .int hm, .int hm, .int 3, .int 0, .int w7, .int w8, va_rf w9])) := ⟨_, rfl⟩
  replace hM : zM A G M_19 H := by rw [eM_20]; exact hM
  have he_21 : M_19 q = some (.inr (0, [.int ty, .long bc, .int dg, .int hm, .int hm, .int 3, .int 0, .int w7, .int w8, va_rf w9])) := by rw [eM_20]; exact zu_s _ _ _
  refine lv_aload_n hx hb dX0_init_42 rfl (lv_at hl 0 rfl) ?_
  refine lv_iconst (v := 0) hx hb dX0_init_43 (by decide) ?_
  refine z_put S kX0 hK hM hS he_21 7 (by decide) kw_91 rfl rfl rfl (Nat.le_of_ble_eq_true rfl) dX0_init_44 (fun H locs hM hS => ?_)
  obtain ⟨M_22, eM_23⟩ : ∃ z : zMap, z = zu M_19 q (.inr (0, [.int ty, .long bc, .int dg, .int hm, .int hm, .int 3, .int 0, .int 0, .int w8, va_rf w9])) := ⟨_, rfl⟩
  replace hM : zM A G M_22 H := by rw [eM_23]; exact hM
  have he_24 : M_22 q = some (.inr (0, [.int ty, .long bc, .int dg, .int hm, .int hm, .int 3, .int 0, .int 0, .int w8, va_rf w9])) := by rw [eM_23]; exact zu_s _ _ _
  refine lv_aload_n hx hb dX0_init_47 rfl (lv_at hl 0 rfl) ?_
  refine lv_iconst (v := -1) hx hb dX0_init_48 (by decide) ?_
  refine z_put S kX0 hK hM hS he_24 8 (by decide) kw_93 rfl rfl rfl (Nat.le_of_ble_eq_true rfl) dX0_init_49 (fun H locs hM hS => ?_)
  obtain ⟨M_25, eM_26⟩ : ∃ z : zMap, z = zu M_22 q (.inr (0, [.int ty, .long bc, .int dg, .int hm, .int hm, .int 3, .int 0, .int 0, .int (-1), va_rf w9])) := ⟨_, rfl⟩
  replace hM : zM A G M_25 H := by rw [eM_26]; exact hM
  have he_27 : M_25 q = some (.inr (0, [.int ty, .long bc, .int dg, .int hm, .int hm, .int 3, .int 0, .int 0, .int (-1), va_rf w9])) := by rw [eM_26]; exact zu_s _ _ _
  refine lv_aload_n hx hb dX0_init_52 rfl (lv_at hl 0 rfl) ?_
  refine lv_null hx hb dX0_init_53 ?_
  refine z_put S kX0 hK hM hS he_27 9 (by decide) kw_95 rfl rfl rfl (Nat.le_of_ble_eq_true rfl) dX0_init_54 (fun H locs hM hS => ?_)
  obtain ⟨M_28, eM_29⟩ : ∃ z : zMap, z = zu M_25 q (.inr (0, [.int ty, .long bc, .int dg, .int hm, .int hm, .int 3, .int 0, .int 0, .int (-1), .null])) := ⟨_, rfl⟩
  replace hM : zM A G M_28 H := by rw [eM_29]; exact hM
  have he_30 : M_28 q = some (.inr (0, [.int ty, .long bc, .int dg, .int hm, .int hm, .int 3, .int 0, .int 0, .int (-1), .null])) := by rw [eM_29]; exact zu_s _ _ _
  exact z_vret S hr hlocks hM hS ⟨rfl, by simp only [eM_29, eM_26, eM_23, eM_20, eM_17, eM_14, eM_11, eM_8, eM_5, eM_2, zu_u]; rfl⟩ (Nat.le_of_ble_eq_true rfl) (Nat.le_of_ble_eq_true rfl) dX0_init_57
set_option maxHeartbeats 4000000 in
set_option maxRecDepth 100000 in
theorem c_X2_lastUpTo (l : Launch) (A : Nat → Prop) (G : zG) (M : zMap) (it : Nat) (ty : Int32) (bc : Int64) (dg hm pl st fl ow wb : Int32) (L : List (Nat × zEV)) (d : Int64) (hi : M it = some (oC ty bc dg hm pl st fl ow wb (zHd L))) (hch : zCh M L) : zMet l yX2_lastUpTo cX2_lastUpTo 5 (some (.object "ItemStates$Entry")) { frames := 0, cells := 0, slots := 0, locals := 0 } [.ref it, .long d] A G M (fun r M1 => r = some (va_rf (zLa (zUp d L))) ∧ M1 = M) := by
  refine zMet.of (by decide) (Nat.le_of_ble_eq_true rfl) ?_
  intro p e s m args below meth c ls S hr hlocks hnm hK hM hA hS hl
  have hl : lv_has ls 5 [(0, .ref it), (1, .long d)] := hl
  have hx := S.1
  have hb := S.2.1
  have hown := S.2.2.2.1
  have hts := S.2.2.2.2
  have hr : meth.sig.returnType = some (.object "ItemStates$Entry") := hr
  refine lv_null hx hb dX2_lastUpTo_0 ?_
  refine lv_astore_nN (lv' := [(3, .null), (0, .ref it), (1, .long d)]) hx hb dX2_lastUpTo_1 rfl hl (by decide) rfl (fun ls hl => ?_)
  refine lv_aload_n hx hb dX2_lastUpTo_2 rfl (lv_at hl 1 rfl) ?_
  refine z_getN (v := va_rf (zHd L)) S kX0 hK hM hi 9 (by decide) kw_96 rfl dX2_lastUpTo_3 ?_
  refine z_astoreq (lv' := [(4, va_rf (zHd L)), (3, .null), (0, .ref it), (1, .long d)]) hx hb dX2_lastUpTo_6 hl (by decide) rfl (fun ls hl => ?_)
  refine z_loop (fun (x : List (Nat × zEV) × List (Nat × zEV)) ls H' locs' => L = x.1 ++ x.2 ∧ (∀ y ∈ x.1, y.2.1 ≤ d) ∧ lv_has ls 5 [(4, va_rf (zHd x.2)), (3, va_rf (zLa x.1)), (0, .ref it), (1, .long d)] ∧ H' = s.heap ∧ locs' = []) (fun x => x.2.length) ([], L) ⟨rfl, (fun y h => by cases h), hl, rfl, rfl⟩ ?_
  rintro ⟨U, R⟩ ls H locs ⟨eL, hU, hl, rfl, rfl⟩ ih
  rcases R with _ | ⟨x, R⟩
  · have hl : lv_has ls 5 [(4, .null), (3, va_rf (zLa U)), (0, .ref it), (1, .long d)] := hl
    have eU : zUp d L = U := by rw [eL, zUp_app hU]; simp [zUp]
    refine lv_aloadN hx hb dX2_lastUpTo_8 (lv_at hl 0 rfl) ?_
    refine lv_ifnullN (tgt := 36) hx hb dX2_lastUpTo_10 (by decide) ?_
    refine z_aload_nq hx hb dX2_lastUpTo_36 rfl (lv_at hl 1 rfl) ?_
    exact z_aret S hr hlocks (z_rf _) hM hS ⟨by rw [eU], rfl⟩ (Nat.le_of_ble_eq_true rfl) (Nat.le_of_ble_eq_true rfl) dX2_lastUpTo_37
  · have hl : lv_has ls 5 [(4, .ref x.1), (3, va_rf (zLa U)), (0, .ref it), (1, .long d)] := hl
    have hxc := (show zCh M (U ++ x :: R) from eL ▸ hch).mid
    have hxe : M x.1 = some (oE x.2.1 x.2.2.1 x.2.2.2 (zHd R)) := hxc.1
    refine lv_aload hx hb dX2_lastUpTo_8 (lv_at hl 0 rfl) ?_
    refine lv_ifnull hx hb dX2_lastUpTo_10 ?_
    refine lv_aload hx hb dX2_lastUpTo_13 (lv_at hl 0 rfl) ?_
    refine z_getN (v := .long x.2.1) S kX1 hK hM hxe 0 (by decide) kw_156 rfl dX2_lastUpTo_15 ?_
    refine lv_lload_n hx hb dX2_lastUpTo_18 rfl (lv_at hl 3 rfl) ?_
    refine W.lcmp hx hb dX2_lastUpTo_19 ?_
    refine lv_if_gt (tgt := 36) hx hb dX2_lastUpTo_20 (by decide) (fun c_1 => ?_) (fun c_1 => ?_)
    · -- 20 jump
      rw [lg_cmp_gt] at c_1
      refine z_aload_nq hx hb dX2_lastUpTo_36 rfl (lv_at hl 1 rfl) ?_
      exact z_aret S hr hlocks (z_rf _) hM hS ⟨by rw [eL, zUp_app hU, zUp_stop (Int64.not_le.mpr c_1), List.append_nil], rfl⟩ (Nat.le_of_ble_eq_true rfl) (Nat.le_of_ble_eq_true rfl) dX2_lastUpTo_37
    · -- 20 on
      rw [lg_cmp_gt] at c_1
      refine lv_aload hx hb dX2_lastUpTo_23 (lv_at hl 0 rfl) ?_
      refine lv_astore_n (lv' := [(3, .ref x.1), (4, .ref x.1), (0, .ref it), (1, .long d)]) hx hb dX2_lastUpTo_25 rfl hl (by decide) rfl (fun ls hl => ?_)
      refine lv_aload hx hb dX2_lastUpTo_26 (lv_at hl 1 rfl) ?_
      refine z_getN (v := va_rf (zHd R)) S kX1 hK hM hxe 3 (by decide) kw_162 rfl dX2_lastUpTo_28 ?_
      refine z_astoreq (lv' := [(4, va_rf (zHd R)), (3, .ref x.1), (0, .ref it), (1, .long d)]) hx hb dX2_lastUpTo_31 hl (by decide) rfl (fun ls hl => ?_)
      refine lv_goto (tgt := 8) hx hb dX2_lastUpTo_33 (by decide) ?_
      exact ih (U ++ [x], R) ls _ _ ⟨by rw [eL, List.append_assoc]; rfl, fun y hy => by
        rcases List.mem_append.mp hy with hy | hy
        · exact hU y hy
        · rw [List.mem_singleton.mp hy]; exact Int64.not_lt.mp c_1, by rw [zLa_snoc]; exact hl, rfl, rfl⟩ (by simp)
set_option maxHeartbeats 4000000 in
set_option maxRecDepth 100000 in
theorem c_X2_stateOn (l : Launch) (A : Nat → Prop) (G : zG) (M : zMap) (it : Nat) (ty : Int32) (bc : Int64) (dg hm pl st fl ow wb : Int32) (L : List (Nat × zEV)) (d : Int64) (hi : M it = some (oC ty bc dg hm pl st fl ow wb (zHd L))) (hch : zCh M L) : zMet l yX2_stateOn cX2_stateOn 4 (some .int) { frames := 1, cells := 0, slots := 0, locals := 40 } [.ref it, .long d] A G M (fun r M1 => r = some (.int (zSt d L)) ∧ M1 = M) := by
  refine zMet.of (by decide) (Nat.le_of_ble_eq_true rfl) ?_
  intro p e s m args below meth c ls S hr hlocks hnm hK hM hA hS hl
  have hl : lv_has ls 4 [(0, .ref it), (1, .long d)] := hl
  have hx := S.1
  have hb := S.2.1
  have hown := S.2.2.2.1
  have hts := S.2.2.2.2
  have hr : meth.sig.returnType = some .int := hr
  refine lv_aload_n hx hb dX2_stateOn_0 rfl (lv_at hl 0 rfl) ?_
  refine lv_lload_n hx hb dX2_stateOn_1 rfl (lv_at hl 1 rfl) ?_
  refine z_callS (As := [.ref it, .long d]) (rest := []) S (c_X2_lastUpTo l A G M it ty bc dg hm pl st fl ow wb L d hi hch) ok_X2_lastUpTo kw_135 kw_136 ⟨Nat.le_of_ble_eq_true rfl, Nat.le_of_ble_eq_true rfl⟩ hK hM hS hA rfl hl.1 rfl (Nat.le_of_ble_eq_true rfl) dX2_stateOn_2 ⟨Nat.le_of_ble_eq_true rfl, Nat.le_of_ble_eq_true rfl⟩ (fun r_3 M_1 H locs hp_2 hM hS => ?_)
  obtain ⟨rfl, hM9⟩ := hp_2
  rw [hM9] at hM
  refine W.eq (g2 := F0 m 5 ls [va_rf (zLa (zUp d L))]) rfl ?_
  rcases hz : zLa (zUp d L) with _ | b
  · refine W.eq (g2 := F0 m 5 ls [.null]) rfl ?_
    have hU0 := zLa_none hz
    refine lv_astore_nN (lv' := [(3, .null), (0, .ref it), (1, .long d)]) hx hb dX2_stateOn_5 rfl hl (by decide) rfl (fun ls hl => ?_)
    refine lv_aload_nN hx hb dX2_stateOn_6 rfl (lv_at hl 0 rfl) ?_
    refine lv_ifnonnullN hx hb dX2_stateOn_7 ?_
    refine lv_iconst (v := 3) hx hb dX2_stateOn_10 (by decide) ?_
    refine lv_goto (tgt := 18) hx hb dX2_stateOn_11 (by decide) ?_
    exact z_iret S hr hlocks hM hS ⟨by simp [zSt, hU0], rfl⟩ (Nat.le_of_ble_eq_true rfl) (Nat.le_of_ble_eq_true rfl) dX2_stateOn_18
  · refine W.eq (g2 := F0 m 5 ls [.ref b]) rfl ?_
    obtain ⟨U, v, hU0⟩ := zLa_split hz
    have hLs : U ++ [(b, v)] ++ zDn d L = L := by rw [← hU0]; exact zUpDn d L
    have hbe : M b = some (oE v.1 v.2.1 v.2.2 (zHd (zDn d L))) := by
      have h9 : zCh M (U ++ ((b, v) :: zDn d L)) := by
        have h8 := hch
        rw [← hLs, List.append_assoc] at h8
        exact h8
      exact h9.mid.1
    refine lv_astore_n (lv' := [(3, .ref b), (0, .ref it), (1, .long d)]) hx hb dX2_stateOn_5 rfl hl (by decide) rfl (fun ls hl => ?_)
    refine lv_aload_n hx hb dX2_stateOn_6 rfl (lv_at hl 0 rfl) ?_
    refine lv_ifnonnull (tgt := 14) hx hb dX2_stateOn_7 (by decide) ?_
    refine lv_aload_n hx hb dX2_stateOn_14 rfl (lv_at hl 0 rfl) ?_
    refine z_getN (v := .int v.2.1) S kX1 hK hM hbe 1 (by decide) kw_158 rfl dX2_stateOn_15 ?_
    exact z_iret S hr hlocks hM hS ⟨by simp [zSt, hU0], rfl⟩ (Nat.le_of_ble_eq_true rfl) (Nat.le_of_ble_eq_true rfl) dX2_stateOn_18
set_option maxHeartbeats 4000000 in
set_option maxRecDepth 100000 in
theorem c_X2_enter (l : Launch) (A : Nat → Prop) (G : zG) (M : zMap) (h0 cps : Nat) (n : Int32) (den fee : Nat) (gd : Int64) (ec : Int32) (it : Nat) (ty : Int32) (bc : Int64) (dg hm pl st fl ow wb : Int32) (L : List (Nat × zEV)) (d : Int64) (sta lt : Int32) (h : M h0 = some (oI cps n den fee gd ec)) (hi : M it = some (oC ty bc dg hm pl st fl ow wb (zHd L))) (hch : zCh M L) (hnd : (L.map Prod.fst).Nodup) (hbool : zbool lt) : zMet l yX2_enter cX2_enter 7 none { frames := 2, cells := 1, slots := 4, locals := 80 } [.ref h0, .ref it, .long d, .int sta, .int lt] A G M (fun r M1 => r = none ∧ ∃ q, M q = none ∧ zCh M1 (zIns d (q, d, sta, lt) L) ∧ M1 it = some (oC ty bc dg hm pl st fl ow wb (zHd (zIns d (q, d, sta, lt) L))) ∧ M1 h0 = some (oI cps n den fee (if d < gd then gd else d) (ec + 1)) ∧ ∀ b, b ≠ it → b ≠ h0 → b ≠ q → (∀ y ∈ L, y.1 ≠ b) → M1 b = M b) := by
  refine zMet.of (by decide) (Nat.le_of_ble_eq_true rfl) ?_
  intro p e s m args below meth c ls S hr hlocks hnm hK hM hA hS hl
  have hl : lv_has ls 7 [(0, .ref h0), (1, .ref it), (2, .long d), (4, .int sta), (5, .int lt)] := hl
  have hx := S.1
  have hb := S.2.1
  have hown := S.2.2.2.1
  have hts := S.2.2.2.2
  have hr : meth.sig.returnType = none := hr
  refine lv_aload_n hx hb dX2_enter_0 rfl (lv_at hl 1 rfl) ?_
  refine lv_lload_n hx hb dX2_enter_1 rfl (lv_at hl 2 rfl) ?_
  refine z_callS (As := [.ref it, .long d]) (rest := []) S (c_X2_lastUpTo l A G M it ty bc dg hm pl st fl ow wb L d hi hch) ok_X2_lastUpTo kw_135 kw_136 ⟨Nat.le_of_ble_eq_true rfl, Nat.le_of_ble_eq_true rfl⟩ hK hM hS hA rfl hl.1 rfl (Nat.le_of_ble_eq_true rfl) dX2_enter_2 ⟨Nat.le_of_ble_eq_true rfl, Nat.le_of_ble_eq_true rfl⟩ (fun r_3 M_1 H locs hp_2 hM hS => ?_)
  obtain ⟨rfl, hM9⟩ := hp_2
  rw [hM9] at hM
  refine W.eq (g2 := F0 m 5 ls [va_rf (zLa (zUp d L))]) rfl ?_
  rcases hz : zLa (zUp d L) with _ | b
  · refine W.eq (g2 := F0 m 5 ls [.null]) rfl ?_
    have hU0 := zLa_none hz
    refine lv_astoreN (lv' := [(6, .null), (0, .ref h0), (1, .ref it), (2, .long d), (4, .int sta), (5, .int lt)]) hx hb dX2_enter_5 hl (by decide) rfl (fun ls hl => ?_)
    refine lv_aloadN hx hb dX2_enter_7 (lv_at hl 0 rfl) ?_
    refine lv_ifnonnullN hx hb dX2_enter_9 ?_
    refine lv_aload_n hx hb dX2_enter_12 rfl (lv_at hl 2 rfl) ?_
    refine z_new (fs := [.long 0, .int 0, .int 0, .null]) S kX1 hK hM hS hA kw_149 kw_150 kw_4 (fun j hj => by rcases (show j = 0 ∨ j = 1 ∨ j = 2 ∨ j = 3 by omega) with rfl | rfl | rfl | rfl <;> rfl) (Nat.le_of_ble_eq_true rfl) (Nat.le_of_ble_eq_true rfl) dX2_enter_13 (fun q_4 H hq_5 hAq_6 hM hS => ?_)
    obtain ⟨M_7, eM_8⟩ : ∃ z : zMap, z = zu M q_4 (.inr (1, [.long 0, .int 0, .int 0, .null])) := ⟨_, rfl⟩
    replace hM : zM A G M_7 H := by rw [eM_8]; exact hM
    have he_9 : M_7 q_4 = some (.inr (1, [.long 0, .int 0, .int 0, .null])) := by rw [eM_8]; exact zu_s _ _ _
    have he_10 := (show M_7 h0 = M h0 by rw [eM_8]; exact zu_n (znf h hq_5)).trans h
    have he_11 := (show M_7 it = M it by rw [eM_8]; exact zu_n (znf hi hq_5)).trans hi
    refine lv_dup hx hb dX2_enter_16 rfl ?_
    refine lv_lload_n hx hb dX2_enter_17 rfl (lv_at hl 3 rfl) ?_
    refine lv_iload hx hb dX2_enter_18 (lv_at hl 4 rfl) ?_
    refine lv_iload hx hb dX2_enter_20 (lv_at hl 5 rfl) ?_
    refine lv_aload_n hx hb dX2_enter_22 rfl (lv_at hl 2 rfl) ?_
    refine z_getN (v := va_rf (zHd L)) S kX0 hK hM he_11 9 (by decide) kw_96 rfl dX2_enter_23 ?_
    refine z_callIN (As := [.long d, .int sta, .int lt, va_rf (zHd L)]) (rest := [.ref q_4, .ref it]) S (c_X1_init l A G M_7 q_4 0 0 0 none d sta lt (zHd L) he_9 hbool) ok_X1_init kw_151 kw_152 rfl ⟨Nat.le_of_ble_eq_true rfl, Nat.le_of_ble_eq_true rfl⟩ hK hM hS hA rfl hl.1 rfl (Nat.le_of_ble_eq_true rfl) dX2_enter_26 ⟨Nat.le_of_ble_eq_true rfl, Nat.le_of_ble_eq_true rfl⟩ (fun r_14 M_12 H locs hp_13 hM hS => ?_)
    obtain ⟨rfl, eM_15⟩ := hp_13
    have he_16 : M_12 q_4 = some (oE d sta lt (zHd L)) := by rw [eM_15]; exact zu_s _ _ _
    have he_17 := (show M_12 h0 = M_7 h0 by rw [eM_15]; exact zu_n (zne he_10 he_9 (by simp))).trans he_10
    have he_18 := (show M_12 it = M_7 it by rw [eM_15]; exact zu_n (zne he_11 he_9 (by simp))).trans he_11
    refine W.eq (g2 := F0 m 29 ls [.ref q_4, .ref it]) rfl ?_
    refine z_putN S kX0 hK hM hS he_18 9 (by decide) kw_96 rfl rfl rfl (Nat.le_of_ble_eq_true rfl) dX2_enter_29 (fun H locs hM hS => ?_)
    obtain ⟨M_19, eM_20⟩ : ∃ z : zMap, z = zu M_12 it (.inr (0, [.int ty, .long bc, .int dg, .int hm, .int pl, .int st, .int fl, .int ow, .int wb, .ref q_4])) := ⟨_, rfl⟩
    replace hM : zM A G M_19 H := by rw [eM_20]; exact hM
    have he_21 : M_19 it = some (.inr (0, [.int ty, .long bc, .int dg, .int hm, .int pl, .int st, .int fl, .int ow, .int wb, .ref q_4])) := by rw [eM_20]; exact zu_s _ _ _
    have he_22 := (show M_19 h0 = M_12 h0 by rw [eM_20]; exact zu_n (zne he_17 he_18 (by simp))).trans he_17
    have he_23 := (show M_19 q_4 = M_12 q_4 by rw [eM_20]; exact zu_n (zne he_16 he_18 (by simp))).trans he_16
    refine lv_goto (tgt := 57) hx hb dX2_enter_32 (by decide) ?_
    refine lv_aload_n hx hb dX2_enter_57 rfl (lv_at hl 1 rfl) ?_
    refine lv_dup hx hb dX2_enter_58 rfl ?_
    refine z_get (v := .int ec) S kX2 hK hM he_22 5 (by decide) kw_21 rfl dX2_enter_59 ?_
    refine lv_iconst (v := 1) hx hb dX2_enter_62 (by decide) ?_
    refine lv_iadd hx hb dX2_enter_63 ?_
    refine z_put S kX2 hK hM hS he_22 5 (by decide) kw_21 rfl rfl rfl (Nat.le_of_ble_eq_true rfl) dX2_enter_64 (fun H locs hM hS => ?_)
    obtain ⟨M_24, eM_25⟩ : ∃ z : zMap, z = zu M_19 h0 (.inr (2, [.ref cps, .int n, .ref den, .ref fee, .long gd, .int (ec + 1)])) := ⟨_, rfl⟩
    replace hM : zM A G M_24 H := by rw [eM_25]; exact hM
    have he_26 : M_24 h0 = some (.inr (2, [.ref cps, .int n, .ref den, .ref fee, .long gd, .int (ec + 1)])) := by rw [eM_25]; exact zu_s _ _ _
    have he_27 := (show M_24 it = M_19 it by rw [eM_25]; exact zu_n (zne he_21 he_22 (by simp))).trans he_21
    have he_28 := (show M_24 q_4 = M_19 q_4 by rw [eM_25]; exact zu_n (zne he_23 he_22 (by simp))).trans he_23
    refine lv_aload_n hx hb dX2_enter_67 rfl (lv_at hl 1 rfl) ?_
    refine lv_aload_n hx hb dX2_enter_68 rfl (lv_at hl 1 rfl) ?_
    refine z_get (v := .long gd) S kX2 hK hM he_26 4 (by decide) kw_20 rfl dX2_enter_69 ?_
    refine lv_lload_n hx hb dX2_enter_72 rfl (lv_at hl 3 rfl) ?_
    refine va_mmax_long hx hb (by rw [S.2.2.1]; exact hl.1.symm) hown (hts _ kw_172) (hts _ kw_173) (hts _ kw_5) (hts _ kw_174) (Nat.le_of_ble_eq_true rfl) (Nat.le_of_ble_eq_true rfl) (Nat.le_of_ble_eq_true rfl) (Nat.le_of_ble_eq_true rfl) dX2_enter_73 ?_
    refine z_put S kX2 hK hM hS he_26 4 (by decide) kw_20 rfl rfl rfl (Nat.le_of_ble_eq_true rfl) dX2_enter_76 (fun H locs hM hS => ?_)
    obtain ⟨M_29, eM_30⟩ : ∃ z : zMap, z = zu M_24 h0 (.inr (2, [.ref cps, .int n, .ref den, .ref fee, .long (if d < gd then gd else d), .int (ec + 1)])) := ⟨_, rfl⟩
    replace hM : zM A G M_29 H := by rw [eM_30]; exact hM
    have he_31 : M_29 h0 = some (.inr (2, [.ref cps, .int n, .ref den, .ref fee, .long (if d < gd then gd else d), .int (ec + 1)])) := by rw [eM_30]; exact zu_s _ _ _
    have he_32 := (show M_29 it = M_24 it by rw [eM_30]; exact zu_n (zne he_27 he_26 (by simp))).trans he_27
    have he_33 := (show M_29 q_4 = M_24 q_4 by rw [eM_30]; exact zu_n (zne he_28 he_26 (by simp))).trans he_28
    have hfr : ∀ b9 : Nat, b9 ≠ q_4 → b9 ≠ it → b9 ≠ h0 → M_29 b9 = M b9 := fun b9 g0 g1 g2 => by rw [eM_30, zu_n g2, eM_25, zu_n g2, eM_20, zu_n g1, eM_15, zu_n g0, eM_8, zu_n g0]
    have hLo : ∀ y ∈ L, y.1 ≠ q_4 ∧ y.1 ≠ it ∧ y.1 ≠ h0 := fun y hy => by
      obtain ⟨nx, h9⟩ := hch.at y hy
      exact ⟨znf h9 hq_5, zne h9 hi (by simp), zne h9 h (by simp)⟩
    have hcc := hch.ins0 (M1 := M_29) (q := q_4) (x := (d, sta, lt)) hU0 he_33 (fun y hy => hfr y.1 (hLo y hy).1 (hLo y hy).2.1 (hLo y hy).2.2)
    exact z_vret S hr hlocks hM hS ⟨rfl, q_4, hq_5, hcc.1, by rw [hcc.2]; exact he_32, he_31, fun b b1 b2 b3 _ => hfr b b3 b1 b2⟩ (Nat.le_of_ble_eq_true rfl) (Nat.le_of_ble_eq_true rfl) dX2_enter_79
  · refine W.eq (g2 := F0 m 5 ls [.ref b]) rfl ?_
    obtain ⟨U, v, hU0⟩ := zLa_split hz
    have hLs : U ++ [(b, v)] ++ zDn d L = L := by rw [← hU0]; exact zUpDn d L
    have hbe : M b = some (oE v.1 v.2.1 v.2.2 (zHd (zDn d L))) := by
      have h9 : zCh M (U ++ ((b, v) :: zDn d L)) := by
        have h8 := hch
        rw [← hLs, List.append_assoc] at h8
        exact h8
      exact h9.mid.1
    refine lv_astore (lv' := [(6, .ref b), (0, .ref h0), (1, .ref it), (2, .long d), (4, .int sta), (5, .int lt)]) hx hb dX2_enter_5 hl (by decide) rfl (fun ls hl => ?_)
    refine lv_aload hx hb dX2_enter_7 (lv_at hl 0 rfl) ?_
    refine lv_ifnonnull (tgt := 35) hx hb dX2_enter_9 (by decide) ?_
    refine lv_aload hx hb dX2_enter_35 (lv_at hl 0 rfl) ?_
    refine z_new (fs := [.long 0, .int 0, .int 0, .null]) S kX1 hK hM hS hA kw_149 kw_150 kw_4 (fun j hj => by rcases (show j = 0 ∨ j = 1 ∨ j = 2 ∨ j = 3 by omega) with rfl | rfl | rfl | rfl <;> rfl) (Nat.le_of_ble_eq_true rfl) (Nat.le_of_ble_eq_true rfl) dX2_enter_37 (fun q_34 H hq_35 hAq_36 hM hS => ?_)
    obtain ⟨M_37, eM_38⟩ : ∃ z : zMap, z = zu M q_34 (.inr (1, [.long 0, .int 0, .int 0, .null])) := ⟨_, rfl⟩
    replace hM : zM A G M_37 H := by rw [eM_38]; exact hM
    have hbq : b ≠ q_34 := znf hbe hq_35
    have he_39 : M_37 q_34 = some (.inr (1, [.long 0, .int 0, .int 0, .null])) := by rw [eM_38]; exact zu_s _ _ _
    have he_40 := (show M_37 h0 = M h0 by rw [eM_38]; exact zu_n (znf h hq_35)).trans h
    have he_41 := (show M_37 it = M it by rw [eM_38]; exact zu_n (znf hi hq_35)).trans hi
    have he_42 := (show M_37 b = M b by rw [eM_38]; exact zu_n (znf hbe hq_35)).trans hbe
    refine lv_dup hx hb dX2_enter_40 rfl ?_
    refine lv_lload_n hx hb dX2_enter_41 rfl (lv_at hl 3 rfl) ?_
    refine lv_iload hx hb dX2_enter_42 (lv_at hl 4 rfl) ?_
    refine lv_iload hx hb dX2_enter_44 (lv_at hl 5 rfl) ?_
    refine lv_aload hx hb dX2_enter_46 (lv_at hl 0 rfl) ?_
    refine z_getN (v := va_rf (zHd (zDn d L))) S kX1 hK hM he_42 3 (by decide) kw_162 rfl dX2_enter_48 ?_
    refine z_callIN (As := [.long d, .int sta, .int lt, va_rf (zHd (zDn d L))]) (rest := [.ref q_34, .ref b]) S (c_X1_init l A G M_37 q_34 0 0 0 none d sta lt (zHd (zDn d L)) he_39 hbool) ok_X1_init kw_151 kw_152 rfl ⟨Nat.le_of_ble_eq_true rfl, Nat.le_of_ble_eq_true rfl⟩ hK hM hS hA rfl hl.1 rfl (Nat.le_of_ble_eq_true rfl) dX2_enter_51 ⟨Nat.le_of_ble_eq_true rfl, Nat.le_of_ble_eq_true rfl⟩ (fun r_45 M_43 H locs hp_44 hM hS => ?_)
    obtain ⟨rfl, eM_46⟩ := hp_44
    have he_47 : M_43 q_34 = some (oE d sta lt (zHd (zDn d L))) := by rw [eM_46]; exact zu_s _ _ _
    have he_48 := (show M_43 h0 = M_37 h0 by rw [eM_46]; exact zu_n (zne he_40 he_39 (by simp))).trans he_40
    have he_49 := (show M_43 it = M_37 it by rw [eM_46]; exact zu_n (zne he_41 he_39 (by simp))).trans he_41
    have he_50 := (show M_43 b = M_37 b by rw [eM_46]; exact zu_n (hbq)).trans he_42
    refine W.eq (g2 := F0 m 54 ls [.ref q_34, .ref b]) rfl ?_
    refine z_putN S kX1 hK hM hS he_50 3 (by decide) kw_162 rfl rfl rfl (Nat.le_of_ble_eq_true rfl) dX2_enter_54 (fun H locs hM hS => ?_)
    obtain ⟨M_51, eM_52⟩ : ∃ z : zMap, z = zu M_43 b (.inr (1, [.long v.1, .int v.2.1, .int v.2.2, .ref q_34])) := ⟨_, rfl⟩
    replace hM : zM A G M_51 H := by rw [eM_52]; exact hM
    have he_53 : M_51 b = some (.inr (1, [.long v.1, .int v.2.1, .int v.2.2, .ref q_34])) := by rw [eM_52]; exact zu_s _ _ _
    have he_54 := (show M_51 h0 = M_43 h0 by rw [eM_52]; exact zu_n (zne he_48 he_50 (by simp))).trans he_48
    have he_55 := (show M_51 it = M_43 it by rw [eM_52]; exact zu_n (zne he_49 he_50 (by simp))).trans he_49
    have he_56 := (show M_51 q_34 = M_43 q_34 by rw [eM_52]; exact zu_n (Ne.symm hbq)).trans he_47
    refine lv_aload_n hx hb dX2_enter_57 rfl (lv_at hl 1 rfl) ?_
    refine lv_dup hx hb dX2_enter_58 rfl ?_
    refine z_get (v := .int ec) S kX2 hK hM he_54 5 (by decide) kw_21 rfl dX2_enter_59 ?_
    refine lv_iconst (v := 1) hx hb dX2_enter_62 (by decide) ?_
    refine lv_iadd hx hb dX2_enter_63 ?_
    refine z_put S kX2 hK hM hS he_54 5 (by decide) kw_21 rfl rfl rfl (Nat.le_of_ble_eq_true rfl) dX2_enter_64 (fun H locs hM hS => ?_)
    obtain ⟨M_57, eM_58⟩ : ∃ z : zMap, z = zu M_51 h0 (.inr (2, [.ref cps, .int n, .ref den, .ref fee, .long gd, .int (ec + 1)])) := ⟨_, rfl⟩
    replace hM : zM A G M_57 H := by rw [eM_58]; exact hM
    have he_59 : M_57 h0 = some (.inr (2, [.ref cps, .int n, .ref den, .ref fee, .long gd, .int (ec + 1)])) := by rw [eM_58]; exact zu_s _ _ _
    have he_60 := (show M_57 it = M_51 it by rw [eM_58]; exact zu_n (zne he_55 he_54 (by simp))).trans he_55
    have he_61 := (show M_57 b = M_51 b by rw [eM_58]; exact zu_n (zne he_53 he_54 (by simp))).trans he_53
    have he_62 := (show M_57 q_34 = M_51 q_34 by rw [eM_58]; exact zu_n (zne he_56 he_54 (by simp))).trans he_56
    refine lv_aload_n hx hb dX2_enter_67 rfl (lv_at hl 1 rfl) ?_
    refine lv_aload_n hx hb dX2_enter_68 rfl (lv_at hl 1 rfl) ?_
    refine z_get (v := .long gd) S kX2 hK hM he_59 4 (by decide) kw_20 rfl dX2_enter_69 ?_
    refine lv_lload_n hx hb dX2_enter_72 rfl (lv_at hl 3 rfl) ?_
    refine va_mmax_long hx hb (by rw [S.2.2.1]; exact hl.1.symm) hown (hts _ kw_172) (hts _ kw_173) (hts _ kw_5) (hts _ kw_174) (Nat.le_of_ble_eq_true rfl) (Nat.le_of_ble_eq_true rfl) (Nat.le_of_ble_eq_true rfl) (Nat.le_of_ble_eq_true rfl) dX2_enter_73 ?_
    refine z_put S kX2 hK hM hS he_59 4 (by decide) kw_20 rfl rfl rfl (Nat.le_of_ble_eq_true rfl) dX2_enter_76 (fun H locs hM hS => ?_)
    obtain ⟨M_63, eM_64⟩ : ∃ z : zMap, z = zu M_57 h0 (.inr (2, [.ref cps, .int n, .ref den, .ref fee, .long (if d < gd then gd else d), .int (ec + 1)])) := ⟨_, rfl⟩
    replace hM : zM A G M_63 H := by rw [eM_64]; exact hM
    have he_65 : M_63 h0 = some (.inr (2, [.ref cps, .int n, .ref den, .ref fee, .long (if d < gd then gd else d), .int (ec + 1)])) := by rw [eM_64]; exact zu_s _ _ _
    have he_66 := (show M_63 it = M_57 it by rw [eM_64]; exact zu_n (zne he_60 he_59 (by simp))).trans he_60
    have he_67 := (show M_63 b = M_57 b by rw [eM_64]; exact zu_n (zne he_61 he_59 (by simp))).trans he_61
    have he_68 := (show M_63 q_34 = M_57 q_34 by rw [eM_64]; exact zu_n (zne he_62 he_59 (by simp))).trans he_62
    have hfr : ∀ b9 : Nat, b9 ≠ q_34 → b9 ≠ b → b9 ≠ h0 → M_63 b9 = M b9 := fun b9 g0 g1 g2 => by rw [eM_64, zu_n g2, eM_58, zu_n g2, eM_52, zu_n g1, eM_46, zu_n g0, eM_38, zu_n g0]
    have hLo : ∀ y ∈ L, y.1 ≠ q_34 ∧ y.1 ≠ it ∧ y.1 ≠ h0 := fun y hy => by
      obtain ⟨nx, h9⟩ := hch.at y hy
      exact ⟨znf h9 hq_35, zne h9 hi (by simp), zne h9 h (by simp)⟩
    have hcc := hch.ins1 (M1 := M_63) (q := q_34) (x := (d, sta, lt)) hU0 he_68 he_67 (fun y hy hyb => hfr y.1 (hLo y hy).1 hyb (hLo y hy).2.2) hnd
    have hbL : (b, v) ∈ L := by rw [← hLs]; simp
    exact z_vret S hr hlocks hM hS ⟨rfl, q_34, hq_35, hcc.1, by rw [hcc.2]; exact he_66, he_65, fun b' b1 b2 b3 b4 => hfr b' b3 (fun e9 => b4 _ hbL e9.symm) b2⟩ (Nat.le_of_ble_eq_true rfl) (Nat.le_of_ble_eq_true rfl) dX2_enter_79
set_option maxHeartbeats 4000000 in
set_option maxRecDepth 100000 in
theorem c_X2_carryOut (l : Launch) (A : Nat → Prop) (G : zG) (M : zMap) (h0 cps : Nat) (n : Int32) (den fee : Nat) (gd : Int64) (ec : Int32) (fe : Nat → Int32) (it : Nat) (ty : Int32) (bc : Int64) (dg hm pl st fl ow wb : Int32) (fi : Option Nat) (kind place : Int32) (h : M h0 = some (oI cps n den fee gd ec)) (hf : M fee = some (.inl (G.2.2 0, 6, .inl fe))) (hi : M it = some (oC ty bc dg hm pl st fl ow wb fi)) : zMet l yX2_carryOut cX2_carryOut 4 none { frames := 1, cells := 0, slots := 0, locals := 40 } [.ref h0, .ref it, .int kind, .int place] A G M (fun r M1 => r = none ∧ M1 = zu M it (zCo fe kind place ty bc dg hm pl st fl ow fi)) := by
  refine zMet.of (by decide) (Nat.le_of_ble_eq_true rfl) ?_
  intro p e s m args below meth c ls S hr hlocks hnm hK hM hA hS hl
  have hl : lv_has ls 4 [(0, .ref h0), (1, .ref it), (2, .int kind), (3, .int place)] := hl
  have hx := S.1
  have hb := S.2.1
  have hown := S.2.2.2.1
  have hts := S.2.2.2.2
  have hr : meth.sig.returnType = none := hr
  refine lv_iload_n hx hb dX2_carryOut_0 rfl (lv_at hl 2 rfl) ?_
  refine lv_bipush (v := 6) hx hb dX2_carryOut_1 (by decide) ?_
  refine lv_icmp_ne (tgt := 42) hx hb dX2_carryOut_3 (by decide) (fun c_1 => ?_) (fun c_1 => ?_)
  · -- 3 jump
    refine lv_iload_n hx hb dX2_carryOut_42 rfl (lv_at hl 2 rfl) ?_
    refine lv_iconst (v := 2) hx hb dX2_carryOut_43 (by decide) ?_
    refine lv_icmp_ne (tgt := 52) hx hb dX2_carryOut_44 (by decide) (fun c_2 => ?_) (fun c_2 => ?_)
    · -- 44 jump
      refine lv_iload_n hx hb dX2_carryOut_52 rfl (lv_at hl 2 rfl) ?_
      refine lv_if_ne (tgt := 71) hx hb dX2_carryOut_53 (by decide) (fun c_3 => ?_) (fun c_3 => ?_)
      · -- 53 jump
        refine lv_aload_n hx hb dX2_carryOut_71 rfl (lv_at hl 1 rfl) ?_
        refine lv_iload_n hx hb dX2_carryOut_72 rfl (lv_at hl 2 rfl) ?_
        refine z_putN S kX0 hK hM hS hi 5 (by decide) kw_88 rfl rfl rfl (Nat.le_of_ble_eq_true rfl) dX2_carryOut_73 (fun H locs hM hS => ?_)
        obtain ⟨M_4, eM_5⟩ : ∃ z : zMap, z = zu M it (.inr (0, [.int ty, .long bc, .int dg, .int hm, .int pl, .int kind, .int fl, .int ow, .int wb, va_rf fi])) := ⟨_, rfl⟩
        replace hM : zM A G M_4 H := by rw [eM_5]; exact hM
        have he_6 : M_4 it = some (.inr (0, [.int ty, .long bc, .int dg, .int hm, .int pl, .int kind, .int fl, .int ow, .int wb, va_rf fi])) := by rw [eM_5]; exact zu_s _ _ _
        have he_7 := (show M_4 h0 = M h0 by rw [eM_5]; exact zu_n (zne h hi (by simp))).trans h
        have he_8 := (show M_4 fee = M fee by rw [eM_5]; exact zu_n (zne hf hi (by simp))).trans hf
        refine lv_aload_n hx hb dX2_carryOut_76 rfl (lv_at hl 1 rfl) ?_
        refine lv_iconst (v := -1) hx hb dX2_carryOut_77 (by decide) ?_
        refine z_putN S kX0 hK hM hS he_6 8 (by decide) kw_94 rfl rfl rfl (Nat.le_of_ble_eq_true rfl) dX2_carryOut_78 (fun H locs hM hS => ?_)
        obtain ⟨M_9, eM_10⟩ : ∃ z : zMap, z = zu M_4 it (.inr (0, [.int ty, .long bc, .int dg, .int hm, .int pl, .int kind, .int fl, .int ow, .int (-1), va_rf fi])) := ⟨_, rfl⟩
        replace hM : zM A G M_9 H := by rw [eM_10]; exact hM
        have he_11 : M_9 it = some (.inr (0, [.int ty, .long bc, .int dg, .int hm, .int pl, .int kind, .int fl, .int ow, .int (-1), va_rf fi])) := by rw [eM_10]; exact zu_s _ _ _
        have he_12 := (show M_9 h0 = M_4 h0 by rw [eM_10]; exact zu_n (zne he_7 he_6 (by simp))).trans he_7
        have he_13 := (show M_9 fee = M_4 fee by rw [eM_10]; exact zu_n (zne he_8 he_6 (by simp))).trans he_8
        exact z_vret S hr hlocks hM hS ⟨rfl, by simp only [eM_10, eM_5, zu_u]; simp [zCo, zTy, c_1, c_2, c_3]⟩ (Nat.le_of_ble_eq_true rfl) (Nat.le_of_ble_eq_true rfl) dX2_carryOut_81
      · -- 53 on
        refine lv_aload_n hx hb dX2_carryOut_56 rfl (lv_at hl 1 rfl) ?_
        refine z_getN (v := .int fl) S kX0 hK hM hi 6 (by decide) kw_90 rfl dX2_carryOut_57 ?_
        refine lv_if_eq (tgt := 71) hx hb dX2_carryOut_60 (by decide) (fun c_14 => ?_) (fun c_14 => ?_)
        · -- 60 jump
          refine lv_aload_n hx hb dX2_carryOut_71 rfl (lv_at hl 1 rfl) ?_
          refine lv_iload_n hx hb dX2_carryOut_72 rfl (lv_at hl 2 rfl) ?_
          refine z_putN S kX0 hK hM hS hi 5 (by decide) kw_88 rfl rfl rfl (Nat.le_of_ble_eq_true rfl) dX2_carryOut_73 (fun H locs hM hS => ?_)
          obtain ⟨M_15, eM_16⟩ : ∃ z : zMap, z = zu M it (.inr (0, [.int ty, .long bc, .int dg, .int hm, .int pl, .int kind, .int fl, .int ow, .int wb, va_rf fi])) := ⟨_, rfl⟩
          replace hM : zM A G M_15 H := by rw [eM_16]; exact hM
          have he_17 : M_15 it = some (.inr (0, [.int ty, .long bc, .int dg, .int hm, .int pl, .int kind, .int fl, .int ow, .int wb, va_rf fi])) := by rw [eM_16]; exact zu_s _ _ _
          have he_18 := (show M_15 h0 = M h0 by rw [eM_16]; exact zu_n (zne h hi (by simp))).trans h
          have he_19 := (show M_15 fee = M fee by rw [eM_16]; exact zu_n (zne hf hi (by simp))).trans hf
          refine lv_aload_n hx hb dX2_carryOut_76 rfl (lv_at hl 1 rfl) ?_
          refine lv_iconst (v := -1) hx hb dX2_carryOut_77 (by decide) ?_
          refine z_putN S kX0 hK hM hS he_17 8 (by decide) kw_94 rfl rfl rfl (Nat.le_of_ble_eq_true rfl) dX2_carryOut_78 (fun H locs hM hS => ?_)
          obtain ⟨M_20, eM_21⟩ : ∃ z : zMap, z = zu M_15 it (.inr (0, [.int ty, .long bc, .int dg, .int hm, .int pl, .int kind, .int fl, .int ow, .int (-1), va_rf fi])) := ⟨_, rfl⟩
          replace hM : zM A G M_20 H := by rw [eM_21]; exact hM
          have he_22 : M_20 it = some (.inr (0, [.int ty, .long bc, .int dg, .int hm, .int pl, .int kind, .int fl, .int ow, .int (-1), va_rf fi])) := by rw [eM_21]; exact zu_s _ _ _
          have he_23 := (show M_20 h0 = M_15 h0 by rw [eM_21]; exact zu_n (zne he_18 he_17 (by simp))).trans he_18
          have he_24 := (show M_20 fee = M_15 fee by rw [eM_21]; exact zu_n (zne he_19 he_17 (by simp))).trans he_19
          exact z_vret S hr hlocks hM hS ⟨rfl, by simp only [eM_21, eM_16, zu_u]; simp [zCo, zTy, c_1, c_2, c_3, c_14]⟩ (Nat.le_of_ble_eq_true rfl) (Nat.le_of_ble_eq_true rfl) dX2_carryOut_81
        · -- 60 on
          refine lv_aload_n hx hb dX2_carryOut_63 rfl (lv_at hl 1 rfl) ?_
          refine lv_aload_n hx hb dX2_carryOut_64 rfl (lv_at hl 1 rfl) ?_
          refine z_getN (v := .int pl) S kX0 hK hM hi 4 (by decide) kw_86 rfl dX2_carryOut_65 ?_
          refine z_putN S kX0 hK hM hS hi 3 (by decide) kw_84 rfl rfl rfl (Nat.le_of_ble_eq_true rfl) dX2_carryOut_68 (fun H locs hM hS => ?_)
          obtain ⟨M_25, eM_26⟩ : ∃ z : zMap, z = zu M it (.inr (0, [.int ty, .long bc, .int dg, .int pl, .int pl, .int st, .int fl, .int ow, .int wb, va_rf fi])) := ⟨_, rfl⟩
          replace hM : zM A G M_25 H := by rw [eM_26]; exact hM
          have he_27 : M_25 it = some (.inr (0, [.int ty, .long bc, .int dg, .int pl, .int pl, .int st, .int fl, .int ow, .int wb, va_rf fi])) := by rw [eM_26]; exact zu_s _ _ _
          have he_28 := (show M_25 h0 = M h0 by rw [eM_26]; exact zu_n (zne h hi (by simp))).trans h
          have he_29 := (show M_25 fee = M fee by rw [eM_26]; exact zu_n (zne hf hi (by simp))).trans hf
          refine lv_aload_n hx hb dX2_carryOut_71 rfl (lv_at hl 1 rfl) ?_
          refine lv_iload_n hx hb dX2_carryOut_72 rfl (lv_at hl 2 rfl) ?_
          refine z_putN S kX0 hK hM hS he_27 5 (by decide) kw_88 rfl rfl rfl (Nat.le_of_ble_eq_true rfl) dX2_carryOut_73 (fun H locs hM hS => ?_)
          obtain ⟨M_30, eM_31⟩ : ∃ z : zMap, z = zu M_25 it (.inr (0, [.int ty, .long bc, .int dg, .int pl, .int pl, .int kind, .int fl, .int ow, .int wb, va_rf fi])) := ⟨_, rfl⟩
          replace hM : zM A G M_30 H := by rw [eM_31]; exact hM
          have he_32 : M_30 it = some (.inr (0, [.int ty, .long bc, .int dg, .int pl, .int pl, .int kind, .int fl, .int ow, .int wb, va_rf fi])) := by rw [eM_31]; exact zu_s _ _ _
          have he_33 := (show M_30 h0 = M_25 h0 by rw [eM_31]; exact zu_n (zne he_28 he_27 (by simp))).trans he_28
          have he_34 := (show M_30 fee = M_25 fee by rw [eM_31]; exact zu_n (zne he_29 he_27 (by simp))).trans he_29
          refine lv_aload_n hx hb dX2_carryOut_76 rfl (lv_at hl 1 rfl) ?_
          refine lv_iconst (v := -1) hx hb dX2_carryOut_77 (by decide) ?_
          refine z_putN S kX0 hK hM hS he_32 8 (by decide) kw_94 rfl rfl rfl (Nat.le_of_ble_eq_true rfl) dX2_carryOut_78 (fun H locs hM hS => ?_)
          obtain ⟨M_35, eM_36⟩ : ∃ z : zMap, z = zu M_30 it (.inr (0, [.int ty, .long bc, .int dg, .int pl, .int pl, .int kind, .int fl, .int ow, .int (-1), va_rf fi])) := ⟨_, rfl⟩
          replace hM : zM A G M_35 H := by rw [eM_36]; exact hM
          have he_37 : M_35 it = some (.inr (0, [.int ty, .long bc, .int dg, .int pl, .int pl, .int kind, .int fl, .int ow, .int (-1), va_rf fi])) := by rw [eM_36]; exact zu_s _ _ _
          have he_38 := (show M_35 h0 = M_30 h0 by rw [eM_36]; exact zu_n (zne he_33 he_32 (by simp))).trans he_33
          have he_39 := (show M_35 fee = M_30 fee by rw [eM_36]; exact zu_n (zne he_34 he_32 (by simp))).trans he_34
          exact z_vret S hr hlocks hM hS ⟨rfl, by simp only [eM_36, eM_31, eM_26, zu_u]; simp [zCo, zTy, c_1, c_2, c_3, c_14]⟩ (Nat.le_of_ble_eq_true rfl) (Nat.le_of_ble_eq_true rfl) dX2_carryOut_81
    · -- 44 on
      refine lv_aload_n hx hb dX2_carryOut_47 rfl (lv_at hl 1 rfl) ?_
      refine lv_iload_n hx hb dX2_carryOut_48 rfl (lv_at hl 3 rfl) ?_
      refine z_putN S kX0 hK hM hS hi 4 (by decide) kw_86 rfl rfl rfl (Nat.le_of_ble_eq_true rfl) dX2_carryOut_49 (fun H locs hM hS => ?_)
      obtain ⟨M_40, eM_41⟩ : ∃ z : zMap, z = zu M it (.inr (0, [.int ty, .long bc, .int dg, .int hm, .int place, .int st, .int fl, .int ow, .int wb, va_rf fi])) := ⟨_, rfl⟩
      replace hM : zM A G M_40 H := by rw [eM_41]; exact hM
      have he_42 : M_40 it = some (.inr (0, [.int ty, .long bc, .int dg, .int hm, .int place, .int st, .int fl, .int ow, .int wb, va_rf fi])) := by rw [eM_41]; exact zu_s _ _ _
      have he_43 := (show M_40 h0 = M h0 by rw [eM_41]; exact zu_n (zne h hi (by simp))).trans h
      have he_44 := (show M_40 fee = M fee by rw [eM_41]; exact zu_n (zne hf hi (by simp))).trans hf
      refine lv_iload_n hx hb dX2_carryOut_52 rfl (lv_at hl 2 rfl) ?_
      refine lv_if_ne (tgt := 71) hx hb dX2_carryOut_53 (by decide) (fun c_45 => ?_) (fun c_45 => ?_)
      · -- 53 jump
        refine lv_aload_n hx hb dX2_carryOut_71 rfl (lv_at hl 1 rfl) ?_
        refine lv_iload_n hx hb dX2_carryOut_72 rfl (lv_at hl 2 rfl) ?_
        refine z_putN S kX0 hK hM hS he_42 5 (by decide) kw_88 rfl rfl rfl (Nat.le_of_ble_eq_true rfl) dX2_carryOut_73 (fun H locs hM hS => ?_)
        obtain ⟨M_46, eM_47⟩ : ∃ z : zMap, z = zu M_40 it (.inr (0, [.int ty, .long bc, .int dg, .int hm, .int place, .int kind, .int fl, .int ow, .int wb, va_rf fi])) := ⟨_, rfl⟩
        replace hM : zM A G M_46 H := by rw [eM_47]; exact hM
        have he_48 : M_46 it = some (.inr (0, [.int ty, .long bc, .int dg, .int hm, .int place, .int kind, .int fl, .int ow, .int wb, va_rf fi])) := by rw [eM_47]; exact zu_s _ _ _
        have he_49 := (show M_46 h0 = M_40 h0 by rw [eM_47]; exact zu_n (zne he_43 he_42 (by simp))).trans he_43
        have he_50 := (show M_46 fee = M_40 fee by rw [eM_47]; exact zu_n (zne he_44 he_42 (by simp))).trans he_44
        refine lv_aload_n hx hb dX2_carryOut_76 rfl (lv_at hl 1 rfl) ?_
        refine lv_iconst (v := -1) hx hb dX2_carryOut_77 (by decide) ?_
        refine z_putN S kX0 hK hM hS he_48 8 (by decide) kw_94 rfl rfl rfl (Nat.le_of_ble_eq_true rfl) dX2_carryOut_78 (fun H locs hM hS => ?_)
        obtain ⟨M_51, eM_52⟩ : ∃ z : zMap, z = zu M_46 it (.inr (0, [.int ty, .long bc, .int dg, .int hm, .int place, .int kind, .int fl, .int ow, .int (-1), va_rf fi])) := ⟨_, rfl⟩
        replace hM : zM A G M_51 H := by rw [eM_52]; exact hM
        have he_53 : M_51 it = some (.inr (0, [.int ty, .long bc, .int dg, .int hm, .int place, .int kind, .int fl, .int ow, .int (-1), va_rf fi])) := by rw [eM_52]; exact zu_s _ _ _
        have he_54 := (show M_51 h0 = M_46 h0 by rw [eM_52]; exact zu_n (zne he_49 he_48 (by simp))).trans he_49
        have he_55 := (show M_51 fee = M_46 fee by rw [eM_52]; exact zu_n (zne he_50 he_48 (by simp))).trans he_50
        exact z_vret S hr hlocks hM hS ⟨rfl, by simp only [eM_52, eM_47, eM_41, zu_u]; simp [zCo, zTy, c_1, c_2, c_45]⟩ (Nat.le_of_ble_eq_true rfl) (Nat.le_of_ble_eq_true rfl) dX2_carryOut_81
      · -- 53 on
        exact absurd (c_2.symm.trans c_45) (by decide)
  · -- 3 on
    refine lv_aload_n hx hb dX2_carryOut_6 rfl (lv_at hl 1 rfl) ?_
    refine z_getN (v := .int st) S kX0 hK hM hi 5 (by decide) kw_88 rfl dX2_carryOut_7 ?_
    refine lv_iconst (v := 1) hx hb dX2_carryOut_10 (by decide) ?_
    refine lv_icmp_ne (tgt := 42) hx hb dX2_carryOut_11 (by decide) (fun c_56 => ?_) (fun c_56 => ?_)
    · -- 11 jump
      refine lv_iload_n hx hb dX2_carryOut_42 rfl (lv_at hl 2 rfl) ?_
      refine lv_iconst (v := 2) hx hb dX2_carryOut_43 (by decide) ?_
      refine lv_icmp_ne (tgt := 52) hx hb dX2_carryOut_44 (by decide) (fun c_57 => ?_) (fun c_57 => ?_)
      · -- 44 jump
        refine lv_iload_n hx hb dX2_carryOut_52 rfl (lv_at hl 2 rfl) ?_
        refine lv_if_ne (tgt := 71) hx hb dX2_carryOut_53 (by decide) (fun c_58 => ?_) (fun c_58 => ?_)
        · -- 53 jump
          refine lv_aload_n hx hb dX2_carryOut_71 rfl (lv_at hl 1 rfl) ?_
          refine lv_iload_n hx hb dX2_carryOut_72 rfl (lv_at hl 2 rfl) ?_
          refine z_putN S kX0 hK hM hS hi 5 (by decide) kw_88 rfl rfl rfl (Nat.le_of_ble_eq_true rfl) dX2_carryOut_73 (fun H locs hM hS => ?_)
          obtain ⟨M_59, eM_60⟩ : ∃ z : zMap, z = zu M it (.inr (0, [.int ty, .long bc, .int dg, .int hm, .int pl, .int kind, .int fl, .int ow, .int wb, va_rf fi])) := ⟨_, rfl⟩
          replace hM : zM A G M_59 H := by rw [eM_60]; exact hM
          have he_61 : M_59 it = some (.inr (0, [.int ty, .long bc, .int dg, .int hm, .int pl, .int kind, .int fl, .int ow, .int wb, va_rf fi])) := by rw [eM_60]; exact zu_s _ _ _
          have he_62 := (show M_59 h0 = M h0 by rw [eM_60]; exact zu_n (zne h hi (by simp))).trans h
          have he_63 := (show M_59 fee = M fee by rw [eM_60]; exact zu_n (zne hf hi (by simp))).trans hf
          refine lv_aload_n hx hb dX2_carryOut_76 rfl (lv_at hl 1 rfl) ?_
          refine lv_iconst (v := -1) hx hb dX2_carryOut_77 (by decide) ?_
          refine z_putN S kX0 hK hM hS he_61 8 (by decide) kw_94 rfl rfl rfl (Nat.le_of_ble_eq_true rfl) dX2_carryOut_78 (fun H locs hM hS => ?_)
          obtain ⟨M_64, eM_65⟩ : ∃ z : zMap, z = zu M_59 it (.inr (0, [.int ty, .long bc, .int dg, .int hm, .int pl, .int kind, .int fl, .int ow, .int (-1), va_rf fi])) := ⟨_, rfl⟩
          replace hM : zM A G M_64 H := by rw [eM_65]; exact hM
          have he_66 : M_64 it = some (.inr (0, [.int ty, .long bc, .int dg, .int hm, .int pl, .int kind, .int fl, .int ow, .int (-1), va_rf fi])) := by rw [eM_65]; exact zu_s _ _ _
          have he_67 := (show M_64 h0 = M_59 h0 by rw [eM_65]; exact zu_n (zne he_62 he_61 (by simp))).trans he_62
          have he_68 := (show M_64 fee = M_59 fee by rw [eM_65]; exact zu_n (zne he_63 he_61 (by simp))).trans he_63
          exact z_vret S hr hlocks hM hS ⟨rfl, by simp only [eM_65, eM_60, zu_u]; simp [zCo, zTy, c_1, c_56, c_57, c_58]⟩ (Nat.le_of_ble_eq_true rfl) (Nat.le_of_ble_eq_true rfl) dX2_carryOut_81
        · -- 53 on
          exact absurd (c_1.symm.trans c_58) (by decide)
      · -- 44 on
        exact absurd (c_1.symm.trans c_57) (by decide)
    · -- 11 on
      refine lv_aload_n hx hb dX2_carryOut_14 rfl (lv_at hl 1 rfl) ?_
      refine z_getN (v := .int ty) S kX0 hK hM hi 0 (by decide) kw_78 rfl dX2_carryOut_15 ?_
      refine z_callS (As := [.int ty]) (rest := []) S (c_X2_isType l A G M ty) ok_X2_isType kw_49 kw_50 ⟨Nat.le_of_ble_eq_true rfl, Nat.le_of_ble_eq_true rfl⟩ hK hM hS hA rfl hl.1 rfl (Nat.le_of_ble_eq_true rfl) dX2_carryOut_18 ⟨Nat.le_of_ble_eq_true rfl, Nat.le_of_ble_eq_true rfl⟩ (fun r_71 M_69 H locs hp_70 hM hS => ?_)
      obtain ⟨rfl, hM9⟩ := hp_70
      rw [hM9] at hM
      refine W.eq (g2 := F0 m 21 ls [.int (zb (zTy ty))]) rfl ?_
      refine lv_if_eq (tgt := 42) hx hb dX2_carryOut_21 (by decide) (fun c_72 => ?_) (fun c_72 => ?_)
      · -- 21 jump
        rw [zb_0] at c_72
        refine lv_iload_n hx hb dX2_carryOut_42 rfl (lv_at hl 2 rfl) ?_
        refine lv_iconst (v := 2) hx hb dX2_carryOut_43 (by decide) ?_
        refine lv_icmp_ne (tgt := 52) hx hb dX2_carryOut_44 (by decide) (fun c_73 => ?_) (fun c_73 => ?_)
        · -- 44 jump
          refine lv_iload_n hx hb dX2_carryOut_52 rfl (lv_at hl 2 rfl) ?_
          refine lv_if_ne (tgt := 71) hx hb dX2_carryOut_53 (by decide) (fun c_74 => ?_) (fun c_74 => ?_)
          · -- 53 jump
            refine lv_aload_n hx hb dX2_carryOut_71 rfl (lv_at hl 1 rfl) ?_
            refine lv_iload_n hx hb dX2_carryOut_72 rfl (lv_at hl 2 rfl) ?_
            refine z_putN S kX0 hK hM hS hi 5 (by decide) kw_88 rfl rfl rfl (Nat.le_of_ble_eq_true rfl) dX2_carryOut_73 (fun H locs hM hS => ?_)
            obtain ⟨M_75, eM_76⟩ : ∃ z : zMap, z = zu M it (.inr (0, [.int ty, .long bc, .int dg, .int hm, .int pl, .int kind, .int fl, .int ow, .int wb, va_rf fi])) := ⟨_, rfl⟩
            replace hM : zM A G M_75 H := by rw [eM_76]; exact hM
            have he_77 : M_75 it = some (.inr (0, [.int ty, .long bc, .int dg, .int hm, .int pl, .int kind, .int fl, .int ow, .int wb, va_rf fi])) := by rw [eM_76]; exact zu_s _ _ _
            have he_78 := (show M_75 h0 = M h0 by rw [eM_76]; exact zu_n (zne h hi (by simp))).trans h
            have he_79 := (show M_75 fee = M fee by rw [eM_76]; exact zu_n (zne hf hi (by simp))).trans hf
            refine lv_aload_n hx hb dX2_carryOut_76 rfl (lv_at hl 1 rfl) ?_
            refine lv_iconst (v := -1) hx hb dX2_carryOut_77 (by decide) ?_
            refine z_putN S kX0 hK hM hS he_77 8 (by decide) kw_94 rfl rfl rfl (Nat.le_of_ble_eq_true rfl) dX2_carryOut_78 (fun H locs hM hS => ?_)
            obtain ⟨M_80, eM_81⟩ : ∃ z : zMap, z = zu M_75 it (.inr (0, [.int ty, .long bc, .int dg, .int hm, .int pl, .int kind, .int fl, .int ow, .int (-1), va_rf fi])) := ⟨_, rfl⟩
            replace hM : zM A G M_80 H := by rw [eM_81]; exact hM
            have he_82 : M_80 it = some (.inr (0, [.int ty, .long bc, .int dg, .int hm, .int pl, .int kind, .int fl, .int ow, .int (-1), va_rf fi])) := by rw [eM_81]; exact zu_s _ _ _
            have he_83 := (show M_80 h0 = M_75 h0 by rw [eM_81]; exact zu_n (zne he_78 he_77 (by simp))).trans he_78
            have he_84 := (show M_80 fee = M_75 fee by rw [eM_81]; exact zu_n (zne he_79 he_77 (by simp))).trans he_79
            exact z_vret S hr hlocks hM hS ⟨rfl, by simp only [eM_81, eM_76, zu_u]; simp [zCo, c_1, c_56, c_72, c_73, c_74]⟩ (Nat.le_of_ble_eq_true rfl) (Nat.le_of_ble_eq_true rfl) dX2_carryOut_81
          · -- 53 on
            exact absurd (c_1.symm.trans c_74) (by decide)
        · -- 44 on
          exact absurd (c_1.symm.trans c_73) (by decide)
      · -- 21 on
        rw [zb_0n] at c_72
        refine lv_aload_n hx hb dX2_carryOut_24 rfl (lv_at hl 1 rfl) ?_
        refine lv_dup hx hb dX2_carryOut_25 rfl ?_
        refine z_getN (v := .int ow) S kX0 hK hM hi 7 (by decide) kw_92 rfl dX2_carryOut_26 ?_
        refine lv_aload_n hx hb dX2_carryOut_29 rfl (lv_at hl 0 rfl) ?_
        refine z_get (v := .ref fee) S kX2 hK hM h 3 (by decide) kw_19 rfl dX2_carryOut_30 ?_
        refine lv_aload_n hx hb dX2_carryOut_33 rfl (lv_at hl 1 rfl) ?_
        refine z_getN (v := .int ty) S kX0 hK hM hi 0 (by decide) kw_78 rfl dX2_carryOut_34 ?_
        refine z_iald S hK hM 0 hf rfl (zTy_vp c_72) dX2_carryOut_37 ?_
        refine lv_iadd hx hb dX2_carryOut_38 ?_
        refine z_putN S kX0 hK hM hS hi 7 (by decide) kw_92 rfl rfl rfl (Nat.le_of_ble_eq_true rfl) dX2_carryOut_39 (fun H locs hM hS => ?_)
        obtain ⟨M_85, eM_86⟩ : ∃ z : zMap, z = zu M it (.inr (0, [.int ty, .long bc, .int dg, .int hm, .int pl, .int st, .int fl, .int (ow + (fe ty.toNatClampNeg)), .int wb, va_rf fi])) := ⟨_, rfl⟩
        replace hM : zM A G M_85 H := by rw [eM_86]; exact hM
        have he_87 : M_85 it = some (.inr (0, [.int ty, .long bc, .int dg, .int hm, .int pl, .int st, .int fl, .int (ow + (fe ty.toNatClampNeg)), .int wb, va_rf fi])) := by rw [eM_86]; exact zu_s _ _ _
        have he_88 := (show M_85 h0 = M h0 by rw [eM_86]; exact zu_n (zne h hi (by simp))).trans h
        have he_89 := (show M_85 fee = M fee by rw [eM_86]; exact zu_n (zne hf hi (by simp))).trans hf
        refine lv_iload_n hx hb dX2_carryOut_42 rfl (lv_at hl 2 rfl) ?_
        refine lv_iconst (v := 2) hx hb dX2_carryOut_43 (by decide) ?_
        refine lv_icmp_ne (tgt := 52) hx hb dX2_carryOut_44 (by decide) (fun c_90 => ?_) (fun c_90 => ?_)
        · -- 44 jump
          refine lv_iload_n hx hb dX2_carryOut_52 rfl (lv_at hl 2 rfl) ?_
          refine lv_if_ne (tgt := 71) hx hb dX2_carryOut_53 (by decide) (fun c_91 => ?_) (fun c_91 => ?_)
          · -- 53 jump
            refine lv_aload_n hx hb dX2_carryOut_71 rfl (lv_at hl 1 rfl) ?_
            refine lv_iload_n hx hb dX2_carryOut_72 rfl (lv_at hl 2 rfl) ?_
            refine z_putN S kX0 hK hM hS he_87 5 (by decide) kw_88 rfl rfl rfl (Nat.le_of_ble_eq_true rfl) dX2_carryOut_73 (fun H locs hM hS => ?_)
            obtain ⟨M_92, eM_93⟩ : ∃ z : zMap, z = zu M_85 it (.inr (0, [.int ty, .long bc, .int dg, .int hm, .int pl, .int kind, .int fl, .int (ow + (fe ty.toNatClampNeg)), .int wb, va_rf fi])) := ⟨_, rfl⟩
            replace hM : zM A G M_92 H := by rw [eM_93]; exact hM
            have he_94 : M_92 it = some (.inr (0, [.int ty, .long bc, .int dg, .int hm, .int pl, .int kind, .int fl, .int (ow + (fe ty.toNatClampNeg)), .int wb, va_rf fi])) := by rw [eM_93]; exact zu_s _ _ _
            have he_95 := (show M_92 h0 = M_85 h0 by rw [eM_93]; exact zu_n (zne he_88 he_87 (by simp))).trans he_88
            have he_96 := (show M_92 fee = M_85 fee by rw [eM_93]; exact zu_n (zne he_89 he_87 (by simp))).trans he_89
            refine lv_aload_n hx hb dX2_carryOut_76 rfl (lv_at hl 1 rfl) ?_
            refine lv_iconst (v := -1) hx hb dX2_carryOut_77 (by decide) ?_
            refine z_putN S kX0 hK hM hS he_94 8 (by decide) kw_94 rfl rfl rfl (Nat.le_of_ble_eq_true rfl) dX2_carryOut_78 (fun H locs hM hS => ?_)
            obtain ⟨M_97, eM_98⟩ : ∃ z : zMap, z = zu M_92 it (.inr (0, [.int ty, .long bc, .int dg, .int hm, .int pl, .int kind, .int fl, .int (ow + (fe ty.toNatClampNeg)), .int (-1), va_rf fi])) := ⟨_, rfl⟩
            replace hM : zM A G M_97 H := by rw [eM_98]; exact hM
            have he_99 : M_97 it = some (.inr (0, [.int ty, .long bc, .int dg, .int hm, .int pl, .int kind, .int fl, .int (ow + (fe ty.toNatClampNeg)), .int (-1), va_rf fi])) := by rw [eM_98]; exact zu_s _ _ _
            have he_100 := (show M_97 h0 = M_92 h0 by rw [eM_98]; exact zu_n (zne he_95 he_94 (by simp))).trans he_95
            have he_101 := (show M_97 fee = M_92 fee by rw [eM_98]; exact zu_n (zne he_96 he_94 (by simp))).trans he_96
            exact z_vret S hr hlocks hM hS ⟨rfl, by simp only [eM_98, eM_93, eM_86, zu_u]; simp [zCo, zTy, c_1, c_56, c_72, c_90, c_91]⟩ (Nat.le_of_ble_eq_true rfl) (Nat.le_of_ble_eq_true rfl) dX2_carryOut_81
          · -- 53 on
            exact absurd (c_1.symm.trans c_91) (by decide)
        · -- 44 on
          exact absurd (c_1.symm.trans c_90) (by decide)
end
section
set_option maxHeartbeats 4000000 in
set_option maxRecDepth 100000 in
theorem c_X2_place (l : Launch) (A : Nat → Prop) (G : zG) (M : zMap) (h0 cps den fee N : Nat) (ca : Nat → Nat) (cv : Nat → zCV) (ch : Nat → List (Nat × zEV)) (dn fe : Nat → Int32) (gd : Int64) (ec : Nat) (k : Int32) (hI : zI G M h0 cps den fee N ca cv ch dn fe gd ec) : zMet l yX2_place cX2_place 3 (some .int) { frames := 1, cells := 0, slots := 0, locals := 40 } [.ref h0, .int k] A G M (fun r M1 => r = some (.int (zsel N k (-1) (fun j => (cv j).2.2.2.2.1))) ∧ M1 = M) := by
  refine zMet.of (by decide) (Nat.le_of_ble_eq_true rfl) ?_
  intro p e s m args below meth c ls S hr hlocks hnm hK hM hA hS hl
  have hl : lv_has ls 3 [(0, .ref h0), (1, .int k)] := hl
  have hx := S.1
  have hb := S.2.1
  have hown := S.2.2.2.1
  have hts := S.2.2.2.2
  have hr : meth.sig.returnType = some .int := hr
  obtain ⟨h, hc, hd, hf, hdf, hN, hcp, hsep⟩ := id hI
  refine lv_aload_n hx hb dX2_place_0 rfl (lv_at hl 0 rfl) ?_
  refine lv_iload_n hx hb dX2_place_1 rfl (lv_at hl 1 rfl) ?_
  refine z_callV (As := [.int k]) (rest := []) S (c_X2_find l A G M h0 cps (nI N) den fee gd (nI ec) (zF N ca) k h hc) ok_X2_find kw_64 kw_66 ks_2 ⟨Nat.le_of_ble_eq_true rfl, Nat.le_of_ble_eq_true rfl⟩ hK hM hS hA h rfl rfl hl.1 rfl (Nat.le_of_ble_eq_true rfl) dX2_place_2 ⟨Nat.le_of_ble_eq_true rfl, Nat.le_of_ble_eq_true rfl⟩ (fun r_3 M_1 H locs hp_2 hM hS => ?_)
  obtain ⟨rfl, hM9⟩ := hp_2
  rw [hM9] at hM
  rw [zFi_eq hN]
  refine W.eq (g2 := F0 m 5 ls [va_rf ((zIx N k).map ca)]) rfl ?_
  rcases hz : zIx N k with _ | j
  · refine W.eq (g2 := F0 m 5 ls [.null]) rfl ?_
    refine lv_astore_nN (lv' := [(2, .null), (0, .ref h0), (1, .int k)]) hx hb dX2_place_5 rfl hl (by decide) rfl (fun ls hl => ?_)
    refine lv_aload_nN hx hb dX2_place_6 rfl (lv_at hl 0 rfl) ?_
    refine lv_ifnonnullN hx hb dX2_place_7 ?_
    refine lv_iconst (v := -1) hx hb dX2_place_10 (by decide) ?_
    refine lv_goto (tgt := 18) hx hb dX2_place_11 (by decide) ?_
    exact z_iret S hr hlocks hM hS ⟨by rw [zsel_n hz], rfl⟩ (Nat.le_of_ble_eq_true rfl) (Nat.le_of_ble_eq_true rfl) dX2_place_18
  · refine W.eq (g2 := F0 m 5 ls [.ref (ca j)]) rfl ?_
    have hj := (zIx_some hN hz).1
    have hcj := (hcp j hj).1
    refine lv_astore_n (lv' := [(2, .ref (ca j)), (0, .ref h0), (1, .int k)]) hx hb dX2_place_5 rfl hl (by decide) rfl (fun ls hl => ?_)
    refine lv_aload_n hx hb dX2_place_6 rfl (lv_at hl 0 rfl) ?_
    refine lv_ifnonnull (tgt := 14) hx hb dX2_place_7 (by decide) ?_
    refine lv_aload_n hx hb dX2_place_14 rfl (lv_at hl 0 rfl) ?_
    refine z_getN (v := .int ((cv j).2.2.2.2.1)) S kX0 hK hM hcj 4 (by decide) kw_86 rfl dX2_place_15 ?_
    exact z_iret S hr hlocks hM hS ⟨by rw [zsel_s hz], rfl⟩ (Nat.le_of_ble_eq_true rfl) (Nat.le_of_ble_eq_true rfl) dX2_place_18
set_option maxHeartbeats 4000000 in
set_option maxRecDepth 100000 in
theorem c_X2_home (l : Launch) (A : Nat → Prop) (G : zG) (M : zMap) (h0 cps den fee N : Nat) (ca : Nat → Nat) (cv : Nat → zCV) (ch : Nat → List (Nat × zEV)) (dn fe : Nat → Int32) (gd : Int64) (ec : Nat) (k : Int32) (hI : zI G M h0 cps den fee N ca cv ch dn fe gd ec) : zMet l yX2_home cX2_home 3 (some .int) { frames := 1, cells := 0, slots := 0, locals := 40 } [.ref h0, .int k] A G M (fun r M1 => r = some (.int (zsel N k (-1) (fun j => (cv j).2.2.2.1))) ∧ M1 = M) := by
  refine zMet.of (by decide) (Nat.le_of_ble_eq_true rfl) ?_
  intro p e s m args below meth c ls S hr hlocks hnm hK hM hA hS hl
  have hl : lv_has ls 3 [(0, .ref h0), (1, .int k)] := hl
  have hx := S.1
  have hb := S.2.1
  have hown := S.2.2.2.1
  have hts := S.2.2.2.2
  have hr : meth.sig.returnType = some .int := hr
  obtain ⟨h, hc, hd, hf, hdf, hN, hcp, hsep⟩ := id hI
  refine lv_aload_n hx hb dX2_home_0 rfl (lv_at hl 0 rfl) ?_
  refine lv_iload_n hx hb dX2_home_1 rfl (lv_at hl 1 rfl) ?_
  refine z_callV (As := [.int k]) (rest := []) S (c_X2_find l A G M h0 cps (nI N) den fee gd (nI ec) (zF N ca) k h hc) ok_X2_find kw_64 kw_66 ks_2 ⟨Nat.le_of_ble_eq_true rfl, Nat.le_of_ble_eq_true rfl⟩ hK hM hS hA h rfl rfl hl.1 rfl (Nat.le_of_ble_eq_true rfl) dX2_home_2 ⟨Nat.le_of_ble_eq_true rfl, Nat.le_of_ble_eq_true rfl⟩ (fun r_3 M_1 H locs hp_2 hM hS => ?_)
  obtain ⟨rfl, hM9⟩ := hp_2
  rw [hM9] at hM
  rw [zFi_eq hN]
  refine W.eq (g2 := F0 m 5 ls [va_rf ((zIx N k).map ca)]) rfl ?_
  rcases hz : zIx N k with _ | j
  · refine W.eq (g2 := F0 m 5 ls [.null]) rfl ?_
    refine lv_astore_nN (lv' := [(2, .null), (0, .ref h0), (1, .int k)]) hx hb dX2_home_5 rfl hl (by decide) rfl (fun ls hl => ?_)
    refine lv_aload_nN hx hb dX2_home_6 rfl (lv_at hl 0 rfl) ?_
    refine lv_ifnonnullN hx hb dX2_home_7 ?_
    refine lv_iconst (v := -1) hx hb dX2_home_10 (by decide) ?_
    refine lv_goto (tgt := 18) hx hb dX2_home_11 (by decide) ?_
    exact z_iret S hr hlocks hM hS ⟨by rw [zsel_n hz], rfl⟩ (Nat.le_of_ble_eq_true rfl) (Nat.le_of_ble_eq_true rfl) dX2_home_18
  · refine W.eq (g2 := F0 m 5 ls [.ref (ca j)]) rfl ?_
    have hj := (zIx_some hN hz).1
    have hcj := (hcp j hj).1
    refine lv_astore_n (lv' := [(2, .ref (ca j)), (0, .ref h0), (1, .int k)]) hx hb dX2_home_5 rfl hl (by decide) rfl (fun ls hl => ?_)
    refine lv_aload_n hx hb dX2_home_6 rfl (lv_at hl 0 rfl) ?_
    refine lv_ifnonnull (tgt := 14) hx hb dX2_home_7 (by decide) ?_
    refine lv_aload_n hx hb dX2_home_14 rfl (lv_at hl 0 rfl) ?_
    refine z_getN (v := .int ((cv j).2.2.2.1)) S kX0 hK hM hcj 3 (by decide) kw_84 rfl dX2_home_15 ?_
    exact z_iret S hr hlocks hM hS ⟨by rw [zsel_s hz], rfl⟩ (Nat.le_of_ble_eq_true rfl) (Nat.le_of_ble_eq_true rfl) dX2_home_18
set_option maxHeartbeats 4000000 in
set_option maxRecDepth 100000 in
theorem c_X2_owed (l : Launch) (A : Nat → Prop) (G : zG) (M : zMap) (h0 cps den fee N : Nat) (ca : Nat → Nat) (cv : Nat → zCV) (ch : Nat → List (Nat × zEV)) (dn fe : Nat → Int32) (gd : Int64) (ec : Nat) (k : Int32) (hI : zI G M h0 cps den fee N ca cv ch dn fe gd ec) : zMet l yX2_owed cX2_owed 3 (some .int) { frames := 1, cells := 0, slots := 0, locals := 40 } [.ref h0, .int k] A G M (fun r M1 => r = some (.int (zsel N k (-1) (fun j => (cv j).2.2.2.2.2.2.2.1))) ∧ M1 = M) := by
  refine zMet.of (by decide) (Nat.le_of_ble_eq_true rfl) ?_
  intro p e s m args below meth c ls S hr hlocks hnm hK hM hA hS hl
  have hl : lv_has ls 3 [(0, .ref h0), (1, .int k)] := hl
  have hx := S.1
  have hb := S.2.1
  have hown := S.2.2.2.1
  have hts := S.2.2.2.2
  have hr : meth.sig.returnType = some .int := hr
  obtain ⟨h, hc, hd, hf, hdf, hN, hcp, hsep⟩ := id hI
  refine lv_aload_n hx hb dX2_owed_0 rfl (lv_at hl 0 rfl) ?_
  refine lv_iload_n hx hb dX2_owed_1 rfl (lv_at hl 1 rfl) ?_
  refine z_callV (As := [.int k]) (rest := []) S (c_X2_find l A G M h0 cps (nI N) den fee gd (nI ec) (zF N ca) k h hc) ok_X2_find kw_64 kw_66 ks_2 ⟨Nat.le_of_ble_eq_true rfl, Nat.le_of_ble_eq_true rfl⟩ hK hM hS hA h rfl rfl hl.1 rfl (Nat.le_of_ble_eq_true rfl) dX2_owed_2 ⟨Nat.le_of_ble_eq_true rfl, Nat.le_of_ble_eq_true rfl⟩ (fun r_3 M_1 H locs hp_2 hM hS => ?_)
  obtain ⟨rfl, hM9⟩ := hp_2
  rw [hM9] at hM
  rw [zFi_eq hN]
  refine W.eq (g2 := F0 m 5 ls [va_rf ((zIx N k).map ca)]) rfl ?_
  rcases hz : zIx N k with _ | j
  · refine W.eq (g2 := F0 m 5 ls [.null]) rfl ?_
    refine lv_astore_nN (lv' := [(2, .null), (0, .ref h0), (1, .int k)]) hx hb dX2_owed_5 rfl hl (by decide) rfl (fun ls hl => ?_)
    refine lv_aload_nN hx hb dX2_owed_6 rfl (lv_at hl 0 rfl) ?_
    refine lv_ifnonnullN hx hb dX2_owed_7 ?_
    refine lv_iconst (v := -1) hx hb dX2_owed_10 (by decide) ?_
    refine lv_goto (tgt := 18) hx hb dX2_owed_11 (by decide) ?_
    exact z_iret S hr hlocks hM hS ⟨by rw [zsel_n hz], rfl⟩ (Nat.le_of_ble_eq_true rfl) (Nat.le_of_ble_eq_true rfl) dX2_owed_18
  · refine W.eq (g2 := F0 m 5 ls [.ref (ca j)]) rfl ?_
    have hj := (zIx_some hN hz).1
    have hcj := (hcp j hj).1
    refine lv_astore_n (lv' := [(2, .ref (ca j)), (0, .ref h0), (1, .int k)]) hx hb dX2_owed_5 rfl hl (by decide) rfl (fun ls hl => ?_)
    refine lv_aload_n hx hb dX2_owed_6 rfl (lv_at hl 0 rfl) ?_
    refine lv_ifnonnull (tgt := 14) hx hb dX2_owed_7 (by decide) ?_
    refine lv_aload_n hx hb dX2_owed_14 rfl (lv_at hl 0 rfl) ?_
    refine z_getN (v := .int ((cv j).2.2.2.2.2.2.2.1)) S kX0 hK hM hcj 7 (by decide) kw_92 rfl dX2_owed_15 ?_
    exact z_iret S hr hlocks hM hS ⟨by rw [zsel_s hz], rfl⟩ (Nat.le_of_ble_eq_true rfl) (Nat.le_of_ble_eq_true rfl) dX2_owed_18
set_option maxHeartbeats 4000000 in
set_option maxRecDepth 100000 in
theorem c_X2_state (l : Launch) (A : Nat → Prop) (G : zG) (M : zMap) (h0 cps den fee N : Nat) (ca : Nat → Nat) (cv : Nat → zCV) (ch : Nat → List (Nat × zEV)) (dn fe : Nat → Int32) (gd : Int64) (ec : Nat) (k : Int32) (day : Int64) (hI : zI G M h0 cps den fee N ca cv ch dn fe gd ec) : zMet l yX2_state cX2_state 5 (some .int) { frames := 2, cells := 0, slots := 0, locals := 80 } [.ref h0, .int k, .long day] A G M (fun r M1 => r = some (.int (zsel N k (-1) (fun j => zSt day (ch j)))) ∧ M1 = M) := by
  refine zMet.of (by decide) (Nat.le_of_ble_eq_true rfl) ?_
  intro p e s m args below meth c ls S hr hlocks hnm hK hM hA hS hl
  have hl : lv_has ls 5 [(0, .ref h0), (1, .int k), (2, .long day)] := hl
  have hx := S.1
  have hb := S.2.1
  have hown := S.2.2.2.1
  have hts := S.2.2.2.2
  have hr : meth.sig.returnType = some .int := hr
  obtain ⟨h, hc, hd, hf, hdf, hN, hcp, hsep⟩ := id hI
  refine lv_aload_n hx hb dX2_state_0 rfl (lv_at hl 0 rfl) ?_
  refine lv_iload_n hx hb dX2_state_1 rfl (lv_at hl 1 rfl) ?_
  refine z_callV (As := [.int k]) (rest := []) S (c_X2_find l A G M h0 cps (nI N) den fee gd (nI ec) (zF N ca) k h hc) ok_X2_find kw_64 kw_66 ks_2 ⟨Nat.le_of_ble_eq_true rfl, Nat.le_of_ble_eq_true rfl⟩ hK hM hS hA h rfl rfl hl.1 rfl (Nat.le_of_ble_eq_true rfl) dX2_state_2 ⟨Nat.le_of_ble_eq_true rfl, Nat.le_of_ble_eq_true rfl⟩ (fun r_3 M_1 H locs hp_2 hM hS => ?_)
  obtain ⟨rfl, hM9⟩ := hp_2
  rw [hM9] at hM
  rw [zFi_eq hN]
  refine W.eq (g2 := F0 m 5 ls [va_rf ((zIx N k).map ca)]) rfl ?_
  rcases hz : zIx N k with _ | j
  · refine W.eq (g2 := F0 m 5 ls [.null]) rfl ?_
    refine lv_astoreN (lv' := [(4, .null), (0, .ref h0), (1, .int k), (2, .long day)]) hx hb dX2_state_5 hl (by decide) rfl (fun ls hl => ?_)
    refine lv_aloadN hx hb dX2_state_7 (lv_at hl 0 rfl) ?_
    refine lv_ifnonnullN hx hb dX2_state_9 ?_
    refine lv_iconst (v := -1) hx hb dX2_state_12 (by decide) ?_
    refine lv_goto (tgt := 22) hx hb dX2_state_13 (by decide) ?_
    exact z_iret S hr hlocks hM hS ⟨by rw [zsel_n hz], rfl⟩ (Nat.le_of_ble_eq_true rfl) (Nat.le_of_ble_eq_true rfl) dX2_state_22
  · refine W.eq (g2 := F0 m 5 ls [.ref (ca j)]) rfl ?_
    have hj := (zIx_some hN hz).1
    have hcj := (hcp j hj).1
    refine lv_astore (lv' := [(4, .ref (ca j)), (0, .ref h0), (1, .int k), (2, .long day)]) hx hb dX2_state_5 hl (by decide) rfl (fun ls hl => ?_)
    refine lv_aload hx hb dX2_state_7 (lv_at hl 0 rfl) ?_
    refine lv_ifnonnull (tgt := 16) hx hb dX2_state_9 (by decide) ?_
    refine lv_aload hx hb dX2_state_16 (lv_at hl 0 rfl) ?_
    refine lv_lload_n hx hb dX2_state_18 rfl (lv_at hl 3 rfl) ?_
    refine z_callS (As := [.ref (ca j), .long day]) (rest := []) S (c_X2_stateOn l A G M (ca j) (cv j).1 (cv j).2.1 (cv j).2.2.1 (cv j).2.2.2.1 (cv j).2.2.2.2.1 (cv j).2.2.2.2.2.1 (cv j).2.2.2.2.2.2.1 (cv j).2.2.2.2.2.2.2.1 (cv j).2.2.2.2.2.2.2.2 (ch j) day hcj (hcp j hj).2.1) ok_X2_stateOn kw_132 kw_133 ⟨Nat.le_of_ble_eq_true rfl, Nat.le_of_ble_eq_true rfl⟩ hK hM hS hA rfl hl.1 rfl (Nat.le_of_ble_eq_true rfl) dX2_state_19 ⟨Nat.le_of_ble_eq_true rfl, Nat.le_of_ble_eq_true rfl⟩ (fun r_6 M_4 H locs hp_5 hM hS => ?_)
    obtain ⟨rfl, hM9⟩ := hp_5
    rw [hM9] at hM
    refine W.eq (g2 := F0 m 22 ls [.int (zSt day (ch j))]) rfl ?_
    exact z_iret S hr hlocks hM hS ⟨by rw [zsel_s hz], rfl⟩ (Nat.le_of_ble_eq_true rfl) (Nat.le_of_ble_eq_true rfl) dX2_state_22
set_option maxHeartbeats 4000000 in
set_option maxRecDepth 100000 in
theorem c_X2_floats (l : Launch) (A : Nat → Prop) (G : zG) (M : zMap) (h0 cps den fee N : Nat) (ca : Nat → Nat) (cv : Nat → zCV) (ch : Nat → List (Nat × zEV)) (dn fe : Nat → Int32) (gd : Int64) (ec : Nat) (k on : Int32) (hI : zI G M h0 cps den fee N ca cv ch dn fe gd ec) (hbool : zbool on) : zMet l yX2_floats cX2_floats 5 (some .boolean) { frames := 1, cells := 0, slots := 0, locals := 40 } [.ref h0, .int k, .int on] A G M (fun r M1 => r = some (.int (zsel N k 0 (fun j => (cv j).2.2.2.2.2.2.1))) ∧ zI G M1 h0 cps den fee N ca (zFl N k on cv) ch dn fe gd ec) := by
  refine zMet.of (by decide) (Nat.le_of_ble_eq_true rfl) ?_
  intro p e s m args below meth c ls S hr hlocks hnm hK hM hA hS hl
  have hl : lv_has ls 5 [(0, .ref h0), (1, .int k), (2, .int on)] := hl
  have hx := S.1
  have hb := S.2.1
  have hown := S.2.2.2.1
  have hts := S.2.2.2.2
  have hr : meth.sig.returnType = some .boolean := hr
  obtain ⟨h, hc, hd, hf, hdf, hN, hcp, hsep⟩ := id hI
  refine lv_aload_n hx hb dX2_floats_0 rfl (lv_at hl 0 rfl) ?_
  refine lv_iload_n hx hb dX2_floats_1 rfl (lv_at hl 1 rfl) ?_
  refine z_callV (As := [.int k]) (rest := []) S (c_X2_find l A G M h0 cps (nI N) den fee gd (nI ec) (zF N ca) k h hc) ok_X2_find kw_64 kw_66 ks_2 ⟨Nat.le_of_ble_eq_true rfl, Nat.le_of_ble_eq_true rfl⟩ hK hM hS hA h rfl rfl hl.1 rfl (Nat.le_of_ble_eq_true rfl) dX2_floats_2 ⟨Nat.le_of_ble_eq_true rfl, Nat.le_of_ble_eq_true rfl⟩ (fun r_3 M_1 H locs hp_2 hM hS => ?_)
  obtain ⟨rfl, hM9⟩ := hp_2
  rw [hM9] at hM
  rw [zFi_eq hN]
  refine W.eq (g2 := F0 m 5 ls [va_rf ((zIx N k).map ca)]) rfl ?_
  rcases hz : zIx N k with _ | j
  · refine W.eq (g2 := F0 m 5 ls [.null]) rfl ?_
    refine lv_astore_nN (lv' := [(3, .null), (0, .ref h0), (1, .int k), (2, .int on)]) hx hb dX2_floats_5 rfl hl (by decide) rfl (fun ls hl => ?_)
    refine lv_aload_nN hx hb dX2_floats_6 rfl (lv_at hl 0 rfl) ?_
    refine lv_ifnonnullN hx hb dX2_floats_7 ?_
    refine lv_iconst (v := 0) hx hb dX2_floats_10 (by decide) ?_
    exact z_zret S hr hlocks (by decide) hM hS ⟨by rw [zsel_n hz], by unfold zFl; rw [hz]; exact hI⟩ (Nat.le_of_ble_eq_true rfl) (Nat.le_of_ble_eq_true rfl) dX2_floats_11
  · refine W.eq (g2 := F0 m 5 ls [.ref (ca j)]) rfl ?_
    have hj := (zIx_some hN hz).1
    have hcj := (hcp j hj).1
    refine lv_astore_n (lv' := [(3, .ref (ca j)), (0, .ref h0), (1, .int k), (2, .int on)]) hx hb dX2_floats_5 rfl hl (by decide) rfl (fun ls hl => ?_)
    refine lv_aload_n hx hb dX2_floats_6 rfl (lv_at hl 0 rfl) ?_
    refine lv_ifnonnull (tgt := 12) hx hb dX2_floats_7 (by decide) ?_
    refine lv_aload_n hx hb dX2_floats_12 rfl (lv_at hl 0 rfl) ?_
    refine z_getN (v := .int ((cv j).2.2.2.2.2.2.1)) S kX0 hK hM hcj 6 (by decide) kw_90 rfl dX2_floats_13 ?_
    refine lv_istore (lv' := [(4, .int ((cv j).2.2.2.2.2.2.1)), (3, .ref (ca j)), (0, .ref h0), (1, .int k), (2, .int on)]) hx hb dX2_floats_16 hl (by decide) rfl (fun ls hl => ?_)
    refine lv_aload_n hx hb dX2_floats_18 rfl (lv_at hl 1 rfl) ?_
    refine lv_iload_n hx hb dX2_floats_19 rfl (lv_at hl 4 rfl) ?_
    refine z_putN S kX0 hK hM hS hcj 6 (by decide) kw_90 rfl (z_nb hbool) (z_fb hbool) (Nat.le_of_ble_eq_true rfl) dX2_floats_20 (fun H locs hM hS => ?_)
    obtain ⟨M_4, eM_5⟩ : ∃ z : zMap, z = zu M (ca j) (.inr (0, [.int ((cv j).1), .long ((cv j).2.1), .int ((cv j).2.2.1), .int ((cv j).2.2.2.1), .int ((cv j).2.2.2.2.1), .int ((cv j).2.2.2.2.2.1), .int on, .int ((cv j).2.2.2.2.2.2.2.1), .int ((cv j).2.2.2.2.2.2.2.2), va_rf (zHd (ch j))])) := ⟨_, rfl⟩
    replace hM : zM A G M_4 H := by rw [eM_5]; exact hM
    have he_6 : M_4 (ca j) = some (.inr (0, [.int ((cv j).1), .long ((cv j).2.1), .int ((cv j).2.2.1), .int ((cv j).2.2.2.1), .int ((cv j).2.2.2.2.1), .int ((cv j).2.2.2.2.2.1), .int on, .int ((cv j).2.2.2.2.2.2.2.1), .int ((cv j).2.2.2.2.2.2.2.2), va_rf (zHd (ch j))])) := by rw [eM_5]; exact zu_s _ _ _
    have he_7 := (show M_4 h0 = M h0 by rw [eM_5]; exact zu_n (zne h hcj (by simp))).trans h
    have he_8 := (show M_4 cps = M cps by rw [eM_5]; exact zu_n (zne hc hcj (by simp))).trans hc
    have he_9 := (show M_4 den = M den by rw [eM_5]; exact zu_n (zne hd hcj (by simp))).trans hd
    have he_10 := (show M_4 fee = M fee by rw [eM_5]; exact zu_n (zne hf hcj (by simp))).trans hf
    refine lv_iload hx hb dX2_floats_23 (lv_at hl 0 rfl) ?_
    exact z_zret S hr hlocks (z_nb (hcp j hj).2.2) hM hS ⟨by rw [zsel_s hz], by rw [eM_5]; unfold zFl; rw [hz]; exact hI.setC hj ((cv j).1, (cv j).2.1, (cv j).2.2.1, (cv j).2.2.2.1, (cv j).2.2.2.2.1, (cv j).2.2.2.2.2.1, on, (cv j).2.2.2.2.2.2.2.1, (cv j).2.2.2.2.2.2.2.2) hbool⟩ (Nat.le_of_ble_eq_true rfl) (Nat.le_of_ble_eq_true rfl) dX2_floats_25
set_option maxHeartbeats 4000000 in
set_option maxRecDepth 100000 in
theorem c_X2_right (l : Launch) (A : Nat → Prop) (G : zG) (M : zMap) (h0 cps den fee N : Nat) (ca : Nat → Nat) (cv : Nat → zCV) (ch : Nat → List (Nat × zEV)) (dn fe : Nat → Int32) (gd : Int64) (ec : Nat) (p0 p1 on : Int32) (hI : zI G M h0 cps den fee N ca cv ch dn fe gd ec) : zMet l yX2_right cX2_right 5 (some .boolean) { frames := 2, cells := 0, slots := 0, locals := 80 } [.ref h0, .int p0, .int p1, .int on] A G M (fun r M1 => r = some (.int (zb (zRi dn p0 p1))) ∧ zI G M1 h0 cps den fee N ca cv ch (zRt p0 p1 on dn) fe gd ec) := by
  refine zMet.of (by decide) (Nat.le_of_ble_eq_true rfl) ?_
  intro p e s m args below meth c ls S hr hlocks hnm hK hM hA hS hl
  have hl : lv_has ls 5 [(0, .ref h0), (1, .int p0), (2, .int p1), (3, .int on)] := hl
  have hx := S.1
  have hb := S.2.1
  have hown := S.2.2.2.1
  have hts := S.2.2.2.2
  have hr : meth.sig.returnType = some .boolean := hr
  obtain ⟨h, hc, hd, hf, hdf, hN, hcp, hsep⟩ := id hI
  refine lv_aload_n hx hb dX2_right_0 rfl (lv_at hl 0 rfl) ?_
  refine lv_iload_n hx hb dX2_right_1 rfl (lv_at hl 1 rfl) ?_
  refine lv_iload_n hx hb dX2_right_2 rfl (lv_at hl 2 rfl) ?_
  refine z_callV (As := [.int p0, .int p1]) (rest := []) S (c_X2_hasRight l A G M h0 cps (nI N) den fee gd (nI ec) dn p0 p1 h hd) ok_X2_hasRight kw_68 kw_70 ks_3 ⟨Nat.le_of_ble_eq_true rfl, Nat.le_of_ble_eq_true rfl⟩ hK hM hS hA h rfl rfl hl.1 rfl (Nat.le_of_ble_eq_true rfl) dX2_right_3 ⟨Nat.le_of_ble_eq_true rfl, Nat.le_of_ble_eq_true rfl⟩ (fun r_3 M_1 H locs hp_2 hM hS => ?_)
  obtain ⟨rfl, hM9⟩ := hp_2
  rw [hM9] at hM
  refine W.eq (g2 := F0 m 6 ls [.int (zb (zRi dn p0 p1))]) rfl ?_
  refine lv_istore (lv' := [(4, .int (zb (zRi dn p0 p1))), (0, .ref h0), (1, .int p0), (2, .int p1), (3, .int on)]) hx hb dX2_right_6 hl (by decide) rfl (fun ls hl => ?_)
  refine lv_iload_n hx hb dX2_right_8 rfl (lv_at hl 2 rfl) ?_
  refine z_callS (As := [.int p0]) (rest := []) S (c_X2_isPlace l A G M p0) ok_X2_isPlace kw_52 kw_53 ⟨Nat.le_of_ble_eq_true rfl, Nat.le_of_ble_eq_true rfl⟩ hK hM hS hA rfl hl.1 rfl (Nat.le_of_ble_eq_true rfl) dX2_right_9 ⟨Nat.le_of_ble_eq_true rfl, Nat.le_of_ble_eq_true rfl⟩ (fun r_6 M_4 H locs hp_5 hM hS => ?_)
  obtain ⟨rfl, hM9⟩ := hp_5
  rw [hM9] at hM
  refine W.eq (g2 := F0 m 12 ls [.int (zb (zPl p0))]) rfl ?_
  refine lv_if_eq (tgt := 42) hx hb dX2_right_12 (by decide) (fun c_7 => ?_) (fun c_7 => ?_)
  · -- 12 jump
    rw [zb_0] at c_7
    refine lv_iload hx hb dX2_right_42 (lv_at hl 0 rfl) ?_
    exact z_zret S hr hlocks (z_nb zb_bool) hM hS ⟨rfl, by unfold zRt; rw [if_neg (fun q => c_7 q.1)]; exact hI⟩ (Nat.le_of_ble_eq_true rfl) (Nat.le_of_ble_eq_true rfl) dX2_right_44
  · -- 12 on
    rw [zb_0n] at c_7
    refine lv_iload_n hx hb dX2_right_15 rfl (lv_at hl 3 rfl) ?_
    refine z_callS (As := [.int p1]) (rest := []) S (c_X2_isType l A G M p1) ok_X2_isType kw_49 kw_50 ⟨Nat.le_of_ble_eq_true rfl, Nat.le_of_ble_eq_true rfl⟩ hK hM hS hA rfl hl.1 rfl (Nat.le_of_ble_eq_true rfl) dX2_right_16 ⟨Nat.le_of_ble_eq_true rfl, Nat.le_of_ble_eq_true rfl⟩ (fun r_10 M_8 H locs hp_9 hM hS => ?_)
    obtain ⟨rfl, hM9⟩ := hp_9
    rw [hM9] at hM
    refine W.eq (g2 := F0 m 19 ls [.int (zb (zTy p1))]) rfl ?_
    refine lv_if_eq (tgt := 42) hx hb dX2_right_19 (by decide) (fun c_11 => ?_) (fun c_11 => ?_)
    · -- 19 jump
      rw [zb_0] at c_11
      refine lv_iload hx hb dX2_right_42 (lv_at hl 0 rfl) ?_
      exact z_zret S hr hlocks (z_nb zb_bool) hM hS ⟨rfl, by unfold zRt; rw [if_neg (fun q => c_11 q.2)]; exact hI⟩ (Nat.le_of_ble_eq_true rfl) (Nat.le_of_ble_eq_true rfl) dX2_right_44
    · -- 19 on
      rw [zb_0n] at c_11
      refine lv_aload_n hx hb dX2_right_22 rfl (lv_at hl 1 rfl) ?_
      refine z_get (v := .ref den) S kX2 hK hM h 2 (by decide) kw_18 rfl dX2_right_23 ?_
      refine lv_iload_n hx hb dX2_right_26 rfl (lv_at hl 2 rfl) ?_
      refine lv_bipush (v := 6) hx hb dX2_right_27 (by decide) ?_
      refine lv_imul hx hb dX2_right_29 ?_
      refine lv_iload_n hx hb dX2_right_30 rfl (lv_at hl 3 rfl) ?_
      refine lv_iadd hx hb dX2_right_31 ?_
      refine lv_iload_n hx hb dX2_right_32 rfl (lv_at hl 4 rfl) ?_
      refine lv_if_ne (tgt := 40) hx hb dX2_right_33 (by decide) (fun c_12 => ?_) (fun c_12 => ?_)
      · -- 33 jump
        refine lv_iconst (v := 0) hx hb dX2_right_40 (by decide) ?_
        refine z_zast S hK hM hS 1 hd rfl (zRi_in c_7 c_11) (by decide) dX2_right_41 (fun H locs hM hS => ?_)
        obtain ⟨M_13, eM_14⟩ : ∃ z : zMap, z = zu M den (.inl ((G.2.2 1), 60, .inl (upd dn ((p0 * 6) + p1).toNatClampNeg 0))) := ⟨_, rfl⟩
        replace hM : zM A G M_13 H := by rw [eM_14]; exact hM
        have he_15 : M_13 den = some (.inl ((G.2.2 1), 60, .inl (upd dn ((p0 * 6) + p1).toNatClampNeg 0))) := by rw [eM_14]; exact zu_s _ _ _
        have he_16 := (show M_13 h0 = M h0 by rw [eM_14]; exact zu_n (zne h hd (by simp))).trans h
        have he_17 := (show M_13 cps = M cps by rw [eM_14]; exact zu_n (zne hc hd (by simp))).trans hc
        have he_18 := (show M_13 fee = M fee by rw [eM_14]; exact zu_n (zne hf hd (by simp))).trans hf
        refine lv_iload hx hb dX2_right_42 (lv_at hl 0 rfl) ?_
        exact z_zret S hr hlocks (z_nb zb_bool) hM hS ⟨rfl, by rw [eM_14]; unfold zRt; rw [if_pos ⟨c_7, c_11⟩, zb_f c_12]; exact hI.setD _⟩ (Nat.le_of_ble_eq_true rfl) (Nat.le_of_ble_eq_true rfl) dX2_right_44
      · -- 33 on
        refine lv_iconst (v := 1) hx hb dX2_right_36 (by decide) ?_
        refine lv_goto (tgt := 41) hx hb dX2_right_37 (by decide) ?_
        refine z_zast S hK hM hS 1 hd rfl (zRi_in c_7 c_11) (by decide) dX2_right_41 (fun H locs hM hS => ?_)
        obtain ⟨M_19, eM_20⟩ : ∃ z : zMap, z = zu M den (.inl ((G.2.2 1), 60, .inl (upd dn ((p0 * 6) + p1).toNatClampNeg 1))) := ⟨_, rfl⟩
        replace hM : zM A G M_19 H := by rw [eM_20]; exact hM
        have he_21 : M_19 den = some (.inl ((G.2.2 1), 60, .inl (upd dn ((p0 * 6) + p1).toNatClampNeg 1))) := by rw [eM_20]; exact zu_s _ _ _
        have he_22 := (show M_19 h0 = M h0 by rw [eM_20]; exact zu_n (zne h hd (by simp))).trans h
        have he_23 := (show M_19 cps = M cps by rw [eM_20]; exact zu_n (zne hc hd (by simp))).trans hc
        have he_24 := (show M_19 fee = M fee by rw [eM_20]; exact zu_n (zne hf hd (by simp))).trans hf
        refine lv_iload hx hb dX2_right_42 (lv_at hl 0 rfl) ?_
        exact z_zret S hr hlocks (z_nb zb_bool) hM hS ⟨rfl, by rw [eM_20]; unfold zRt; rw [if_pos ⟨c_7, c_11⟩, zb_t c_12]; exact hI.setD _⟩ (Nat.le_of_ble_eq_true rfl) (Nat.le_of_ble_eq_true rfl) dX2_right_44
set_option maxHeartbeats 4000000 in
set_option maxRecDepth 100000 in
theorem c_X2_fee (l : Launch) (A : Nat → Prop) (G : zG) (M : zMap) (h0 cps den fee N : Nat) (ca : Nat → Nat) (cv : Nat → zCV) (ch : Nat → List (Nat × zEV)) (dn fe : Nat → Int32) (gd : Int64) (ec : Nat) (p0 p1 : Int32) (hI : zI G M h0 cps den fee N ca cv ch dn fe gd ec) : zMet l yX2_fee cX2_fee 4 (some .int) { frames := 1, cells := 0, slots := 0, locals := 40 } [.ref h0, .int p0, .int p1] A G M (fun r M1 => r = some (.int (zFr p0 p1 fe)) ∧ zI G M1 h0 cps den fee N ca cv ch dn (zFe p0 p1 fe) gd ec) := by
  refine zMet.of (by decide) (Nat.le_of_ble_eq_true rfl) ?_
  intro p e s m args below meth c ls S hr hlocks hnm hK hM hA hS hl
  have hl : lv_has ls 4 [(0, .ref h0), (1, .int p0), (2, .int p1)] := hl
  have hx := S.1
  have hb := S.2.1
  have hown := S.2.2.2.1
  have hts := S.2.2.2.2
  have hr : meth.sig.returnType = some .int := hr
  obtain ⟨h, hc, hd, hf, hdf, hN, hcp, hsep⟩ := id hI
  refine lv_iload_n hx hb dX2_fee_0 rfl (lv_at hl 1 rfl) ?_
  refine z_callS (As := [.int p0]) (rest := []) S (c_X2_isType l A G M p0) ok_X2_isType kw_49 kw_50 ⟨Nat.le_of_ble_eq_true rfl, Nat.le_of_ble_eq_true rfl⟩ hK hM hS hA rfl hl.1 rfl (Nat.le_of_ble_eq_true rfl) dX2_fee_1 ⟨Nat.le_of_ble_eq_true rfl, Nat.le_of_ble_eq_true rfl⟩ (fun r_3 M_1 H locs hp_2 hM hS => ?_)
  obtain ⟨rfl, hM9⟩ := hp_2
  rw [hM9] at hM
  refine W.eq (g2 := F0 m 4 ls [.int (zb (zTy p0))]) rfl ?_
  refine lv_if_eq (tgt := 17) hx hb dX2_fee_4 (by decide) (fun c_4 => ?_) (fun c_4 => ?_)
  · -- 4 jump
    rw [zb_0] at c_4
    refine lv_iconst (v := -1) hx hb dX2_fee_17 (by decide) ?_
    exact z_iret S hr hlocks hM hS ⟨by unfold zFr; rw [if_neg (fun q => c_4 q.1)], by unfold zFe; rw [if_neg (fun q => c_4 q.1)]; exact hI⟩ (Nat.le_of_ble_eq_true rfl) (Nat.le_of_ble_eq_true rfl) dX2_fee_18
  · -- 4 on
    rw [zb_0n] at c_4
    refine lv_iload_n hx hb dX2_fee_7 rfl (lv_at hl 2 rfl) ?_
    refine lv_if_lt (tgt := 17) hx hb dX2_fee_8 (by decide) (fun c_5 => ?_) (fun c_5 => ?_)
    · -- 8 jump
      refine lv_iconst (v := -1) hx hb dX2_fee_17 (by decide) ?_
      exact z_iret S hr hlocks hM hS ⟨by unfold zFr; rw [if_neg (fun q => q.2.1 c_5)], by unfold zFe; rw [if_neg (fun q => q.2.1 c_5)]; exact hI⟩ (Nat.le_of_ble_eq_true rfl) (Nat.le_of_ble_eq_true rfl) dX2_fee_18
    · -- 8 on
      refine lv_iload_n hx hb dX2_fee_11 rfl (lv_at hl 2 rfl) ?_
      refine lv_ldc (v := 1000000) hx hb hown (hts _ kw_126) dX2_fee_12 ?_
      refine lv_icmp_le (tgt := 19) hx hb dX2_fee_14 (by decide) (fun c_6 => ?_) (fun c_6 => ?_)
      · -- 14 jump
        refine lv_aload_n hx hb dX2_fee_19 rfl (lv_at hl 0 rfl) ?_
        refine z_get (v := .ref fee) S kX2 hK hM h 3 (by decide) kw_19 rfl dX2_fee_20 ?_
        refine lv_iload_n hx hb dX2_fee_23 rfl (lv_at hl 1 rfl) ?_
        refine z_iald S hK hM 0 hf rfl (zTy_vp c_4) dX2_fee_24 ?_
        refine lv_istore_n (lv' := [(3, .int (fe p0.toNatClampNeg)), (0, .ref h0), (1, .int p0), (2, .int p1)]) hx hb dX2_fee_25 rfl hl (by decide) rfl (fun ls hl => ?_)
        refine lv_aload_n hx hb dX2_fee_26 rfl (lv_at hl 1 rfl) ?_
        refine z_get (v := .ref fee) S kX2 hK hM h 3 (by decide) kw_19 rfl dX2_fee_27 ?_
        refine lv_iload_n hx hb dX2_fee_30 rfl (lv_at hl 2 rfl) ?_
        refine lv_iload_n hx hb dX2_fee_31 rfl (lv_at hl 3 rfl) ?_
        refine z_iast S hK hM hS 0 hf rfl (zTy_vp c_4) dX2_fee_32 (fun H locs hM hS => ?_)
        obtain ⟨M_7, eM_8⟩ : ∃ z : zMap, z = zu M fee (.inl ((G.2.2 0), 6, .inl (upd fe p0.toNatClampNeg p1))) := ⟨_, rfl⟩
        replace hM : zM A G M_7 H := by rw [eM_8]; exact hM
        have he_9 : M_7 fee = some (.inl ((G.2.2 0), 6, .inl (upd fe p0.toNatClampNeg p1))) := by rw [eM_8]; exact zu_s _ _ _
        have he_10 := (show M_7 h0 = M h0 by rw [eM_8]; exact zu_n (zne h hf (by simp))).trans h
        have he_11 := (show M_7 cps = M cps by rw [eM_8]; exact zu_n (zne hc hf (by simp))).trans hc
        have he_12 := (show M_7 den = M den by rw [eM_8]; exact zu_n (zne hd hf (by simp))).trans hd
        refine lv_iload_n hx hb dX2_fee_33 rfl (lv_at hl 0 rfl) ?_
        exact z_iret S hr hlocks hM hS ⟨by unfold zFr; rw [if_pos ⟨c_4, c_5, c_6⟩], by rw [eM_8]; unfold zFe; rw [if_pos ⟨c_4, c_5, c_6⟩]; exact hI.setF _⟩ (Nat.le_of_ble_eq_true rfl) (Nat.le_of_ble_eq_true rfl) dX2_fee_34
      · -- 14 on
        refine lv_iconst (v := -1) hx hb dX2_fee_17 (by decide) ?_
        exact z_iret S hr hlocks hM hS ⟨by unfold zFr; rw [if_neg (fun q => c_6 q.2.2)], by unfold zFe; rw [if_neg (fun q => c_6 q.2.2)]; exact hI⟩ (Nat.le_of_ble_eq_true rfl) (Nat.le_of_ble_eq_true rfl) dX2_fee_18
end
section
set_option maxHeartbeats 4000000 in
set_option maxRecDepth 100000 in
theorem c_X2_check (l : Launch) (A : Nat → Prop) (G : zG) (M : zMap) (h0 : Nat) (number : Int64) (digits : Int32) : zMet l yX2_check cX2_check 9 (some .int) { frames := 1, cells := 0, slots := 0, locals := 40 } [.ref h0, .long number, .int digits] A G M (fun r M1 => r = some (.int (zchk number digits)) ∧ M1 = M) := by
  refine zMet.of (by decide) (Nat.le_of_ble_eq_true rfl) ?_
  intro p e s m args below meth c ls S hr hlocks hnm hK hM hA hS hl
  have hl : lv_has ls 9 [(0, .ref h0), (1, .long number), (3, .int digits)] := hl
  have hx := S.1
  have hb := S.2.1
  have hown := S.2.2.2.1
  have hts := S.2.2.2.2
  have hr : meth.sig.returnType = some .int := hr
  refine lv_lload_n hx hb dX2_check_0 rfl (lv_at hl 1 rfl) ?_
  refine lv_lconst (v := 0) hx hb dX2_check_1 (by decide) ?_
  refine W.lcmp hx hb dX2_check_2 ?_
  refine lv_if_lt (tgt := 17) hx hb dX2_check_3 (by decide) (fun c_1 => ?_) (fun c_1 => ?_)
  · -- 3 jump
    rw [lg_cmp_lt] at c_1
    refine lv_iconst (v := -1) hx hb dX2_check_17 (by decide) ?_
    exact z_iret S hr hlocks hM hS ⟨by unfold zchk; rw [if_pos (Or.inl c_1)], rfl⟩ (Nat.le_of_ble_eq_true rfl) (Nat.le_of_ble_eq_true rfl) dX2_check_18
  · -- 3 on
    rw [lg_cmp_lt] at c_1
    have hc0 := c_1
    refine lv_iload_n hx hb dX2_check_6 rfl (lv_at hl 2 rfl) ?_
    refine lv_iconst (v := 1) hx hb dX2_check_7 (by decide) ?_
    refine lv_icmp_lt (tgt := 17) hx hb dX2_check_8 (by decide) (fun c_2 => ?_) (fun c_2 => ?_)
    · -- 8 jump
      refine lv_iconst (v := -1) hx hb dX2_check_17 (by decide) ?_
      exact z_iret S hr hlocks hM hS ⟨by unfold zchk; rw [if_pos (Or.inr (Or.inl c_2))], rfl⟩ (Nat.le_of_ble_eq_true rfl) (Nat.le_of_ble_eq_true rfl) dX2_check_18
    · -- 8 on
      refine lv_iload_n hx hb dX2_check_11 rfl (lv_at hl 2 rfl) ?_
      refine lv_bipush (v := 12) hx hb dX2_check_12 (by decide) ?_
      refine lv_icmp_le (tgt := 19) hx hb dX2_check_14 (by decide) (fun c_3 => ?_) (fun c_3 => ?_)
      · -- 14 jump
        refine lv_lload_n hx hb dX2_check_19 rfl (lv_at hl 1 rfl) ?_
        refine lv_lstore (lv' := [(4, .long number), (0, .ref h0), (1, .long number), (3, .int digits)]) hx hb dX2_check_20 hl (by decide) rfl (fun ls hl => ?_)
        refine lv_iconst (v := 0) hx hb dX2_check_22 (by decide) ?_
        refine lv_istore (lv' := [(6, .int 0), (4, .long number), (0, .ref h0), (1, .long number), (3, .int digits)]) hx hb dX2_check_23 hl (by decide) rfl (fun ls hl => ?_)
        refine lv_iconst (v := 0) hx hb dX2_check_25 (by decide) ?_
        refine lv_istore (lv' := [(7, .int 0), (6, .int 0), (4, .long number), (0, .ref h0), (1, .long number), (3, .int digits)]) hx hb dX2_check_26 hl (by decide) rfl (fun ls hl => ?_)
        obtain ⟨K, hK1, hK2, rfl⟩ := z112 c_2 c_3
        refine z_loop (fun (k : Nat) ls H' locs' => k ≤ K ∧ lv_has ls 9 [(7, .int (nI k)), (6, .int (zcS number k)), (4, .long (zcR number k)), (0, .ref h0), (1, .long number), (3, .int (nI K))] ∧ zM A G M H' ∧ va_S A s.heap H' locs') (fun k => K - k) 0 ⟨Nat.zero_le _, hl, hM, hS⟩ ?_
        rintro k ls H locs ⟨hk, hl, hM, hS⟩ ih
        refine lv_iload hx hb dX2_check_28 (lv_at hl 0 rfl) ?_
        refine lv_iload_n hx hb dX2_check_30 rfl (lv_at hl 5 rfl) ?_
        refine lv_icmp_ge (tgt := 79) hx hb dX2_check_31 (by decide) (fun c_4 => ?_) (fun c_4 => ?_)
        · -- 31 jump
          have hkK : k = K := by have := (nI_leI (by omega) (by omega)).mp c_4; omega
          subst hkK
          refine lv_lload hx hb dX2_check_79 (lv_at hl 2 rfl) ?_
          refine lv_lconst (v := 0) hx hb dX2_check_81 (by decide) ?_
          refine W.lcmp hx hb dX2_check_82 ?_
          refine lv_if_eq (tgt := 88) hx hb dX2_check_83 (by decide) (fun c_5 => ?_) (fun c_5 => ?_)
          · -- 83 jump
            rw [lg_cmp_eq] at c_5
            refine lv_bipush (v := 10) hx hb dX2_check_88 (by decide) ?_
            refine lv_iload hx hb dX2_check_90 (lv_at hl 1 rfl) ?_
            refine lv_bipush (v := 10) hx hb dX2_check_92 (by decide) ?_
            refine lv_irem hx hb dX2_check_94 (by decide) ?_
            refine lv_isub hx hb dX2_check_95 ?_
            refine lv_bipush (v := 10) hx hb dX2_check_96 (by decide) ?_
            refine lv_irem hx hb dX2_check_98 (by decide) ?_
            exact z_iret S hr hlocks hM hS ⟨by rw [zchk_in hc0 hK1 hK2, if_pos c_5], rfl⟩ (Nat.le_of_ble_eq_true rfl) (Nat.le_of_ble_eq_true rfl) dX2_check_99
          · -- 83 on
            rw [lg_cmp_eq] at c_5
            refine lv_iconst (v := -1) hx hb dX2_check_86 (by decide) ?_
            exact z_iret S hr hlocks hM hS ⟨by rw [zchk_in hc0 hK1 hK2, if_neg c_5], rfl⟩ (Nat.le_of_ble_eq_true rfl) (Nat.le_of_ble_eq_true rfl) dX2_check_87
        · -- 31 on
          have hkK : k < K := Nat.lt_of_not_le (fun q => c_4 (nI_le q (by omega)))
          refine lv_lload hx hb dX2_check_34 (lv_at hl 2 rfl) ?_
          refine lv_ldc2 (v := 10) hx hb hown (hts _ kw_41) dX2_check_36 ?_
          refine lv_lrem hx hb dX2_check_39 (by decide) ?_
          refine lv_l2i (v := ((zcR number k) - (zcR number k) / 10 * 10).toInt32) hx hb dX2_check_40 rfl ?_
          refine lv_istore (lv' := [(8, .int (((zcR number k) - (zcR number k) / 10 * 10).toInt32)), (7, .int (nI k)), (6, .int (zcS number k)), (4, .long (zcR number k)), (0, .ref h0), (1, .long number), (3, .int (nI K))]) hx hb dX2_check_41 hl (by decide) rfl (fun ls hl => ?_)
          refine lv_iload hx hb dX2_check_43 (lv_at hl 2 rfl) ?_
          refine lv_iload hx hb dX2_check_45 (lv_at hl 1 rfl) ?_
          refine lv_iconst (v := 2) hx hb dX2_check_47 (by decide) ?_
          refine lv_irem hx hb dX2_check_48 (by decide) ?_
          refine lv_if_ne (tgt := 60) hx hb dX2_check_49 (by decide) (fun c_6 => ?_) (fun c_6 => ?_)
          · -- 49 jump
            rw [zpar (by omega)] at c_6
            have hpar := c_6
            refine lv_iload hx hb dX2_check_60 (lv_at hl 0 rfl) ?_
            refine lv_iadd hx hb dX2_check_62 ?_
            refine lv_istore (lv' := [(6, .int ((zcS number k) + (((zcR number k) - (zcR number k) / 10 * 10).toInt32))), (8, .int (((zcR number k) - (zcR number k) / 10 * 10).toInt32)), (7, .int (nI k)), (4, .long (zcR number k)), (0, .ref h0), (1, .long number), (3, .int (nI K))]) hx hb dX2_check_63 hl (by decide) rfl (fun ls hl => ?_)
            refine lv_lload hx hb dX2_check_65 (lv_at hl 3 rfl) ?_
            refine lv_ldc2 (v := 10) hx hb hown (hts _ kw_41) dX2_check_67 ?_
            refine lv_ldiv hx hb dX2_check_70 (by decide) ?_
            refine lv_lstore (lv' := [(4, .long ((zcR number k) / 10)), (6, .int ((zcS number k) + (((zcR number k) - (zcR number k) / 10 * 10).toInt32))), (8, .int (((zcR number k) - (zcR number k) / 10 * 10).toInt32)), (7, .int (nI k)), (0, .ref h0), (1, .long number), (3, .int (nI K))]) hx hb dX2_check_71 hl (by decide) rfl (fun ls hl => ?_)
            refine lv_iinc (v := (nI k) + 1) (lv' := [(7, .int ((nI k) + 1)), (4, .long ((zcR number k) / 10)), (6, .int ((zcS number k) + (((zcR number k) - (zcR number k) / 10 * 10).toInt32))), (8, .int (((zcR number k) - (zcR number k) / 10 * 10).toInt32)), (0, .ref h0), (1, .long number), (3, .int (nI K))]) hx hb dX2_check_73 hl (k := 3) rfl rfl (by decide) rfl (fun ls hl => ?_)
            refine lv_goto (tgt := 28) hx hb dX2_check_76 (by decide) ?_
            exact ih (k + 1) ls _ _ ⟨by omega, by
              have h7 := lv_sub hl [0, 2, 1, 4, 5, 6] rfl
              rw [← nI_1, zcR, zcS, if_neg hpar]
              exact h7, hM, hS⟩ (by omega)
          · -- 49 on
            rw [zpar (by omega)] at c_6
            have hpar := c_6
            refine lv_iload hx hb dX2_check_52 (lv_at hl 0 rfl) ?_
            refine z_callS (As := [.int (((zcR number k) - (zcR number k) / 10 * 10).toInt32)]) (rest := [.int (zcS number k)]) S (c_X2_doubled l A G M (((zcR number k) - (zcR number k) / 10 * 10).toInt32)) ok_X2_doubled kw_42 kw_43 ⟨Nat.le_of_ble_eq_true rfl, Nat.le_of_ble_eq_true rfl⟩ hK hM hS hA rfl hl.1 rfl (Nat.le_of_ble_eq_true rfl) dX2_check_54 ⟨Nat.le_of_ble_eq_true rfl, Nat.le_of_ble_eq_true rfl⟩ (fun r_9 M_7 H locs hp_8 hM hS => ?_)
            obtain ⟨rfl, hM9⟩ := hp_8
            rw [hM9] at hM
            refine W.eq (g2 := F0 m 57 ls [.int (zdb (((zcR number k) - (zcR number k) / 10 * 10).toInt32)), .int (zcS number k)]) rfl ?_
            refine lv_goto (tgt := 62) hx hb dX2_check_57 (by decide) ?_
            refine lv_iadd hx hb dX2_check_62 ?_
            refine lv_istore (lv' := [(6, .int ((zcS number k) + (zdb (((zcR number k) - (zcR number k) / 10 * 10).toInt32)))), (8, .int (((zcR number k) - (zcR number k) / 10 * 10).toInt32)), (7, .int (nI k)), (4, .long (zcR number k)), (0, .ref h0), (1, .long number), (3, .int (nI K))]) hx hb dX2_check_63 hl (by decide) rfl (fun ls hl => ?_)
            refine lv_lload hx hb dX2_check_65 (lv_at hl 3 rfl) ?_
            refine lv_ldc2 (v := 10) hx hb hown (hts _ kw_41) dX2_check_67 ?_
            refine lv_ldiv hx hb dX2_check_70 (by decide) ?_
            refine lv_lstore (lv' := [(4, .long ((zcR number k) / 10)), (6, .int ((zcS number k) + (zdb (((zcR number k) - (zcR number k) / 10 * 10).toInt32)))), (8, .int (((zcR number k) - (zcR number k) / 10 * 10).toInt32)), (7, .int (nI k)), (0, .ref h0), (1, .long number), (3, .int (nI K))]) hx hb dX2_check_71 hl (by decide) rfl (fun ls hl => ?_)
            refine lv_iinc (v := (nI k) + 1) (lv' := [(7, .int ((nI k) + 1)), (4, .long ((zcR number k) / 10)), (6, .int ((zcS number k) + (zdb (((zcR number k) - (zcR number k) / 10 * 10).toInt32)))), (8, .int (((zcR number k) - (zcR number k) / 10 * 10).toInt32)), (0, .ref h0), (1, .long number), (3, .int (nI K))]) hx hb dX2_check_73 hl (k := 3) rfl rfl (by decide) rfl (fun ls hl => ?_)
            refine lv_goto (tgt := 28) hx hb dX2_check_76 (by decide) ?_
            exact ih (k + 1) ls _ _ ⟨by omega, by
              have h7 := lv_sub hl [0, 2, 1, 4, 5, 6] rfl
              rw [← nI_1, zcR, zcS, if_pos hpar]
              exact h7, hM, hS⟩ (by omega)
      · -- 14 on
        refine lv_iconst (v := -1) hx hb dX2_check_17 (by decide) ?_
        exact z_iret S hr hlocks hM hS ⟨by unfold zchk; rw [if_pos (Or.inr (Or.inr (Int32.not_le.mp c_3)))], rfl⟩ (Nat.le_of_ble_eq_true rfl) (Nat.le_of_ble_eq_true rfl) dX2_check_18
set_option maxHeartbeats 4000000 in
set_option maxRecDepth 100000 in
theorem c_X2_isBarcode (l : Launch) (A : Nat → Prop) (G : zG) (M : zMap) (h0 cps : Nat) (n : Int32) (den fee : Nat) (gd : Int64) (ec : Int32) (b : Int64) (dg : Int32) (h : M h0 = some (oI cps n den fee gd ec)) : zMet l yX2_isBarcode cX2_isBarcode 4 (some .boolean) { frames := 2, cells := 0, slots := 0, locals := 80 } [.ref h0, .long b, .int dg] A G M (fun r M1 => r = some (.int (zb (zBc b dg))) ∧ M1 = M) := by
  refine zMet.of (by decide) (Nat.le_of_ble_eq_true rfl) ?_
  intro p e s m args below meth c ls S hr hlocks hnm hK hM hA hS hl
  have hl : lv_has ls 4 [(0, .ref h0), (1, .long b), (3, .int dg)] := hl
  have hx := S.1
  have hb := S.2.1
  have hown := S.2.2.2.1
  have hts := S.2.2.2.2
  have hr : meth.sig.returnType = some .boolean := hr
  refine lv_lload_n hx hb dX2_isBarcode_0 rfl (lv_at hl 1 rfl) ?_
  refine lv_lconst (v := 0) hx hb dX2_isBarcode_1 (by decide) ?_
  refine W.lcmp hx hb dX2_isBarcode_2 ?_
  refine lv_if_lt (tgt := 29) hx hb dX2_isBarcode_3 (by decide) (fun c_1 => ?_) (fun c_1 => ?_)
  · -- 3 jump
    rw [lg_cmp_lt] at c_1
    refine lv_iconst (v := 0) hx hb dX2_isBarcode_29 (by decide) ?_
    exact z_zret S hr hlocks (by decide) hM hS ⟨by rw [zb_f (fun q => q.1 c_1)], rfl⟩ (Nat.le_of_ble_eq_true rfl) (Nat.le_of_ble_eq_true rfl) dX2_isBarcode_30
  · -- 3 on
    rw [lg_cmp_lt] at c_1
    refine lv_aload_n hx hb dX2_isBarcode_6 rfl (lv_at hl 0 rfl) ?_
    refine lv_lload_n hx hb dX2_isBarcode_7 rfl (lv_at hl 1 rfl) ?_
    refine lv_ldc2 (v := 10) hx hb hown (hts _ kw_41) dX2_isBarcode_8 ?_
    refine lv_ldiv hx hb dX2_isBarcode_11 (by decide) ?_
    refine lv_iload_n hx hb dX2_isBarcode_12 rfl (lv_at hl 2 rfl) ?_
    refine z_callV (As := [.long (b / 10), .int dg]) (rest := []) S (c_X2_check l A G M h0 (b / 10) dg) ok_X2_check kw_59 kw_38 kw_39 ⟨Nat.le_of_ble_eq_true rfl, Nat.le_of_ble_eq_true rfl⟩ hK hM hS hA h rfl rfl hl.1 rfl (Nat.le_of_ble_eq_true rfl) dX2_isBarcode_13 ⟨Nat.le_of_ble_eq_true rfl, Nat.le_of_ble_eq_true rfl⟩ (fun r_4 M_2 H locs hp_3 hM hS => ?_)
    obtain ⟨rfl, hM9⟩ := hp_3
    rw [hM9] at hM
    refine W.eq (g2 := F0 m 16 ls [.int (zchk (b / 10) dg)]) rfl ?_
    refine lv_lload_n hx hb dX2_isBarcode_16 rfl (lv_at hl 1 rfl) ?_
    refine lv_ldc2 (v := 10) hx hb hown (hts _ kw_41) dX2_isBarcode_17 ?_
    refine lv_lrem hx hb dX2_isBarcode_20 (by decide) ?_
    refine lv_l2i (v := (b - b / 10 * 10).toInt32) hx hb dX2_isBarcode_21 rfl ?_
    refine lv_icmp_ne (tgt := 29) hx hb dX2_isBarcode_22 (by decide) (fun c_5 => ?_) (fun c_5 => ?_)
    · -- 22 jump
      refine lv_iconst (v := 0) hx hb dX2_isBarcode_29 (by decide) ?_
      exact z_zret S hr hlocks (by decide) hM hS ⟨by rw [zb_f (fun q => c_5 q.2)], rfl⟩ (Nat.le_of_ble_eq_true rfl) (Nat.le_of_ble_eq_true rfl) dX2_isBarcode_30
    · -- 22 on
      refine lv_iconst (v := 1) hx hb dX2_isBarcode_25 (by decide) ?_
      refine lv_goto (tgt := 30) hx hb dX2_isBarcode_26 (by decide) ?_
      exact z_zret S hr hlocks (by decide) hM hS ⟨by rw [zb_t ⟨c_1, c_5⟩], rfl⟩ (Nat.le_of_ble_eq_true rfl) (Nat.le_of_ble_eq_true rfl) dX2_isBarcode_30
set_option maxHeartbeats 4000000 in
set_option maxRecDepth 100000 in
theorem c_X2_isTaken (l : Launch) (A : Nat → Prop) (G : zG) (M : zMap) (h0 cps den fee N : Nat) (ca : Nat → Nat) (cv : Nat → zCV) (ch : Nat → List (Nat × zEV)) (dn fe : Nat → Int32) (gd : Int64) (ec : Nat) (b : Int64) (dg : Int32) (hI : zI G M h0 cps den fee N ca cv ch dn fe gd ec) : zMet l yX2_isTaken cX2_isTaken 6 (some .boolean) { frames := 1, cells := 0, slots := 0, locals := 40 } [.ref h0, .long b, .int dg] A G M (fun r M1 => r = some (.int (zb (zTk N cv b dg))) ∧ M1 = M) := by
  refine zMet.of (by decide) (Nat.le_of_ble_eq_true rfl) ?_
  intro p e s m args below meth c ls S hr hlocks hnm hK hM hA hS hl
  have hl : lv_has ls 6 [(0, .ref h0), (1, .long b), (3, .int dg)] := hl
  have hx := S.1
  have hb := S.2.1
  have hown := S.2.2.2.1
  have hts := S.2.2.2.2
  have hr : meth.sig.returnType = some .boolean := hr
  obtain ⟨h, hc, hd, hf, hdf, hN, hcp, hsep⟩ := id hI
  refine lv_iconst (v := 1) hx hb dX2_isTaken_0 (by decide) ?_
  refine lv_istore (lv' := [(4, .int 1), (0, .ref h0), (1, .long b), (3, .int dg)]) hx hb dX2_isTaken_1 hl (by decide) rfl (fun ls hl => ?_)
  refine z_loop (fun (t : Nat) ls H' locs' => t ≤ N ∧ lv_has ls 6 [(4, .int (nI (t + 1))), (0, .ref h0), (1, .long b), (3, .int dg)] ∧ (∀ i, i < t → ¬ ((cv i).2.1 = b ∧ (cv i).2.2.1 = dg)) ∧ zM A G M H' ∧ va_S A s.heap H' locs') (fun t => N - t) 0 ⟨Nat.zero_le _, hl, fun i hi => absurd hi (Nat.not_lt_zero i), hM, hS⟩ ?_
  rintro t ls H locs ⟨htN0, hl, hno, hM, hS⟩ ih
  refine lv_iload hx hb dX2_isTaken_3 (lv_at hl 0 rfl) ?_
  refine lv_aload_n hx hb dX2_isTaken_5 rfl (lv_at hl 1 rfl) ?_
  refine z_get (v := .int (nI N)) S kX2 hK hM h 1 (by decide) kw_17 rfl dX2_isTaken_6 ?_
  refine lv_icmp_gt (tgt := 52) hx hb dX2_isTaken_9 (by decide) (fun c_1 => ?_) (fun c_1 => ?_)
  · -- 9 jump
    have htN : t = N := by have := (nI_ltI (by omega) (by omega)).mp c_1; omega
    refine lv_iconst (v := 0) hx hb dX2_isTaken_52 (by decide) ?_
    exact z_zret S hr hlocks (by decide) hM hS ⟨by rw [zb_f (fun q => by obtain ⟨i, hi, hm⟩ := q; exact hno i (by omega) hm)], rfl⟩ (Nat.le_of_ble_eq_true rfl) (Nat.le_of_ble_eq_true rfl) dX2_isTaken_53
  · -- 9 on
    have ht : t < N := Nat.lt_of_not_le (fun q => c_1 ((nI_ltI (by omega) (by omega)).mpr (by omega)))
    refine lv_aload_n hx hb dX2_isTaken_12 rfl (lv_at hl 1 rfl) ?_
    refine lv_iload hx hb dX2_isTaken_13 (lv_at hl 0 rfl) ?_
    refine z_callV (As := [.int (nI (t + 1))]) (rest := []) S (c_X2_find l A G M h0 cps (nI N) den fee gd (nI ec) (zF N ca) (nI (t + 1)) h hc) ok_X2_find kw_64 kw_66 ks_2 ⟨Nat.le_of_ble_eq_true rfl, Nat.le_of_ble_eq_true rfl⟩ hK hM hS hA h rfl rfl hl.1 rfl (Nat.le_of_ble_eq_true rfl) dX2_isTaken_15 ⟨Nat.le_of_ble_eq_true rfl, Nat.le_of_ble_eq_true rfl⟩ (fun r_4 M_2 H locs hp_3 hM hS => ?_)
    obtain ⟨rfl, hM9⟩ := hp_3
    rw [hM9] at hM
    rw [zFi_eq hN, zIx_of hN ht]
    refine W.eq (g2 := F0 m 18 ls [.ref (ca t)]) rfl ?_
    have hct := (hcp t ht).1
    refine lv_astore (lv' := [(5, .ref (ca t)), (4, .int (nI (t + 1))), (0, .ref h0), (1, .long b), (3, .int dg)]) hx hb dX2_isTaken_18 hl (by decide) rfl (fun ls hl => ?_)
    refine lv_aload hx hb dX2_isTaken_20 (lv_at hl 0 rfl) ?_
    refine lv_ifnull hx hb dX2_isTaken_22 ?_
    refine lv_aload hx hb dX2_isTaken_25 (lv_at hl 0 rfl) ?_
    refine z_getN (v := .long ((cv t).2.1)) S kX0 hK hM hct 1 (by decide) kw_80 rfl dX2_isTaken_27 ?_
    refine lv_lload_n hx hb dX2_isTaken_30 rfl (lv_at hl 3 rfl) ?_
    refine W.lcmp hx hb dX2_isTaken_31 ?_
    refine lv_if_ne (tgt := 46) hx hb dX2_isTaken_32 (by decide) (fun c_5 => ?_) (fun c_5 => ?_)
    · -- 32 jump
      rw [lg_cmp_eq] at c_5
      refine lv_iinc (v := (nI (t + 1)) + 1) (lv' := [(4, .int ((nI (t + 1)) + 1)), (5, .ref (ca t)), (0, .ref h0), (1, .long b), (3, .int dg)]) hx hb dX2_isTaken_46 hl (k := 1) rfl rfl (by decide) rfl (fun ls hl => ?_)
      refine lv_goto (tgt := 3) hx hb dX2_isTaken_49 (by decide) ?_
      exact ih (t + 1) ls _ _ ⟨by omega, by
        have h7 := lv_sub hl [0, 2, 3, 4] rfl
        rw [← nI_1 (t + 1)]
        exact h7, fun i hi hm => by
          rcases Nat.lt_succ_iff_lt_or_eq.mp hi with h6 | h6
          · exact hno i h6 hm
          · subst h6; exact c_5 hm.1, hM, hS⟩ (by omega)
    · -- 32 on
      rw [lg_cmp_eq] at c_5
      refine lv_aload hx hb dX2_isTaken_35 (lv_at hl 0 rfl) ?_
      refine z_getN (v := .int ((cv t).2.2.1)) S kX0 hK hM hct 2 (by decide) kw_82 rfl dX2_isTaken_37 ?_
      refine lv_iload_n hx hb dX2_isTaken_40 rfl (lv_at hl 4 rfl) ?_
      refine lv_icmp_ne (tgt := 46) hx hb dX2_isTaken_41 (by decide) (fun c_6 => ?_) (fun c_6 => ?_)
      · -- 41 jump
        refine lv_iinc (v := (nI (t + 1)) + 1) (lv' := [(4, .int ((nI (t + 1)) + 1)), (5, .ref (ca t)), (0, .ref h0), (1, .long b), (3, .int dg)]) hx hb dX2_isTaken_46 hl (k := 1) rfl rfl (by decide) rfl (fun ls hl => ?_)
        refine lv_goto (tgt := 3) hx hb dX2_isTaken_49 (by decide) ?_
        exact ih (t + 1) ls _ _ ⟨by omega, by
          have h7 := lv_sub hl [0, 2, 3, 4] rfl
          rw [← nI_1 (t + 1)]
          exact h7, fun i hi hm => by
            rcases Nat.lt_succ_iff_lt_or_eq.mp hi with h6 | h6
            · exact hno i h6 hm
            · subst h6; exact c_6 hm.2, hM, hS⟩ (by omega)
      · -- 41 on
        refine lv_iconst (v := 1) hx hb dX2_isTaken_44 (by decide) ?_
        exact z_zret S hr hlocks (by decide) hM hS ⟨by rw [zb_t ⟨t, ht, c_5, c_6⟩], rfl⟩ (Nat.le_of_ble_eq_true rfl) (Nat.le_of_ble_eq_true rfl) dX2_isTaken_45
set_option maxHeartbeats 4000000 in
set_option maxRecDepth 100000 in
theorem c_X2_count (l : Launch) (A : Nat → Prop) (G : zG) (M : zMap) (h0 cps den fee N : Nat) (ca : Nat → Nat) (cv : Nat → zCV) (ch : Nat → List (Nat × zEV)) (dn fe : Nat → Int32) (gd : Int64) (ec : Nat) (sta hom : Int32) (hI : zI G M h0 cps den fee N ca cv ch dn fe gd ec) : zMet l yX2_count cX2_count 6 (some .int) { frames := 1, cells := 0, slots := 0, locals := 40 } [.ref h0, .int sta, .int hom] A G M (fun r M1 => r = some (.int (zCt cv sta hom N)) ∧ M1 = M) := by
  refine zMet.of (by decide) (Nat.le_of_ble_eq_true rfl) ?_
  intro p e s m args below meth c ls S hr hlocks hnm hK hM hA hS hl
  have hl : lv_has ls 6 [(0, .ref h0), (1, .int sta), (2, .int hom)] := hl
  have hx := S.1
  have hb := S.2.1
  have hown := S.2.2.2.1
  have hts := S.2.2.2.2
  have hr : meth.sig.returnType = some .int := hr
  obtain ⟨h, hc, hd, hf, hdf, hN, hcp, hsep⟩ := id hI
  refine lv_iconst (v := 0) hx hb dX2_count_0 (by decide) ?_
  refine lv_istore_n (lv' := [(3, .int 0), (0, .ref h0), (1, .int sta), (2, .int hom)]) hx hb dX2_count_1 rfl hl (by decide) rfl (fun ls hl => ?_)
  refine lv_iconst (v := 1) hx hb dX2_count_2 (by decide) ?_
  refine lv_istore (lv' := [(4, .int 1), (3, .int 0), (0, .ref h0), (1, .int sta), (2, .int hom)]) hx hb dX2_count_3 hl (by decide) rfl (fun ls hl => ?_)
  refine z_loop (fun (t : Nat) ls H' locs' => t ≤ N ∧ lv_has ls 6 [(3, .int (zCt cv sta hom t)), (4, .int (nI (t + 1))), (0, .ref h0), (1, .int sta), (2, .int hom)] ∧ zM A G M H' ∧ va_S A s.heap H' locs') (fun t => N - t) 0 ⟨Nat.zero_le _, lv_sub hl [1, 0, 2, 3, 4] rfl, hM, hS⟩ ?_
  rintro t ls H locs ⟨htN0, hl, hM, hS⟩ ih
  refine lv_iload hx hb dX2_count_5 (lv_at hl 1 rfl) ?_
  refine lv_aload_n hx hb dX2_count_7 rfl (lv_at hl 2 rfl) ?_
  refine z_get (v := .int (nI N)) S kX2 hK hM h 1 (by decide) kw_17 rfl dX2_count_8 ?_
  refine lv_icmp_gt (tgt := 59) hx hb dX2_count_11 (by decide) (fun c_1 => ?_) (fun c_1 => ?_)
  · -- 11 jump
    have htN : t = N := by have := (nI_ltI (by omega) (by omega)).mp c_1; omega
    refine lv_iload_n hx hb dX2_count_59 rfl (lv_at hl 0 rfl) ?_
    exact z_iret S hr hlocks hM hS ⟨by rw [htN], rfl⟩ (Nat.le_of_ble_eq_true rfl) (Nat.le_of_ble_eq_true rfl) dX2_count_60
  · -- 11 on
    have ht : t < N := Nat.lt_of_not_le (fun q => c_1 ((nI_ltI (by omega) (by omega)).mpr (by omega)))
    refine lv_aload_n hx hb dX2_count_14 rfl (lv_at hl 2 rfl) ?_
    refine lv_iload hx hb dX2_count_15 (lv_at hl 1 rfl) ?_
    refine z_callV (As := [.int (nI (t + 1))]) (rest := []) S (c_X2_find l A G M h0 cps (nI N) den fee gd (nI ec) (zF N ca) (nI (t + 1)) h hc) ok_X2_find kw_64 kw_66 ks_2 ⟨Nat.le_of_ble_eq_true rfl, Nat.le_of_ble_eq_true rfl⟩ hK hM hS hA h rfl rfl hl.1 rfl (Nat.le_of_ble_eq_true rfl) dX2_count_17 ⟨Nat.le_of_ble_eq_true rfl, Nat.le_of_ble_eq_true rfl⟩ (fun r_4 M_2 H locs hp_3 hM hS => ?_)
    obtain ⟨rfl, hM9⟩ := hp_3
    rw [hM9] at hM
    rw [zFi_eq hN, zIx_of hN ht]
    refine W.eq (g2 := F0 m 20 ls [.ref (ca t)]) rfl ?_
    have hct := (hcp t ht).1
    refine lv_astore (lv' := [(5, .ref (ca t)), (3, .int (zCt cv sta hom t)), (4, .int (nI (t + 1))), (0, .ref h0), (1, .int sta), (2, .int hom)]) hx hb dX2_count_20 hl (by decide) rfl (fun ls hl => ?_)
    refine lv_aload hx hb dX2_count_22 (lv_at hl 0 rfl) ?_
    refine lv_ifnull hx hb dX2_count_24 ?_
    refine lv_aload hx hb dX2_count_27 (lv_at hl 0 rfl) ?_
    refine z_getN (v := .int ((cv t).2.2.2.2.2.1)) S kX0 hK hM hct 5 (by decide) kw_88 rfl dX2_count_29 ?_
    refine lv_iload_n hx hb dX2_count_32 rfl (lv_at hl 4 rfl) ?_
    refine lv_icmp_ne (tgt := 53) hx hb dX2_count_33 (by decide) (fun c_5 => ?_) (fun c_5 => ?_)
    · -- 33 jump
      refine lv_iinc (v := (nI (t + 1)) + 1) (lv' := [(4, .int ((nI (t + 1)) + 1)), (5, .ref (ca t)), (3, .int (zCt cv sta hom t)), (0, .ref h0), (1, .int sta), (2, .int hom)]) hx hb dX2_count_53 hl (k := 2) rfl rfl (by decide) rfl (fun ls hl => ?_)
      refine lv_goto (tgt := 5) hx hb dX2_count_56 (by decide) ?_
      exact ih (t + 1) ls _ _ ⟨by omega, by
        have h7 := lv_sub hl [2, 0, 3, 4, 5] rfl
        rw [← nI_1 (t + 1), zCt, if_neg (fun q => c_5 q.1), Int32.add_zero]
        exact h7, hM, hS⟩ (by omega)
    · -- 33 on
      refine lv_iload_n hx hb dX2_count_36 rfl (lv_at hl 5 rfl) ?_
      refine lv_iconst (v := -1) hx hb dX2_count_37 (by decide) ?_
      refine lv_icmp_eq (tgt := 50) hx hb dX2_count_38 (by decide) (fun c_6 => ?_) (fun c_6 => ?_)
      · -- 38 jump
        refine lv_iinc (v := (zCt cv sta hom t) + 1) (lv' := [(3, .int ((zCt cv sta hom t) + 1)), (5, .ref (ca t)), (4, .int (nI (t + 1))), (0, .ref h0), (1, .int sta), (2, .int hom)]) hx hb dX2_count_50 hl (k := 1) rfl rfl (by decide) rfl (fun ls hl => ?_)
        refine lv_iinc (v := (nI (t + 1)) + 1) (lv' := [(4, .int ((nI (t + 1)) + 1)), (3, .int ((zCt cv sta hom t) + 1)), (5, .ref (ca t)), (0, .ref h0), (1, .int sta), (2, .int hom)]) hx hb dX2_count_53 hl (k := 2) rfl rfl (by decide) rfl (fun ls hl => ?_)
        refine lv_goto (tgt := 5) hx hb dX2_count_56 (by decide) ?_
        exact ih (t + 1) ls _ _ ⟨by omega, by
          have h7 := lv_sub hl [1, 0, 3, 4, 5] rfl
          rw [← nI_1 (t + 1), zCt, if_pos ⟨c_5, Or.inl c_6⟩]
          exact h7, hM, hS⟩ (by omega)
      · -- 38 on
        refine lv_aload hx hb dX2_count_41 (lv_at hl 0 rfl) ?_
        refine z_getN (v := .int ((cv t).2.2.2.1)) S kX0 hK hM hct 3 (by decide) kw_84 rfl dX2_count_43 ?_
        refine lv_iload_n hx hb dX2_count_46 rfl (lv_at hl 5 rfl) ?_
        refine lv_icmp_ne (tgt := 53) hx hb dX2_count_47 (by decide) (fun c_7 => ?_) (fun c_7 => ?_)
        · -- 47 jump
          refine lv_iinc (v := (nI (t + 1)) + 1) (lv' := [(4, .int ((nI (t + 1)) + 1)), (5, .ref (ca t)), (3, .int (zCt cv sta hom t)), (0, .ref h0), (1, .int sta), (2, .int hom)]) hx hb dX2_count_53 hl (k := 2) rfl rfl (by decide) rfl (fun ls hl => ?_)
          refine lv_goto (tgt := 5) hx hb dX2_count_56 (by decide) ?_
          exact ih (t + 1) ls _ _ ⟨by omega, by
            have h7 := lv_sub hl [2, 0, 3, 4, 5] rfl
            rw [← nI_1 (t + 1), zCt, if_neg (fun q => q.2.elim c_6 c_7), Int32.add_zero]
            exact h7, hM, hS⟩ (by omega)
        · -- 47 on
          refine lv_iinc (v := (zCt cv sta hom t) + 1) (lv' := [(3, .int ((zCt cv sta hom t) + 1)), (5, .ref (ca t)), (4, .int (nI (t + 1))), (0, .ref h0), (1, .int sta), (2, .int hom)]) hx hb dX2_count_50 hl (k := 1) rfl rfl (by decide) rfl (fun ls hl => ?_)
          refine lv_iinc (v := (nI (t + 1)) + 1) (lv' := [(4, .int ((nI (t + 1)) + 1)), (3, .int ((zCt cv sta hom t) + 1)), (5, .ref (ca t)), (0, .ref h0), (1, .int sta), (2, .int hom)]) hx hb dX2_count_53 hl (k := 2) rfl rfl (by decide) rfl (fun ls hl => ?_)
          refine lv_goto (tgt := 5) hx hb dX2_count_56 (by decide) ?_
          exact ih (t + 1) ls _ _ ⟨by omega, by
            have h7 := lv_sub hl [1, 0, 3, 4, 5] rfl
            rw [← nI_1 (t + 1), zCt, if_pos ⟨c_5, Or.inr c_7⟩]
            exact h7, hM, hS⟩ (by omega)
set_option maxHeartbeats 4000000 in
set_option maxRecDepth 100000 in
theorem c_X2_history (l : Launch) (A : Nat → Prop) (G : zG) (M : zMap) (h0 cps den fee N : Nat) (ca : Nat → Nat) (cv : Nat → zCV) (ch : Nat → List (Nat × zEV)) (dn fe : Nat → Int32) (gd : Int64) (ec : Nat) (k i what : Int32) (hI : zI G M h0 cps den fee N ca cv ch dn fe gd ec) : zMet l yX2_history cX2_history 7 (some .int) { frames := 1, cells := 0, slots := 0, locals := 40 } [.ref h0, .int k, .int i, .int what] A G M (fun r M1 => r = some (.int (zsel N k (-1) (fun j => zHi (ch j) i what))) ∧ M1 = M) := by
  refine zMet.of (by decide) (Nat.le_of_ble_eq_true rfl) ?_
  intro p e s m args below meth c ls S hr hlocks hnm hK hM hA hS hl
  have hl : lv_has ls 7 [(0, .ref h0), (1, .int k), (2, .int i), (3, .int what)] := hl
  have hx := S.1
  have hb := S.2.1
  have hown := S.2.2.2.1
  have hts := S.2.2.2.2
  have hr : meth.sig.returnType = some .int := hr
  obtain ⟨h, hc, hd, hf, hdf, hN, hcp, hsep⟩ := id hI
  refine lv_aload_n hx hb dX2_history_0 rfl (lv_at hl 0 rfl) ?_
  refine lv_iload_n hx hb dX2_history_1 rfl (lv_at hl 1 rfl) ?_
  refine z_callV (As := [.int k]) (rest := []) S (c_X2_find l A G M h0 cps (nI N) den fee gd (nI ec) (zF N ca) k h hc) ok_X2_find kw_64 kw_66 ks_2 ⟨Nat.le_of_ble_eq_true rfl, Nat.le_of_ble_eq_true rfl⟩ hK hM hS hA h rfl rfl hl.1 rfl (Nat.le_of_ble_eq_true rfl) dX2_history_2 ⟨Nat.le_of_ble_eq_true rfl, Nat.le_of_ble_eq_true rfl⟩ (fun r_3 M_1 H locs hp_2 hM hS => ?_)
  obtain ⟨rfl, hM9⟩ := hp_2
  rw [hM9] at hM
  rw [zFi_eq hN]
  refine W.eq (g2 := F0 m 5 ls [va_rf ((zIx N k).map ca)]) rfl ?_
  rcases hz : zIx N k with _ | j
  · refine W.eq (g2 := F0 m 5 ls [.null]) rfl ?_
    refine lv_astoreN (lv' := [(4, .null), (0, .ref h0), (1, .int k), (2, .int i), (3, .int what)]) hx hb dX2_history_5 hl (by decide) rfl (fun ls hl => ?_)
    refine lv_aloadN hx hb dX2_history_7 (lv_at hl 0 rfl) ?_
    refine lv_ifnullN (tgt := 25) hx hb dX2_history_9 (by decide) ?_
    refine lv_iconst (v := -1) hx hb dX2_history_25 (by decide) ?_
    exact z_iret S hr hlocks hM hS ⟨by unfold zsel; rw [hz], rfl⟩ (Nat.le_of_ble_eq_true rfl) (Nat.le_of_ble_eq_true rfl) dX2_history_26
  · refine W.eq (g2 := F0 m 5 ls [.ref (ca j)]) rfl ?_
    have hj := (zIx_some hN hz).1
    have hcj := (hcp j hj).1
    refine lv_astore (lv' := [(4, .ref (ca j)), (0, .ref h0), (1, .int k), (2, .int i), (3, .int what)]) hx hb dX2_history_5 hl (by decide) rfl (fun ls hl => ?_)
    refine lv_aload hx hb dX2_history_7 (lv_at hl 0 rfl) ?_
    refine lv_ifnull hx hb dX2_history_9 ?_
    refine lv_iload_n hx hb dX2_history_12 rfl (lv_at hl 3 rfl) ?_
    refine lv_if_lt (tgt := 25) hx hb dX2_history_13 (by decide) (fun c_4 => ?_) (fun c_4 => ?_)
    · -- 13 jump
      refine lv_iconst (v := -1) hx hb dX2_history_25 (by decide) ?_
      exact z_iret S hr hlocks hM hS ⟨by rw [zsel_s hz]; unfold zHi; rw [if_pos c_4], rfl⟩ (Nat.le_of_ble_eq_true rfl) (Nat.le_of_ble_eq_true rfl) dX2_history_26
    · -- 13 on
      refine lv_iload_n hx hb dX2_history_16 rfl (lv_at hl 4 rfl) ?_
      refine lv_if_lt (tgt := 25) hx hb dX2_history_17 (by decide) (fun c_5 => ?_) (fun c_5 => ?_)
      · -- 17 jump
        refine lv_iconst (v := -1) hx hb dX2_history_25 (by decide) ?_
        exact z_iret S hr hlocks hM hS ⟨by rw [zsel_s hz]; unfold zHi; rw [if_neg c_4, if_pos c_5], rfl⟩ (Nat.le_of_ble_eq_true rfl) (Nat.le_of_ble_eq_true rfl) dX2_history_26
      · -- 17 on
        refine lv_iload_n hx hb dX2_history_20 rfl (lv_at hl 4 rfl) ?_
        refine lv_iconst (v := 1) hx hb dX2_history_21 (by decide) ?_
        refine lv_icmp_le (tgt := 27) hx hb dX2_history_22 (by decide) (fun c_6 => ?_) (fun c_6 => ?_)
        · -- 22 jump
          refine lv_aload hx hb dX2_history_27 (lv_at hl 0 rfl) ?_
          refine z_getN (v := va_rf (zHd (ch j))) S kX0 hK hM hcj 9 (by decide) kw_96 rfl dX2_history_29 ?_
          refine z_astoreq (lv' := [(5, va_rf (zHd (ch j))), (4, .ref (ca j)), (0, .ref h0), (1, .int k), (2, .int i), (3, .int what)]) hx hb dX2_history_32 hl (by decide) rfl (fun ls hl => ?_)
          refine lv_iconst (v := 0) hx hb dX2_history_34 (by decide) ?_
          refine lv_istore (lv' := [(6, .int 0), (5, va_rf (zHd (ch j))), (4, .ref (ca j)), (0, .ref h0), (1, .int k), (2, .int i), (3, .int what)]) hx hb dX2_history_35 hl (by decide) (by simp [z_cat1]) (fun ls hl => ?_)
          obtain ⟨K, hK31, rfl⟩ := nI_of c_4
          refine z_loop (fun (t : Nat) ls H' locs' => t ≤ K ∧ lv_has ls 7 [(6, .int (nI t)), (5, va_rf (zHd ((ch j).drop t))), (4, .ref (ca j)), (0, .ref h0), (1, .int k), (2, .int (nI K)), (3, .int what)] ∧ zM A G M H' ∧ va_S A s.heap H' locs') (fun t => K - t) 0 ⟨Nat.zero_le _, hl, hM, hS⟩ ?_
          rintro t ls H locs ⟨htK, hl, hM, hS⟩ ih
          rcases hdr : (ch j).drop t with _ | ⟨x, R⟩
          · rw [hdr] at hl
            have hl : lv_has ls 7 [(6, .int (nI t)), (5, .null), (4, .ref (ca j)), (0, .ref h0), (1, .int k), (2, .int (nI K)), (3, .int what)] := hl
            refine lv_iload hx hb dX2_history_37 (lv_at hl 0 rfl) ?_
            refine lv_iload_n hx hb dX2_history_39 rfl (lv_at hl 5 rfl) ?_
            refine lv_icmp_ge (tgt := 61) hx hb dX2_history_40 (by decide) (fun c_7 => ?_) (fun c_7 => ?_)
            · -- 40 jump
              have htK2 : t = K := by have := (nI_leI (by omega) (by omega)).mp c_7; omega
              refine lv_aloadN hx hb dX2_history_61 (lv_at hl 1 rfl) ?_
              refine lv_ifnonnullN hx hb dX2_history_63 ?_
              refine lv_iconst (v := -1) hx hb dX2_history_66 (by decide) ?_
              exact z_iret S hr hlocks hM hS ⟨by rw [zsel_s hz]; rw [zHi_in (L := ch j) hK31 c_5 c_6]; rw [List.getElem?_eq_none (by have h6 := List.drop_eq_nil_iff.mp hdr; omega)], rfl⟩ (Nat.le_of_ble_eq_true rfl) (Nat.le_of_ble_eq_true rfl) dX2_history_67
            · -- 40 on
              have hti : t + 1 ≤ K := Nat.lt_of_not_le (fun q => c_7 (nI_le q (by omega)))
              refine lv_aloadN hx hb dX2_history_43 (lv_at hl 1 rfl) ?_
              refine lv_ifnullN (tgt := 61) hx hb dX2_history_45 (by decide) ?_
              refine lv_aloadN hx hb dX2_history_61 (lv_at hl 1 rfl) ?_
              refine lv_ifnonnullN hx hb dX2_history_63 ?_
              refine lv_iconst (v := -1) hx hb dX2_history_66 (by decide) ?_
              exact z_iret S hr hlocks hM hS ⟨by rw [zsel_s hz]; rw [zHi_in (L := ch j) hK31 c_5 c_6]; rw [List.getElem?_eq_none (by have h6 := List.drop_eq_nil_iff.mp hdr; omega)], rfl⟩ (Nat.le_of_ble_eq_true rfl) (Nat.le_of_ble_eq_true rfl) dX2_history_67
          · rw [hdr] at hl
            have hl : lv_has ls 7 [(6, .int (nI t)), (5, .ref x.1), (4, .ref (ca j)), (0, .ref h0), (1, .int k), (2, .int (nI K)), (3, .int what)] := hl
            have hxe : M x.1 = some (oE x.2.1 x.2.2.1 x.2.2.2 (zHd R)) := by
              have h9 := (hcp j hj).2.1
              rw [← List.take_append_drop t (ch j), hdr] at h9
              exact h9.mid.1
            refine lv_iload hx hb dX2_history_37 (lv_at hl 0 rfl) ?_
            refine lv_iload_n hx hb dX2_history_39 rfl (lv_at hl 5 rfl) ?_
            refine lv_icmp_ge (tgt := 61) hx hb dX2_history_40 (by decide) (fun c_8 => ?_) (fun c_8 => ?_)
            · -- 40 jump
              have htK2 : t = K := by have := (nI_leI (by omega) (by omega)).mp c_8; omega
              refine lv_aload hx hb dX2_history_61 (lv_at hl 1 rfl) ?_
              refine lv_ifnonnull (tgt := 68) hx hb dX2_history_63 (by decide) ?_
              refine lv_iload_n hx hb dX2_history_68 rfl (lv_at hl 6 rfl) ?_
              refine lv_if_ne (tgt := 78) hx hb dX2_history_69 (by decide) (fun c_9 => ?_) (fun c_9 => ?_)
              · -- 69 jump
                refine lv_aload hx hb dX2_history_78 (lv_at hl 1 rfl) ?_
                refine z_getN (v := .int x.2.2.2) S kX1 hK hM hxe 2 (by decide) kw_160 rfl dX2_history_80 ?_
                refine lv_if_eq (tgt := 90) hx hb dX2_history_83 (by decide) (fun c_10 => ?_) (fun c_10 => ?_)
                · -- 83 jump
                  refine lv_iconst (v := 0) hx hb dX2_history_90 (by decide) ?_
                  exact z_iret S hr hlocks hM hS ⟨by rw [zsel_s hz]; rw [zHi_in (L := ch j) hK31 c_5 c_6]; rw [← htK2, zdrop0 hdr]; exact congrArg some (congrArg Value.int (((if_neg c_9).trans (zb_f (fun q => q c_10))).symm)), rfl⟩ (Nat.le_of_ble_eq_true rfl) (Nat.le_of_ble_eq_true rfl) dX2_history_91
                · -- 83 on
                  refine lv_iconst (v := 1) hx hb dX2_history_86 (by decide) ?_
                  refine lv_goto (tgt := 91) hx hb dX2_history_87 (by decide) ?_
                  exact z_iret S hr hlocks hM hS ⟨by rw [zsel_s hz]; rw [zHi_in (L := ch j) hK31 c_5 c_6]; rw [← htK2, zdrop0 hdr]; exact congrArg some (congrArg Value.int (((if_neg c_9).trans (zb_t c_10)).symm)), rfl⟩ (Nat.le_of_ble_eq_true rfl) (Nat.le_of_ble_eq_true rfl) dX2_history_91
              · -- 69 on
                refine lv_aload hx hb dX2_history_72 (lv_at hl 1 rfl) ?_
                refine z_getN (v := .int x.2.2.1) S kX1 hK hM hxe 1 (by decide) kw_158 rfl dX2_history_74 ?_
                exact z_iret S hr hlocks hM hS ⟨by rw [zsel_s hz]; rw [zHi_in (L := ch j) hK31 c_5 c_6]; rw [← htK2, zdrop0 hdr]; exact congrArg some (congrArg Value.int (if_pos c_9).symm), rfl⟩ (Nat.le_of_ble_eq_true rfl) (Nat.le_of_ble_eq_true rfl) dX2_history_77
            · -- 40 on
              have hti : t + 1 ≤ K := Nat.lt_of_not_le (fun q => c_8 (nI_le q (by omega)))
              refine lv_aload hx hb dX2_history_43 (lv_at hl 1 rfl) ?_
              refine lv_ifnull hx hb dX2_history_45 ?_
              refine lv_aload hx hb dX2_history_48 (lv_at hl 1 rfl) ?_
              refine z_getN (v := va_rf (zHd R)) S kX1 hK hM hxe 3 (by decide) kw_162 rfl dX2_history_50 ?_
              refine z_astoreq (lv' := [(5, va_rf (zHd R)), (6, .int (nI t)), (4, .ref (ca j)), (0, .ref h0), (1, .int k), (2, .int (nI K)), (3, .int what)]) hx hb dX2_history_53 hl (by decide) rfl (fun ls hl => ?_)
              refine lv_iinc (v := (nI t) + 1) (lv' := [(6, .int ((nI t) + 1)), (5, va_rf (zHd R)), (4, .ref (ca j)), (0, .ref h0), (1, .int k), (2, .int (nI K)), (3, .int what)]) hx hb dX2_history_55 hl (k := 1) rfl rfl (by decide) (by simp [z_cat1]) (fun ls hl => ?_)
              refine lv_goto (tgt := 37) hx hb dX2_history_58 (by decide) ?_
              exact ih (t + 1) ls _ _ ⟨hti, by
                have h7 := lv_sub hl [0, 1, 2, 3, 4, 5, 6] rfl
                rw [← nI_1 t, zdrop1 hdr]
                exact h7, hM, hS⟩ (by omega)
        · -- 22 on
          refine lv_iconst (v := -1) hx hb dX2_history_25 (by decide) ?_
          exact z_iret S hr hlocks hM hS ⟨by rw [zsel_s hz]; unfold zHi; rw [if_neg c_4, if_neg c_5, if_pos (Int32.not_le.mp c_6)], rfl⟩ (Nat.le_of_ble_eq_true rfl) (Nat.le_of_ble_eq_true rfl) dX2_history_26
end
section
set_option maxHeartbeats 4000000 in
set_option maxRecDepth 100000 in
theorem c_X2_init (l : Launch) (A : Nat → Prop) (G : zG) (M : zMap) (h0 : Nat) (w0 : Option Nat) (w1 : Int32) (w2 w3 : Option Nat) (w4 : Int64) (w5 : Int32) (cv : Nat → zCV) (h : M h0 = some (.inr (2, [va_rf w0, .int w1, va_rf w2, va_rf w3, .long w4, .int w5]))) : zMet l yX2_init cX2_init 1 none { frames := 1, cells := 3, slots := 146, locals := 40 } [.ref h0] A G M (fun r M1 => r = none ∧ ∃ (cps den fee : Nat) (ca : Nat → Nat), zI G M1 h0 cps den fee 0 ca cv (fun _ => []) (fun _ => 0) (fun _ => 0) 0 0) := by
  refine zMet.of (by decide) (Nat.le_of_ble_eq_true rfl) ?_
  intro p e s m args below meth c ls S hr hlocks hnm hK hM hA hS hl
  have hl : lv_has ls 1 [(0, .ref h0)] := hl
  have hx := S.1
  have hb := S.2.1
  have hown := S.2.2.2.1
  have hts := S.2.2.2.2
  have hr : meth.sig.returnType = none := hr
  have hnm : meth.name = "<init>" := hnm
  refine lv_aload_n hx hb dX2_init_0 rfl (lv_at hl 0 rfl) ?_
  refine z_objInit S hl.1 kw_11 kw_12 kw_13 dX2_init_1 (Nat.le_of_ble_eq_true rfl) (Nat.le_of_ble_eq_true rfl) ?_
  refine lv_aload_n hx hb dX2_init_4 rfl (lv_at hl 0 rfl) ?_
  refine lv_bipush (v := 80) hx hb dX2_init_5 (by decide) ?_
  refine z_newq (N' := 80) S hK hM hS hA kw_14 kw_15 2 rfl (by decide) (by decide) (by decide) (Nat.le_of_ble_eq_true rfl) (Nat.le_of_ble_eq_true rfl) dX2_init_7 (fun q_1 H hq_2 hAq_3 hM hS => ?_)
  obtain ⟨M_4, eM_5⟩ : ∃ z : zMap, z = zu M q_1 (.inl (G.2.2 2, 80, .inr (.inr (.inr (.inr (fun _ => none)))))) := ⟨_, rfl⟩
  replace hM : zM A G M_4 H := by rw [eM_5]; exact hM
  have he_6 : M_4 q_1 = some (.inl (G.2.2 2, 80, .inr (.inr (.inr (.inr (fun _ => none)))))) := by rw [eM_5]; exact zu_s _ _ _
  have he_7 := (show M_4 h0 = M h0 by rw [eM_5]; exact zu_n (znf h hq_2)).trans h
  refine z_putF S kX2 hK hM hS he_7 0 (by decide) kw_16 rfl hnm rfl rfl rfl (Nat.le_of_ble_eq_true rfl) dX2_init_10 (fun H locs hM hS => ?_)
  obtain ⟨M_8, eM_9⟩ : ∃ z : zMap, z = zu M_4 h0 (.inr (2, [.ref q_1, .int w1, va_rf w2, va_rf w3, .long w4, .int w5])) := ⟨_, rfl⟩
  replace hM : zM A G M_8 H := by rw [eM_9]; exact hM
  have he_10 : M_8 h0 = some (.inr (2, [.ref q_1, .int w1, va_rf w2, va_rf w3, .long w4, .int w5])) := by rw [eM_9]; exact zu_s _ _ _
  have he_11 := (show M_8 q_1 = M_4 q_1 by rw [eM_9]; exact zu_n (zne he_6 he_7 (by simp))).trans he_6
  refine lv_aload_n hx hb dX2_init_13 rfl (lv_at hl 0 rfl) ?_
  refine lv_iconst (v := 0) hx hb dX2_init_14 (by decide) ?_
  refine z_put S kX2 hK hM hS he_10 1 (by decide) kw_17 rfl rfl rfl (Nat.le_of_ble_eq_true rfl) dX2_init_15 (fun H locs hM hS => ?_)
  obtain ⟨M_12, eM_13⟩ : ∃ z : zMap, z = zu M_8 h0 (.inr (2, [.ref q_1, .int 0, va_rf w2, va_rf w3, .long w4, .int w5])) := ⟨_, rfl⟩
  replace hM : zM A G M_12 H := by rw [eM_13]; exact hM
  have he_14 : M_12 h0 = some (.inr (2, [.ref q_1, .int 0, va_rf w2, va_rf w3, .long w4, .int w5])) := by rw [eM_13]; exact zu_s _ _ _
  have he_15 := (show M_12 q_1 = M_8 q_1 by rw [eM_13]; exact zu_n (zne he_11 he_10 (by simp))).trans he_11
  refine lv_aload_n hx hb dX2_init_18 rfl (lv_at hl 0 rfl) ?_
  refine lv_bipush (v := 60) hx hb dX2_init_19 (by decide) ?_
  refine z_newa (atype := .boolean) (N' := 60) (a0 := (60, .inl (fun _ => 0))) S hK hM hS hA kw_35 rfl 1 rfl (fun C h9 => by cases h9) (fun _ => rfl) (by decide) (by decide) (by decide) (Nat.le_of_ble_eq_true rfl) (Nat.le_of_ble_eq_true rfl) dX2_init_21 (fun q_16 H hq_17 hAq_18 hM hS => ?_)
  obtain ⟨M_19, eM_20⟩ : ∃ z : zMap, z = zu M_12 q_16 (.inl (G.2.2 1, 60, .inl (fun _ => 0))) := ⟨_, rfl⟩
  replace hM : zM A G M_19 H := by rw [eM_20]; exact hM
  have hn_21 : q_1 ≠ q_16 := znf he_15 hq_17
  have he_22 : M_19 q_16 = some (.inl (G.2.2 1, 60, .inl (fun _ => 0))) := by rw [eM_20]; exact zu_s _ _ _
  have he_23 := (show M_19 h0 = M_12 h0 by rw [eM_20]; exact zu_n (znf he_14 hq_17)).trans he_14
  have he_24 := (show M_19 q_1 = M_12 q_1 by rw [eM_20]; exact zu_n (znf he_15 hq_17)).trans he_15
  refine z_putF S kX2 hK hM hS he_23 2 (by decide) kw_18 rfl hnm rfl rfl rfl (Nat.le_of_ble_eq_true rfl) dX2_init_23 (fun H locs hM hS => ?_)
  obtain ⟨M_25, eM_26⟩ : ∃ z : zMap, z = zu M_19 h0 (.inr (2, [.ref q_1, .int 0, .ref q_16, va_rf w3, .long w4, .int w5])) := ⟨_, rfl⟩
  replace hM : zM A G M_25 H := by rw [eM_26]; exact hM
  have he_27 : M_25 h0 = some (.inr (2, [.ref q_1, .int 0, .ref q_16, va_rf w3, .long w4, .int w5])) := by rw [eM_26]; exact zu_s _ _ _
  have he_28 := (show M_25 q_1 = M_19 q_1 by rw [eM_26]; exact zu_n (zne he_24 he_23 (by simp))).trans he_24
  have he_29 := (show M_25 q_16 = M_19 q_16 by rw [eM_26]; exact zu_n (zne he_22 he_23 (by simp))).trans he_22
  refine lv_aload_n hx hb dX2_init_26 rfl (lv_at hl 0 rfl) ?_
  refine lv_bipush (v := 6) hx hb dX2_init_27 (by decide) ?_
  refine z_newa (atype := .int) (N' := 6) (a0 := (6, .inl (fun _ => 0))) S hK hM hS hA kw_36 rfl 0 rfl (fun C h9 => by cases h9) (fun _ => rfl) (by decide) (by decide) (by decide) (Nat.le_of_ble_eq_true rfl) (Nat.le_of_ble_eq_true rfl) dX2_init_29 (fun q_30 H hq_31 hAq_32 hM hS => ?_)
  obtain ⟨M_33, eM_34⟩ : ∃ z : zMap, z = zu M_25 q_30 (.inl (G.2.2 0, 6, .inl (fun _ => 0))) := ⟨_, rfl⟩
  replace hM : zM A G M_33 H := by rw [eM_34]; exact hM
  have hn_35 : q_1 ≠ q_30 := znf he_28 hq_31
  have hn_36 : q_16 ≠ q_30 := znf he_29 hq_31
  have he_37 : M_33 q_30 = some (.inl (G.2.2 0, 6, .inl (fun _ => 0))) := by rw [eM_34]; exact zu_s _ _ _
  have he_38 := (show M_33 h0 = M_25 h0 by rw [eM_34]; exact zu_n (znf he_27 hq_31)).trans he_27
  have he_39 := (show M_33 q_1 = M_25 q_1 by rw [eM_34]; exact zu_n (znf he_28 hq_31)).trans he_28
  have he_40 := (show M_33 q_16 = M_25 q_16 by rw [eM_34]; exact zu_n (znf he_29 hq_31)).trans he_29
  refine z_putF S kX2 hK hM hS he_38 3 (by decide) kw_19 rfl hnm rfl rfl rfl (Nat.le_of_ble_eq_true rfl) dX2_init_31 (fun H locs hM hS => ?_)
  obtain ⟨M_41, eM_42⟩ : ∃ z : zMap, z = zu M_33 h0 (.inr (2, [.ref q_1, .int 0, .ref q_16, .ref q_30, .long w4, .int w5])) := ⟨_, rfl⟩
  replace hM : zM A G M_41 H := by rw [eM_42]; exact hM
  have he_43 : M_41 h0 = some (.inr (2, [.ref q_1, .int 0, .ref q_16, .ref q_30, .long w4, .int w5])) := by rw [eM_42]; exact zu_s _ _ _
  have he_44 := (show M_41 q_1 = M_33 q_1 by rw [eM_42]; exact zu_n (zne he_39 he_38 (by simp))).trans he_39
  have he_45 := (show M_41 q_16 = M_33 q_16 by rw [eM_42]; exact zu_n (zne he_40 he_38 (by simp))).trans he_40
  have he_46 := (show M_41 q_30 = M_33 q_30 by rw [eM_42]; exact zu_n (zne he_37 he_38 (by simp))).trans he_37
  refine lv_aload_n hx hb dX2_init_34 rfl (lv_at hl 0 rfl) ?_
  refine lv_lconst (v := 0) hx hb dX2_init_35 (by decide) ?_
  refine z_put S kX2 hK hM hS he_43 4 (by decide) kw_20 rfl rfl rfl (Nat.le_of_ble_eq_true rfl) dX2_init_36 (fun H locs hM hS => ?_)
  obtain ⟨M_47, eM_48⟩ : ∃ z : zMap, z = zu M_41 h0 (.inr (2, [.ref q_1, .int 0, .ref q_16, .ref q_30, .long 0, .int w5])) := ⟨_, rfl⟩
  replace hM : zM A G M_47 H := by rw [eM_48]; exact hM
  have he_49 : M_47 h0 = some (.inr (2, [.ref q_1, .int 0, .ref q_16, .ref q_30, .long 0, .int w5])) := by rw [eM_48]; exact zu_s _ _ _
  have he_50 := (show M_47 q_1 = M_41 q_1 by rw [eM_48]; exact zu_n (zne he_44 he_43 (by simp))).trans he_44
  have he_51 := (show M_47 q_16 = M_41 q_16 by rw [eM_48]; exact zu_n (zne he_45 he_43 (by simp))).trans he_45
  have he_52 := (show M_47 q_30 = M_41 q_30 by rw [eM_48]; exact zu_n (zne he_46 he_43 (by simp))).trans he_46
  refine lv_aload_n hx hb dX2_init_39 rfl (lv_at hl 0 rfl) ?_
  refine lv_iconst (v := 0) hx hb dX2_init_40 (by decide) ?_
  refine z_put S kX2 hK hM hS he_49 5 (by decide) kw_21 rfl rfl rfl (Nat.le_of_ble_eq_true rfl) dX2_init_41 (fun H locs hM hS => ?_)
  obtain ⟨M_53, eM_54⟩ : ∃ z : zMap, z = zu M_47 h0 (.inr (2, [.ref q_1, .int 0, .ref q_16, .ref q_30, .long 0, .int 0])) := ⟨_, rfl⟩
  replace hM : zM A G M_53 H := by rw [eM_54]; exact hM
  have he_55 : M_53 h0 = some (.inr (2, [.ref q_1, .int 0, .ref q_16, .ref q_30, .long 0, .int 0])) := by rw [eM_54]; exact zu_s _ _ _
  have he_56 := (show M_53 q_1 = M_47 q_1 by rw [eM_54]; exact zu_n (zne he_50 he_49 (by simp))).trans he_50
  have he_57 := (show M_53 q_16 = M_47 q_16 by rw [eM_54]; exact zu_n (zne he_51 he_49 (by simp))).trans he_51
  have he_58 := (show M_53 q_30 = M_47 q_30 by rw [eM_54]; exact zu_n (zne he_52 he_49 (by simp))).trans he_52
  exact z_vret S hr hlocks hM hS ⟨rfl, q_1, q_16, q_30, (fun _ => 0), he_55, he_56, he_57, he_58, hn_36, Nat.zero_le _, fun j hj => absurd hj (Nat.not_lt_zero j), fun i j hi => absurd hi (Nat.not_lt_zero i), fun j hj => absurd hj (Nat.not_lt_zero j), fun i j hi => absurd hi (Nat.not_lt_zero i)⟩ (Nat.le_of_ble_eq_true rfl) (Nat.le_of_ble_eq_true rfl) dX2_init_44
set_option maxHeartbeats 4000000 in
set_option maxRecDepth 100000 in
theorem c_X2_copy (l : Launch) (A : Nat → Prop) (G : zG) (M : zMap) (h0 cps den fee N : Nat) (ca : Nat → Nat) (cv : Nat → zCV) (ch : Nat → List (Nat × zEV)) (dn fe : Nat → Int32) (gd : Int64) (ec : Nat) (ty : Int32) (bc : Int64) (dg hm : Int32) (hI : zI G M h0 cps den fee N ca cv ch dn fe gd ec) : zMet l yX2_copy cX2_copy 6 (some .int) { frames := 3, cells := 1, slots := 10, locals := 120 } [.ref h0, .int ty, .long bc, .int dg, .int hm] A G M (fun r M1 => r = some (.int (zCpr N cv dn ty bc dg hm)) ∧ ((¬ (zCk N cv ty bc dg hm ∧ zRi dn hm ty) ∧ zI G M1 h0 cps den fee N ca cv ch dn fe gd ec) ∨ ((zCk N cv ty bc dg hm ∧ zRi dn hm ty) ∧ ∃ q, zI G M1 h0 cps den fee (N + 1) (zuf ca N q) (zuf cv N (ty, bc, dg, hm, hm, 3, 0, 0, -1)) (zuf ch N []) dn fe gd ec))) := by
  refine zMet.of (by decide) (Nat.le_of_ble_eq_true rfl) ?_
  intro p e s m args below meth c ls S hr hlocks hnm hK hM hA hS hl
  have hl : lv_has ls 6 [(0, .ref h0), (1, .int ty), (2, .long bc), (4, .int dg), (5, .int hm)] := hl
  have hx := S.1
  have hb := S.2.1
  have hown := S.2.2.2.1
  have hts := S.2.2.2.2
  have hr : meth.sig.returnType = some .int := hr
  obtain ⟨h, hc, hd, hf, hdf, hN, hcp, hsep⟩ := id hI
  refine lv_iload_n hx hb dX2_copy_0 rfl (lv_at hl 1 rfl) ?_
  refine z_callS (As := [.int ty]) (rest := []) S (c_X2_isType l A G M ty) ok_X2_isType kw_49 kw_50 ⟨Nat.le_of_ble_eq_true rfl, Nat.le_of_ble_eq_true rfl⟩ hK hM hS hA rfl hl.1 rfl (Nat.le_of_ble_eq_true rfl) dX2_copy_1 ⟨Nat.le_of_ble_eq_true rfl, Nat.le_of_ble_eq_true rfl⟩ (fun r_3 M_1 H locs hp_2 hM hS => ?_)
  obtain ⟨rfl, hM9⟩ := hp_2
  rw [hM9] at hM
  refine W.eq (g2 := F0 m 4 ls [.int (zb (zTy ty))]) rfl ?_
  refine lv_if_eq (tgt := 24) hx hb dX2_copy_4 (by decide) (fun c_4 => ?_) (fun c_4 => ?_)
  · -- 4 jump
    rw [zb_0] at c_4
    refine lv_iconst (v := -1) hx hb dX2_copy_24 (by decide) ?_
    exact z_iret S hr hlocks hM hS ⟨by unfold zCpr; rw [if_neg (fun q => c_4 q.1.1)], Or.inl ⟨fun q => (fun q => c_4 q.1.1) q.1, hI⟩⟩ (Nat.le_of_ble_eq_true rfl) (Nat.le_of_ble_eq_true rfl) dX2_copy_25
  · -- 4 on
    rw [zb_0n] at c_4
    refine lv_iload hx hb dX2_copy_7 (lv_at hl 4 rfl) ?_
    refine z_callS (As := [.int hm]) (rest := []) S (c_X2_isPlace l A G M hm) ok_X2_isPlace kw_52 kw_53 ⟨Nat.le_of_ble_eq_true rfl, Nat.le_of_ble_eq_true rfl⟩ hK hM hS hA rfl hl.1 rfl (Nat.le_of_ble_eq_true rfl) dX2_copy_9 ⟨Nat.le_of_ble_eq_true rfl, Nat.le_of_ble_eq_true rfl⟩ (fun r_7 M_5 H locs hp_6 hM hS => ?_)
    obtain ⟨rfl, hM9⟩ := hp_6
    rw [hM9] at hM
    refine W.eq (g2 := F0 m 12 ls [.int (zb (zPl hm))]) rfl ?_
    refine lv_if_eq (tgt := 24) hx hb dX2_copy_12 (by decide) (fun c_8 => ?_) (fun c_8 => ?_)
    · -- 12 jump
      rw [zb_0] at c_8
      refine lv_iconst (v := -1) hx hb dX2_copy_24 (by decide) ?_
      exact z_iret S hr hlocks hM hS ⟨by unfold zCpr; rw [if_neg (fun q => c_8 q.1.2.1)], Or.inl ⟨fun q => (fun q => c_8 q.1.2.1) q.1, hI⟩⟩ (Nat.le_of_ble_eq_true rfl) (Nat.le_of_ble_eq_true rfl) dX2_copy_25
    · -- 12 on
      rw [zb_0n] at c_8
      refine lv_aload_n hx hb dX2_copy_15 rfl (lv_at hl 0 rfl) ?_
      refine z_get (v := .int (nI N)) S kX2 hK hM h 1 (by decide) kw_17 rfl dX2_copy_16 ?_
      refine lv_bipush (v := 80) hx hb dX2_copy_19 (by decide) ?_
      refine lv_icmp_lt (tgt := 26) hx hb dX2_copy_21 (by decide) (fun c_9 => ?_) (fun c_9 => ?_)
      · -- 21 jump
        refine lv_aload_n hx hb dX2_copy_26 rfl (lv_at hl 0 rfl) ?_
        refine lv_lload_n hx hb dX2_copy_27 rfl (lv_at hl 2 rfl) ?_
        refine lv_iload hx hb dX2_copy_28 (lv_at hl 3 rfl) ?_
        refine z_callV (As := [.long bc, .int dg]) (rest := []) S (c_X2_isBarcode l A G M h0 cps (nI N) den fee gd (nI ec) bc dg h) ok_X2_isBarcode kw_55 kw_57 ks_0 ⟨Nat.le_of_ble_eq_true rfl, Nat.le_of_ble_eq_true rfl⟩ hK hM hS hA h rfl rfl hl.1 rfl (Nat.le_of_ble_eq_true rfl) dX2_copy_30 ⟨Nat.le_of_ble_eq_true rfl, Nat.le_of_ble_eq_true rfl⟩ (fun r_12 M_10 H locs hp_11 hM hS => ?_)
        obtain ⟨rfl, hM9⟩ := hp_11
        rw [hM9] at hM
        refine W.eq (g2 := F0 m 33 ls [.int (zb (zBc bc dg))]) rfl ?_
        refine lv_if_eq (tgt := 46) hx hb dX2_copy_33 (by decide) (fun c_13 => ?_) (fun c_13 => ?_)
        · -- 33 jump
          rw [zb_0] at c_13
          refine lv_iconst (v := -1) hx hb dX2_copy_46 (by decide) ?_
          exact z_iret S hr hlocks hM hS ⟨by unfold zCpr; rw [if_neg (fun q => c_13 q.2.1)], Or.inl ⟨fun q => (fun q => c_13 q.2.1) q.1, hI⟩⟩ (Nat.le_of_ble_eq_true rfl) (Nat.le_of_ble_eq_true rfl) dX2_copy_47
        · -- 33 on
          rw [zb_0n] at c_13
          refine lv_aload_n hx hb dX2_copy_36 rfl (lv_at hl 0 rfl) ?_
          refine lv_lload_n hx hb dX2_copy_37 rfl (lv_at hl 2 rfl) ?_
          refine lv_iload hx hb dX2_copy_38 (lv_at hl 3 rfl) ?_
          refine z_callV (As := [.long bc, .int dg]) (rest := []) S (c_X2_isTaken l A G M h0 cps den fee N ca cv ch dn fe gd ec bc dg hI) ok_X2_isTaken kw_60 kw_62 ks_1 ⟨Nat.le_of_ble_eq_true rfl, Nat.le_of_ble_eq_true rfl⟩ hK hM hS hA h rfl rfl hl.1 rfl (Nat.le_of_ble_eq_true rfl) dX2_copy_40 ⟨Nat.le_of_ble_eq_true rfl, Nat.le_of_ble_eq_true rfl⟩ (fun r_16 M_14 H locs hp_15 hM hS => ?_)
          obtain ⟨rfl, hM9⟩ := hp_15
          rw [hM9] at hM
          refine W.eq (g2 := F0 m 43 ls [.int (zb (zTk N cv bc dg))]) rfl ?_
          refine lv_if_eq (tgt := 48) hx hb dX2_copy_43 (by decide) (fun c_17 => ?_) (fun c_17 => ?_)
          · -- 43 jump
            rw [zb_0] at c_17
            refine lv_aload_n hx hb dX2_copy_48 rfl (lv_at hl 0 rfl) ?_
            refine lv_iload hx hb dX2_copy_49 (lv_at hl 4 rfl) ?_
            refine lv_iload_n hx hb dX2_copy_51 rfl (lv_at hl 1 rfl) ?_
            refine z_callV (As := [.int hm, .int ty]) (rest := []) S (c_X2_hasRight l A G M h0 cps (nI N) den fee gd (nI ec) dn hm ty h hd) ok_X2_hasRight kw_68 kw_70 ks_3 ⟨Nat.le_of_ble_eq_true rfl, Nat.le_of_ble_eq_true rfl⟩ hK hM hS hA h rfl rfl hl.1 rfl (Nat.le_of_ble_eq_true rfl) dX2_copy_52 ⟨Nat.le_of_ble_eq_true rfl, Nat.le_of_ble_eq_true rfl⟩ (fun r_20 M_18 H locs hp_19 hM hS => ?_)
            obtain ⟨rfl, hM9⟩ := hp_19
            rw [hM9] at hM
            refine W.eq (g2 := F0 m 55 ls [.int (zb (zRi dn hm ty))]) rfl ?_
            refine lv_if_ne (tgt := 61) hx hb dX2_copy_55 (by decide) (fun c_21 => ?_) (fun c_21 => ?_)
            · -- 55 jump
              rw [zb_0n] at c_21
              refine lv_aload_n hx hb dX2_copy_61 rfl (lv_at hl 0 rfl) ?_
              refine z_get (v := .ref cps) S kX2 hK hM h 0 (by decide) kw_16 rfl dX2_copy_62 ?_
              refine lv_aload_n hx hb dX2_copy_65 rfl (lv_at hl 0 rfl) ?_
              refine z_get (v := .int (nI N)) S kX2 hK hM h 1 (by decide) kw_17 rfl dX2_copy_66 ?_
              refine z_new (fs := [.int 0, .long 0, .int 0, .int 0, .int 0, .int 0, .int 0, .int 0, .int 0, .null]) S kX0 hK hM hS hA kw_14 kw_72 kw_3 (fun j hj => by rcases (show j = 0 ∨ j = 1 ∨ j = 2 ∨ j = 3 ∨ j = 4 ∨ j = 5 ∨ j = 6 ∨ j = 7 ∨ j = 8 ∨ j = 9 by omega) with rfl | rfl | rfl | rfl | rfl | rfl | rfl | rfl | rfl | rfl <;> rfl) (Nat.le_of_ble_eq_true rfl) (Nat.le_of_ble_eq_true rfl) dX2_copy_69 (fun q_22 H hq_23 hAq_24 hM hS => ?_)
              obtain ⟨M_25, eM_26⟩ : ∃ z : zMap, z = zu M q_22 (.inr (0, [.int 0, .long 0, .int 0, .int 0, .int 0, .int 0, .int 0, .int 0, .int 0, .null])) := ⟨_, rfl⟩
              replace hM : zM A G M_25 H := by rw [eM_26]; exact hM
              have he_27 : M_25 q_22 = some (.inr (0, [.int 0, .long 0, .int 0, .int 0, .int 0, .int 0, .int 0, .int 0, .int 0, .null])) := by rw [eM_26]; exact zu_s _ _ _
              have he_28 := (show M_25 h0 = M h0 by rw [eM_26]; exact zu_n (znf h hq_23)).trans h
              have he_29 := (show M_25 cps = M cps by rw [eM_26]; exact zu_n (znf hc hq_23)).trans hc
              have he_30 := (show M_25 den = M den by rw [eM_26]; exact zu_n (znf hd hq_23)).trans hd
              have he_31 := (show M_25 fee = M fee by rw [eM_26]; exact zu_n (znf hf hq_23)).trans hf
              refine lv_dup hx hb dX2_copy_72 rfl ?_
              refine lv_iload_n hx hb dX2_copy_73 rfl (lv_at hl 1 rfl) ?_
              refine lv_lload_n hx hb dX2_copy_74 rfl (lv_at hl 2 rfl) ?_
              refine lv_iload hx hb dX2_copy_75 (lv_at hl 3 rfl) ?_
              refine lv_iload hx hb dX2_copy_77 (lv_at hl 4 rfl) ?_
              refine z_callIN (As := [.int ty, .long bc, .int dg, .int hm]) (rest := [.ref q_22, .int (nI N), .ref cps]) S (c_X0_init l A G M_25 q_22 0 0 0 0 0 0 0 0 0 none ty bc dg hm he_27) ok_X0_init kw_73 kw_74 rfl ⟨Nat.le_of_ble_eq_true rfl, Nat.le_of_ble_eq_true rfl⟩ hK hM hS hA rfl hl.1 rfl (Nat.le_of_ble_eq_true rfl) dX2_copy_79 ⟨Nat.le_of_ble_eq_true rfl, Nat.le_of_ble_eq_true rfl⟩ (fun r_34 M_32 H locs hp_33 hM hS => ?_)
              obtain ⟨rfl, eM_35⟩ := hp_33
              have he_36 : M_32 q_22 = some (oC ty bc dg hm hm 3 0 0 (-1) none) := by rw [eM_35]; exact zu_s _ _ _
              have he_37 := (show M_32 h0 = M_25 h0 by rw [eM_35]; exact zu_n (zne he_28 he_27 (by simp))).trans he_28
              have he_38 := (show M_32 cps = M_25 cps by rw [eM_35]; exact zu_n (zne he_29 he_27 (by simp))).trans he_29
              have he_39 := (show M_32 den = M_25 den by rw [eM_35]; exact zu_n (zne he_30 he_27 (by simp))).trans he_30
              have he_40 := (show M_32 fee = M_25 fee by rw [eM_35]; exact zu_n (zne he_31 he_27 (by simp))).trans he_31
              refine W.eq (g2 := F0 m 82 ls [.ref q_22, .int (nI N), .ref cps]) rfl ?_
              refine z_aast S hK hM hS 2 he_38 rfl he_36 rfl (hin80 c_9 hN) dX2_copy_82 (fun H locs hM hS => ?_)
              obtain ⟨M_41, eM_42⟩ : ∃ z : zMap, z = zu M_32 cps (.inl ((G.2.2 2), 80, .inr (.inr (.inr (.inr (va_up (zF N ca) (nI N).toNatClampNeg (some q_22))))))) := ⟨_, rfl⟩
              replace hM : zM A G M_41 H := by rw [eM_42]; exact hM
              have he_43 : M_41 cps = some (.inl ((G.2.2 2), 80, .inr (.inr (.inr (.inr (va_up (zF N ca) (nI N).toNatClampNeg (some q_22))))))) := by rw [eM_42]; exact zu_s _ _ _
              have he_44 := (show M_41 h0 = M_32 h0 by rw [eM_42]; exact zu_n (zne he_37 he_38 (by simp))).trans he_37
              have he_45 := (show M_41 q_22 = M_32 q_22 by rw [eM_42]; exact zu_n (zne he_36 he_38 (by simp))).trans he_36
              have he_46 := (show M_41 den = M_32 den by rw [eM_42]; exact zu_n (zne he_39 he_38 (by simp))).trans he_39
              have he_47 := (show M_41 fee = M_32 fee by rw [eM_42]; exact zu_n (zne he_40 he_38 (by simp))).trans he_40
              refine lv_aload_n hx hb dX2_copy_83 rfl (lv_at hl 0 rfl) ?_
              refine lv_dup hx hb dX2_copy_84 rfl ?_
              refine z_get (v := .int (nI N)) S kX2 hK hM he_44 1 (by decide) kw_17 rfl dX2_copy_85 ?_
              refine lv_iconst (v := 1) hx hb dX2_copy_88 (by decide) ?_
              refine lv_iadd hx hb dX2_copy_89 ?_
              refine z_put S kX2 hK hM hS he_44 1 (by decide) kw_17 rfl rfl rfl (Nat.le_of_ble_eq_true rfl) dX2_copy_90 (fun H locs hM hS => ?_)
              obtain ⟨M_48, eM_49⟩ : ∃ z : zMap, z = zu M_41 h0 (.inr (2, [.ref cps, .int ((nI N) + 1), .ref den, .ref fee, .long gd, .int (nI ec)])) := ⟨_, rfl⟩
              replace hM : zM A G M_48 H := by rw [eM_49]; exact hM
              have he_50 : M_48 h0 = some (.inr (2, [.ref cps, .int ((nI N) + 1), .ref den, .ref fee, .long gd, .int (nI ec)])) := by rw [eM_49]; exact zu_s _ _ _
              have he_51 := (show M_48 q_22 = M_41 q_22 by rw [eM_49]; exact zu_n (zne he_45 he_44 (by simp))).trans he_45
              have he_52 := (show M_48 cps = M_41 cps by rw [eM_49]; exact zu_n (zne he_43 he_44 (by simp))).trans he_43
              have he_53 := (show M_48 den = M_41 den by rw [eM_49]; exact zu_n (zne he_46 he_44 (by simp))).trans he_46
              have he_54 := (show M_48 fee = M_41 fee by rw [eM_49]; exact zu_n (zne he_47 he_44 (by simp))).trans he_47
              refine lv_aload_n hx hb dX2_copy_93 rfl (lv_at hl 0 rfl) ?_
              refine z_get (v := .int ((nI N) + 1)) S kX2 hK hM he_50 1 (by decide) kw_17 rfl dX2_copy_94 ?_
              have hfr : ∀ b9 : Nat, b9 ≠ q_22 → b9 ≠ cps → b9 ≠ h0 → M_48 b9 = M b9 := fun b9 g0 g1 g2 => by rw [eM_49, zu_n g2, eM_42, zu_n g1, eM_35, zu_n g0, eM_26, zu_n g0]
              have hI2 := hI.add (v := (ty, bc, dg, hm, hm, 3, 0, 0, -1)) ((nI_ltI (by omega) (by decide)).mp c_9) (Or.inl rfl) hq_23 he_51 (by have h5 := he_52; rw [zcl_N hN] at h5; exact h5) (by rw [← nI_1]; exact he_50) (fun b b1 b2 b3 => hfr b b1 b2 b3)
              exact z_iret S hr hlocks hM hS ⟨by unfold zCpr; rw [if_pos (⟨⟨c_4, c_8, c_9⟩, c_13, c_17⟩), if_pos c_21, nI_1], Or.inr ⟨⟨⟨⟨c_4, c_8, c_9⟩, c_13, c_17⟩, c_21⟩, q_22, hI2⟩⟩ (Nat.le_of_ble_eq_true rfl) (Nat.le_of_ble_eq_true rfl) dX2_copy_97
            · -- 55 on
              rw [zb_0] at c_21
              refine lv_bipush (v := -3) hx hb dX2_copy_58 (by decide) ?_
              exact z_iret S hr hlocks hM hS ⟨by unfold zCpr; rw [if_pos (⟨⟨c_4, c_8, c_9⟩, c_13, c_17⟩), if_neg c_21], Or.inl ⟨fun q => c_21 q.2, hI⟩⟩ (Nat.le_of_ble_eq_true rfl) (Nat.le_of_ble_eq_true rfl) dX2_copy_60
          · -- 43 on
            rw [zb_0n] at c_17
            refine lv_iconst (v := -1) hx hb dX2_copy_46 (by decide) ?_
            exact z_iret S hr hlocks hM hS ⟨by unfold zCpr; rw [if_neg (fun q => q.2.2 c_17)], Or.inl ⟨fun q => (fun q => q.2.2 c_17) q.1, hI⟩⟩ (Nat.le_of_ble_eq_true rfl) (Nat.le_of_ble_eq_true rfl) dX2_copy_47
      · -- 21 on
        refine lv_iconst (v := -1) hx hb dX2_copy_24 (by decide) ?_
        exact z_iret S hr hlocks hM hS ⟨by unfold zCpr; rw [if_neg (fun q => c_9 q.1.2.2)], Or.inl ⟨fun q => (fun q => c_9 q.1.2.2) q.1, hI⟩⟩ (Nat.le_of_ble_eq_true rfl) (Nat.le_of_ble_eq_true rfl) dX2_copy_25
set_option maxHeartbeats 4000000 in
set_option maxRecDepth 100000 in
theorem c_X2_weed (l : Launch) (A : Nat → Prop) (G : zG) (M : zMap) (h0 cps den fee N : Nat) (ca : Nat → Nat) (cv : Nat → zCV) (ch : Nat → List (Nat × zEV)) (dn fe : Nat → Int32) (gd : Int64) (ec : Nat) (k who : Int32) (hI : zI G M h0 cps den fee N ca cv ch dn fe gd ec) : zMet l yX2_weed cX2_weed 4 (some .int) { frames := 3, cells := 1, slots := 4, locals := 120 } [.ref h0, .int k, .int who] A G M (zWQ G h0 cps den fee N ca cv ch dn fe gd ec k who) := by
  refine zMet.of (by decide) (Nat.le_of_ble_eq_true rfl) ?_
  intro p e s m args below meth c ls S hr hlocks hnm hK hM hA hS hl
  have hl : lv_has ls 4 [(0, .ref h0), (1, .int k), (2, .int who)] := hl
  have hx := S.1
  have hb := S.2.1
  have hown := S.2.2.2.1
  have hts := S.2.2.2.2
  have hr : meth.sig.returnType = some .int := hr
  obtain ⟨h, hc, hd, hf, hdf, hN, hcp, hsep⟩ := id hI
  refine lv_aload_n hx hb dX2_weed_0 rfl (lv_at hl 0 rfl) ?_
  refine lv_iload_n hx hb dX2_weed_1 rfl (lv_at hl 1 rfl) ?_
  refine z_callV (As := [.int k]) (rest := []) S (c_X2_find l A G M h0 cps (nI N) den fee gd (nI ec) (zF N ca) k h hc) ok_X2_find kw_64 kw_66 ks_2 ⟨Nat.le_of_ble_eq_true rfl, Nat.le_of_ble_eq_true rfl⟩ hK hM hS hA h rfl rfl hl.1 rfl (Nat.le_of_ble_eq_true rfl) dX2_weed_2 ⟨Nat.le_of_ble_eq_true rfl, Nat.le_of_ble_eq_true rfl⟩ (fun r_3 M_1 H locs hp_2 hM hS => ?_)
  obtain ⟨rfl, hM9⟩ := hp_2
  rw [hM9] at hM
  rw [zFi_eq hN]
  refine W.eq (g2 := F0 m 5 ls [va_rf ((zIx N k).map ca)]) rfl ?_
  rcases hz : zIx N k with _ | j
  · refine W.eq (g2 := F0 m 5 ls [.null]) rfl ?_
    refine lv_astore_nN (lv' := [(3, .null), (0, .ref h0), (1, .int k), (2, .int who)]) hx hb dX2_weed_5 rfl hl (by decide) rfl (fun ls hl => ?_)
    refine lv_aload_nN hx hb dX2_weed_6 rfl (lv_at hl 0 rfl) ?_
    refine lv_ifnullN (tgt := 30) hx hb dX2_weed_7 (by decide) ?_
    refine lv_iconst (v := -1) hx hb dX2_weed_30 (by decide) ?_
    exact z_iret S hr hlocks hM hS (by unfold zWQ; rw [hz]; exact ⟨rfl, hI⟩) (Nat.le_of_ble_eq_true rfl) (Nat.le_of_ble_eq_true rfl) dX2_weed_31
  · refine W.eq (g2 := F0 m 5 ls [.ref (ca j)]) rfl ?_
    have hj := (zIx_some hN hz).1
    have hcj := (hcp j hj).1
    refine lv_astore_n (lv' := [(3, .ref (ca j)), (0, .ref h0), (1, .int k), (2, .int who)]) hx hb dX2_weed_5 rfl hl (by decide) rfl (fun ls hl => ?_)
    refine lv_aload_n hx hb dX2_weed_6 rfl (lv_at hl 0 rfl) ?_
    refine lv_ifnull hx hb dX2_weed_7 ?_
    refine lv_iload_n hx hb dX2_weed_10 rfl (lv_at hl 3 rfl) ?_
    refine lv_if_lt (tgt := 30) hx hb dX2_weed_11 (by decide) (fun c_4 => ?_) (fun c_4 => ?_)
    · -- 11 jump
      refine lv_iconst (v := -1) hx hb dX2_weed_30 (by decide) ?_
      exact z_iret S hr hlocks hM hS (by unfold zWQ; rw [hz]; dsimp only; rw [if_neg (fun q => q.1 c_4)]; exact ⟨rfl, hI⟩) (Nat.le_of_ble_eq_true rfl) (Nat.le_of_ble_eq_true rfl) dX2_weed_31
    · -- 11 on
      refine lv_iload_n hx hb dX2_weed_14 rfl (lv_at hl 3 rfl) ?_
      refine lv_bipush (v := 100) hx hb dX2_weed_15 (by decide) ?_
      refine lv_icmp_ge (tgt := 30) hx hb dX2_weed_17 (by decide) (fun c_5 => ?_) (fun c_5 => ?_)
      · -- 17 jump
        refine lv_iconst (v := -1) hx hb dX2_weed_30 (by decide) ?_
        exact z_iret S hr hlocks hM hS (by unfold zWQ; rw [hz]; dsimp only; rw [if_neg (fun q => q.2.1 c_5)]; exact ⟨rfl, hI⟩) (Nat.le_of_ble_eq_true rfl) (Nat.le_of_ble_eq_true rfl) dX2_weed_31
      · -- 17 on
        refine lv_aload_n hx hb dX2_weed_20 rfl (lv_at hl 1 rfl) ?_
        refine z_get (v := .int (nI ec)) S kX2 hK hM h 5 (by decide) kw_21 rfl dX2_weed_21 ?_
        refine lv_sipush (v := 512) hx hb dX2_weed_24 (by decide) ?_
        refine lv_icmp_lt (tgt := 32) hx hb dX2_weed_27 (by decide) (fun c_6 => ?_) (fun c_6 => ?_)
        · -- 27 jump
          refine lv_aload_n hx hb dX2_weed_32 rfl (lv_at hl 0 rfl) ?_
          refine z_getN (v := .int ((cv j).2.2.2.2.2.1)) S kX0 hK hM hcj 5 (by decide) kw_88 rfl dX2_weed_33 ?_
          refine z_callS (As := [.int ((cv j).2.2.2.2.2.1)]) (rest := []) S (c_X2_canBeWeeded l A G M ((cv j).2.2.2.2.2.1)) ok_X2_canBeWeeded kw_199 kw_200 ⟨Nat.le_of_ble_eq_true rfl, Nat.le_of_ble_eq_true rfl⟩ hK hM hS hA rfl hl.1 rfl (Nat.le_of_ble_eq_true rfl) dX2_weed_36 ⟨Nat.le_of_ble_eq_true rfl, Nat.le_of_ble_eq_true rfl⟩ (fun r_9 M_7 H locs hp_8 hM hS => ?_)
          obtain ⟨rfl, hM9⟩ := hp_8
          rw [hM9] at hM
          refine W.eq (g2 := F0 m 39 ls [.int (zb (zWd ((cv j).2.2.2.2.2.1)))]) rfl ?_
          refine lv_if_eq (tgt := 50) hx hb dX2_weed_39 (by decide) (fun c_10 => ?_) (fun c_10 => ?_)
          · -- 39 jump
            rw [zb_0] at c_10
            refine lv_bipush (v := -2) hx hb dX2_weed_50 (by decide) ?_
            exact z_iret S hr hlocks hM hS (by unfold zWQ; rw [hz]; dsimp only; rw [if_pos ⟨c_4, c_5, c_6⟩, if_neg (fun q => c_10 q.1)]; exact ⟨rfl, hI⟩) (Nat.le_of_ble_eq_true rfl) (Nat.le_of_ble_eq_true rfl) dX2_weed_52
          · -- 39 on
            rw [zb_0n] at c_10
            refine lv_aload_n hx hb dX2_weed_42 rfl (lv_at hl 0 rfl) ?_
            refine z_getN (v := .int ((cv j).2.2.2.2.2.2.2.2)) S kX0 hK hM hcj 8 (by decide) kw_94 rfl dX2_weed_43 ?_
            refine lv_iload_n hx hb dX2_weed_46 rfl (lv_at hl 3 rfl) ?_
            refine lv_icmp_ne (tgt := 53) hx hb dX2_weed_47 (by decide) (fun c_11 => ?_) (fun c_11 => ?_)
            · -- 47 jump
              refine lv_aload_n hx hb dX2_weed_53 rfl (lv_at hl 0 rfl) ?_
              refine z_getN (v := .int ((cv j).2.2.2.2.2.2.2.2)) S kX0 hK hM hcj 8 (by decide) kw_94 rfl dX2_weed_54 ?_
              refine lv_iconst (v := -1) hx hb dX2_weed_57 (by decide) ?_
              refine lv_icmp_ne (tgt := 68) hx hb dX2_weed_58 (by decide) (fun c_12 => ?_) (fun c_12 => ?_)
              · -- 58 jump
                refine lv_aload_n hx hb dX2_weed_68 rfl (lv_at hl 1 rfl) ?_
                refine lv_aload_n hx hb dX2_weed_69 rfl (lv_at hl 0 rfl) ?_
                refine lv_aload_n hx hb dX2_weed_70 rfl (lv_at hl 1 rfl) ?_
                refine z_get (v := .long gd) S kX2 hK hM h 4 (by decide) kw_20 rfl dX2_weed_71 ?_
                refine lv_lconst (v := 1) hx hb dX2_weed_74 (by decide) ?_
                refine lv_ladd hx hb dX2_weed_75 ?_
                refine lv_bipush (v := 7) hx hb dX2_weed_76 (by decide) ?_
                refine lv_iconst (v := 0) hx hb dX2_weed_78 (by decide) ?_
                refine z_callV (As := [.ref (ca j), .long (gd + 1), .int 7, .int 0]) (rest := []) S (c_X2_enter l A G M h0 cps (nI N) den fee gd (nI ec) (ca j) (cv j).1 (cv j).2.1 (cv j).2.2.1 (cv j).2.2.2.1 (cv j).2.2.2.2.1 (cv j).2.2.2.2.2.1 (cv j).2.2.2.2.2.2.1 (cv j).2.2.2.2.2.2.2.1 (cv j).2.2.2.2.2.2.2.2 (ch j) (gd + 1) 7 0 h hcj (hcp j hj).2.1 (hsep.2.1 j hj) (Or.inl rfl)) ok_X2_enter kw_145 kw_147 ks_5 ⟨Nat.le_of_ble_eq_true rfl, Nat.le_of_ble_eq_true rfl⟩ hK hM hS hA h rfl rfl hl.1 rfl (Nat.le_of_ble_eq_true rfl) dX2_weed_79 ⟨Nat.le_of_ble_eq_true rfl, Nat.le_of_ble_eq_true rfl⟩ (fun r_15 M_13 H locs hp_14 hM hS => ?_)
                obtain ⟨rfl, q, hq, e1, e2, e3, e4⟩ := hp_14
                have hI1 := hI.enter hj hq e1 e2 (by rw [← nI_1]; exact e3) e4
                refine W.eq (g2 := F0 m 82 ls []) rfl ?_
                refine lv_aload_n hx hb dX2_weed_82 rfl (lv_at hl 0 rfl) ?_
                refine lv_bipush (v := 7) hx hb dX2_weed_83 (by decide) ?_
                refine z_putN S kX0 hK hM hS e2 5 (by decide) kw_88 rfl rfl rfl (Nat.le_of_ble_eq_true rfl) dX2_weed_85 (fun H locs hM hS => ?_)
                obtain ⟨M_16, eM_17⟩ : ∃ z : zMap, z = zu M_13 (ca j) (.inr (0, [.int ((cv j).1), .long ((cv j).2.1), .int ((cv j).2.2.1), .int ((cv j).2.2.2.1), .int ((cv j).2.2.2.2.1), .int 7, .int ((cv j).2.2.2.2.2.2.1), .int ((cv j).2.2.2.2.2.2.2.1), .int ((cv j).2.2.2.2.2.2.2.2), va_rf (zHd (zIns (gd + 1) (q, gd + 1, 7, 0) (ch j)))])) := ⟨_, rfl⟩
                replace hM : zM A G M_16 H := by rw [eM_17]; exact hM
                have he_18 : M_16 (ca j) = some (.inr (0, [.int ((cv j).1), .long ((cv j).2.1), .int ((cv j).2.2.1), .int ((cv j).2.2.2.1), .int ((cv j).2.2.2.2.1), .int 7, .int ((cv j).2.2.2.2.2.2.1), .int ((cv j).2.2.2.2.2.2.2.1), .int ((cv j).2.2.2.2.2.2.2.2), va_rf (zHd (zIns (gd + 1) (q, gd + 1, 7, 0) (ch j)))])) := by rw [eM_17]; exact zu_s _ _ _
                have he_19 := (show M_16 h0 = M_13 h0 by rw [eM_17]; exact zu_n (zne e3 e2 (by simp))).trans e3
                have he_20 := (show M_16 fee = M_13 fee by rw [eM_17]; exact zu_n (zne hI1.2.2.2.1 e2 (by simp))).trans hI1.2.2.2.1
                refine lv_iconst (v := 2) hx hb dX2_weed_88 (by decide) ?_
                exact z_iret S hr hlocks hM hS (by unfold zWQ; rw [hz]; dsimp only; rw [if_pos ⟨c_4, c_5, c_6⟩, if_pos ⟨c_10, c_11⟩, if_neg c_12]; exact ⟨rfl, q, by
                  have h8 := hI1.setC hj ((cv j).1, (cv j).2.1, (cv j).2.2.1, (cv j).2.2.2.1, (cv j).2.2.2.2.1, 7, (cv j).2.2.2.2.2.2.1, (cv j).2.2.2.2.2.2.2.1, (cv j).2.2.2.2.2.2.2.2) (hcp j hj).2.2
                  rw [zuf_s] at h8
                  rw [eM_17]
                  exact h8⟩) (Nat.le_of_ble_eq_true rfl) (Nat.le_of_ble_eq_true rfl) dX2_weed_89
              · -- 58 on
                refine lv_aload_n hx hb dX2_weed_61 rfl (lv_at hl 0 rfl) ?_
                refine lv_iload_n hx hb dX2_weed_62 rfl (lv_at hl 3 rfl) ?_
                refine z_putN S kX0 hK hM hS hcj 8 (by decide) kw_94 rfl rfl rfl (Nat.le_of_ble_eq_true rfl) dX2_weed_63 (fun H locs hM hS => ?_)
                obtain ⟨M_21, eM_22⟩ : ∃ z : zMap, z = zu M (ca j) (.inr (0, [.int ((cv j).1), .long ((cv j).2.1), .int ((cv j).2.2.1), .int ((cv j).2.2.2.1), .int ((cv j).2.2.2.2.1), .int ((cv j).2.2.2.2.2.1), .int ((cv j).2.2.2.2.2.2.1), .int ((cv j).2.2.2.2.2.2.2.1), .int who, va_rf (zHd (ch j))])) := ⟨_, rfl⟩
                replace hM : zM A G M_21 H := by rw [eM_22]; exact hM
                have he_23 : M_21 (ca j) = some (.inr (0, [.int ((cv j).1), .long ((cv j).2.1), .int ((cv j).2.2.1), .int ((cv j).2.2.2.1), .int ((cv j).2.2.2.2.1), .int ((cv j).2.2.2.2.2.1), .int ((cv j).2.2.2.2.2.2.1), .int ((cv j).2.2.2.2.2.2.2.1), .int who, va_rf (zHd (ch j))])) := by rw [eM_22]; exact zu_s _ _ _
                have he_24 := (show M_21 h0 = M h0 by rw [eM_22]; exact zu_n (zne h hcj (by simp))).trans h
                have he_25 := (show M_21 cps = M cps by rw [eM_22]; exact zu_n (zne hc hcj (by simp))).trans hc
                have he_26 := (show M_21 den = M den by rw [eM_22]; exact zu_n (zne hd hcj (by simp))).trans hd
                have he_27 := (show M_21 fee = M fee by rw [eM_22]; exact zu_n (zne hf hcj (by simp))).trans hf
                refine lv_iconst (v := 1) hx hb dX2_weed_66 (by decide) ?_
                exact z_iret S hr hlocks hM hS (by unfold zWQ; rw [hz]; dsimp only; rw [if_pos ⟨c_4, c_5, c_6⟩, if_pos ⟨c_10, c_11⟩, if_pos c_12]; exact ⟨rfl, by rw [eM_22]; exact hI.setC hj ((cv j).1, (cv j).2.1, (cv j).2.2.1, (cv j).2.2.2.1, (cv j).2.2.2.2.1, (cv j).2.2.2.2.2.1, (cv j).2.2.2.2.2.2.1, (cv j).2.2.2.2.2.2.2.1, who) (hcp j hj).2.2⟩) (Nat.le_of_ble_eq_true rfl) (Nat.le_of_ble_eq_true rfl) dX2_weed_67
            · -- 47 on
              refine lv_bipush (v := -2) hx hb dX2_weed_50 (by decide) ?_
              exact z_iret S hr hlocks hM hS (by unfold zWQ; rw [hz]; dsimp only; rw [if_pos ⟨c_4, c_5, c_6⟩, if_neg (fun q => q.2 c_11)]; exact ⟨rfl, hI⟩) (Nat.le_of_ble_eq_true rfl) (Nat.le_of_ble_eq_true rfl) dX2_weed_52
        · -- 27 on
          refine lv_iconst (v := -1) hx hb dX2_weed_30 (by decide) ?_
          exact z_iret S hr hlocks hM hS (by unfold zWQ; rw [hz]; dsimp only; rw [if_neg (fun q => c_6 q.2.2)]; exact ⟨rfl, hI⟩) (Nat.le_of_ble_eq_true rfl) (Nat.le_of_ble_eq_true rfl) dX2_weed_31
set_option maxHeartbeats 4000000 in
set_option maxRecDepth 100000 in
theorem c_X2_act (l : Launch) (A : Nat → Prop) (G : zG) (M : zMap) (h0 cps den fee N : Nat) (ca : Nat → Nat) (cv : Nat → zCV) (ch : Nat → List (Nat × zEV)) (dn fe : Nat → Int32) (gd : Int64) (ec : Nat) (k kind place : Int32) (day : Int64) (hI : zI G M h0 cps den fee N ca cv ch dn fe gd ec) : zMet l yX2_act cX2_act 9 (some .int) { frames := 3, cells := 1, slots := 4, locals := 120 } [.ref h0, .int k, .int kind, .int place, .long day] A G M (zAQ G h0 cps den fee N ca cv ch dn fe gd ec k kind place day) := by
  refine zMet.of (by decide) (Nat.le_of_ble_eq_true rfl) ?_
  intro p e s m args below meth c ls S hr hlocks hnm hK hM hA hS hl
  have hl : lv_has ls 9 [(0, .ref h0), (1, .int k), (2, .int kind), (3, .int place), (4, .long day)] := hl
  have hx := S.1
  have hb := S.2.1
  have hown := S.2.2.2.1
  have hts := S.2.2.2.2
  have hr : meth.sig.returnType = some .int := hr
  obtain ⟨h, hc, hd, hf, hdf, hN, hcp, hsep⟩ := id hI
  refine lv_aload_n hx hb dX2_act_0 rfl (lv_at hl 0 rfl) ?_
  refine lv_iload_n hx hb dX2_act_1 rfl (lv_at hl 1 rfl) ?_
  refine z_callV (As := [.int k]) (rest := []) S (c_X2_find l A G M h0 cps (nI N) den fee gd (nI ec) (zF N ca) k h hc) ok_X2_find kw_64 kw_66 ks_2 ⟨Nat.le_of_ble_eq_true rfl, Nat.le_of_ble_eq_true rfl⟩ hK hM hS hA h rfl rfl hl.1 rfl (Nat.le_of_ble_eq_true rfl) dX2_act_2 ⟨Nat.le_of_ble_eq_true rfl, Nat.le_of_ble_eq_true rfl⟩ (fun r_3 M_1 H locs hp_2 hM hS => ?_)
  obtain ⟨rfl, hM9⟩ := hp_2
  rw [hM9] at hM
  rw [zFi_eq hN]
  refine W.eq (g2 := F0 m 5 ls [va_rf ((zIx N k).map ca)]) rfl ?_
  rcases hz : zIx N k with _ | j
  · refine W.eq (g2 := F0 m 5 ls [.null]) rfl ?_
    refine lv_astoreN (lv' := [(6, .null), (0, .ref h0), (1, .int k), (2, .int kind), (3, .int place), (4, .long day)]) hx hb dX2_act_5 hl (by decide) rfl (fun ls hl => ?_)
    refine lv_aloadN hx hb dX2_act_7 (lv_at hl 0 rfl) ?_
    refine lv_ifnullN (tgt := 38) hx hb dX2_act_9 (by decide) ?_
    refine lv_iconst (v := -1) hx hb dX2_act_38 (by decide) ?_
    exact z_iret S hr hlocks hM hS (by unfold zAQ; rw [hz]; exact ⟨rfl, hI⟩) (Nat.le_of_ble_eq_true rfl) (Nat.le_of_ble_eq_true rfl) dX2_act_39
  · refine W.eq (g2 := F0 m 5 ls [.ref (ca j)]) rfl ?_
    have hj := (zIx_some hN hz).1
    have hcj := (hcp j hj).1
    refine lv_astore (lv' := [(6, .ref (ca j)), (0, .ref h0), (1, .int k), (2, .int kind), (3, .int place), (4, .long day)]) hx hb dX2_act_5 hl (by decide) rfl (fun ls hl => ?_)
    refine lv_aload hx hb dX2_act_7 (lv_at hl 0 rfl) ?_
    refine lv_ifnull hx hb dX2_act_9 ?_
    refine lv_iload_n hx hb dX2_act_12 rfl (lv_at hl 3 rfl) ?_
    refine lv_if_lt (tgt := 38) hx hb dX2_act_13 (by decide) (fun c_4 => ?_) (fun c_4 => ?_)
    · -- 13 jump
      refine lv_iconst (v := -1) hx hb dX2_act_38 (by decide) ?_
      exact z_iret S hr hlocks hM hS (by unfold zAQ; rw [hz]; dsimp only; rw [if_neg (fun q => q.1 c_4)]; exact ⟨rfl, hI⟩) (Nat.le_of_ble_eq_true rfl) (Nat.le_of_ble_eq_true rfl) dX2_act_39
    · -- 13 on
      refine lv_iload_n hx hb dX2_act_16 rfl (lv_at hl 3 rfl) ?_
      refine lv_bipush (v := 6) hx hb dX2_act_17 (by decide) ?_
      refine lv_icmp_gt (tgt := 38) hx hb dX2_act_19 (by decide) (fun c_5 => ?_) (fun c_5 => ?_)
      · -- 19 jump
        refine lv_iconst (v := -1) hx hb dX2_act_38 (by decide) ?_
        exact z_iret S hr hlocks hM hS (by unfold zAQ; rw [hz]; dsimp only; rw [if_neg (fun q => q.2.1 c_5)]; exact ⟨rfl, hI⟩) (Nat.le_of_ble_eq_true rfl) (Nat.le_of_ble_eq_true rfl) dX2_act_39
      · -- 19 on
        refine lv_lload hx hb dX2_act_22 (lv_at hl 5 rfl) ?_
        refine lv_lconst (v := 0) hx hb dX2_act_24 (by decide) ?_
        refine W.lcmp hx hb dX2_act_25 ?_
        refine lv_if_lt (tgt := 38) hx hb dX2_act_26 (by decide) (fun c_6 => ?_) (fun c_6 => ?_)
        · -- 26 jump
          rw [lg_cmp_lt] at c_6
          refine lv_iconst (v := -1) hx hb dX2_act_38 (by decide) ?_
          exact z_iret S hr hlocks hM hS (by unfold zAQ; rw [hz]; dsimp only; rw [if_neg (fun q => q.2.2.1 c_6)]; exact ⟨rfl, hI⟩) (Nat.le_of_ble_eq_true rfl) (Nat.le_of_ble_eq_true rfl) dX2_act_39
        · -- 26 on
          rw [lg_cmp_lt] at c_6
          refine lv_lload hx hb dX2_act_29 (lv_at hl 5 rfl) ?_
          refine lv_ldc2 (v := 1000000000000) hx hb hown (hts _ kw_131) dX2_act_31 ?_
          refine W.lcmp hx hb dX2_act_34 ?_
          refine lv_if_le (tgt := 40) hx hb dX2_act_35 (by decide) (fun c_7 => ?_) (fun c_7 => ?_)
          · -- 35 jump
            rw [lg_cmp_le] at c_7
            refine lv_iload_n hx hb dX2_act_40 rfl (lv_at hl 3 rfl) ?_
            refine lv_iconst (v := 2) hx hb dX2_act_41 (by decide) ?_
            refine lv_icmp_ne (tgt := 63) hx hb dX2_act_42 (by decide) (fun c_8 => ?_) (fun c_8 => ?_)
            · -- 42 jump
              refine lv_aload_n hx hb dX2_act_63 rfl (lv_at hl 1 rfl) ?_
              refine z_get (v := .int (nI ec)) S kX2 hK hM h 5 (by decide) kw_21 rfl dX2_act_64 ?_
              refine lv_sipush (v := 512) hx hb dX2_act_67 (by decide) ?_
              refine lv_icmp_lt (tgt := 75) hx hb dX2_act_70 (by decide) (fun c_9 => ?_) (fun c_9 => ?_)
              · -- 70 jump
                refine lv_lload hx hb dX2_act_75 (lv_at hl 5 rfl) ?_
                refine lv_aload_n hx hb dX2_act_77 rfl (lv_at hl 1 rfl) ?_
                refine z_get (v := .long gd) S kX2 hK hM h 4 (by decide) kw_20 rfl dX2_act_78 ?_
                refine W.lcmp hx hb dX2_act_81 ?_
                refine lv_if_ge (tgt := 89) hx hb dX2_act_82 (by decide) (fun c_10 => ?_) (fun c_10 => ?_)
                · -- 82 jump
                  rw [lg_cmp_ge] at c_10
                  refine lv_iconst (v := 0) hx hb dX2_act_89 (by decide) ?_
                  refine lv_istore (lv' := [(7, .int 0), (6, .ref (ca j)), (0, .ref h0), (1, .int k), (2, .int kind), (3, .int place), (4, .long day)]) hx hb dX2_act_90 hl (by decide) rfl (fun ls hl => ?_)
                  refine lv_iload hx hb dX2_act_92 (lv_at hl 0 rfl) ?_
                  refine lv_if_eq (tgt := 107) hx hb dX2_act_94 (by decide) (fun c_11 => ?_) (fun c_11 => absurd c_11 (by decide))
                  refine lv_aload hx hb dX2_act_107 (lv_at hl 1 rfl) ?_
                  refine z_getN (v := .int ((cv j).2.2.2.2.2.1)) S kX0 hK hM hcj 5 (by decide) kw_88 rfl dX2_act_109 ?_
                  refine lv_istore (lv' := [(8, .int ((cv j).2.2.2.2.2.1)), (7, .int 0), (6, .ref (ca j)), (0, .ref h0), (1, .int k), (2, .int kind), (3, .int place), (4, .long day)]) hx hb dX2_act_112 hl (by decide) rfl (fun ls hl => ?_)
                  refine lv_iload_n hx hb dX2_act_114 rfl (lv_at hl 5 rfl) ?_
                  refine lv_iload hx hb dX2_act_115 (lv_at hl 0 rfl) ?_
                  refine z_callS (As := [.int kind, .int ((cv j).2.2.2.2.2.1)]) (rest := []) S (c_X2_canFollow l A G M kind ((cv j).2.2.2.2.2.1)) ok_X2_canFollow kw_138 kw_139 ⟨Nat.le_of_ble_eq_true rfl, Nat.le_of_ble_eq_true rfl⟩ hK hM hS hA rfl hl.1 rfl (Nat.le_of_ble_eq_true rfl) dX2_act_117 ⟨Nat.le_of_ble_eq_true rfl, Nat.le_of_ble_eq_true rfl⟩ (fun r_14 M_12 H locs hp_13 hM hS => ?_)
                  obtain ⟨rfl, hM9⟩ := hp_13
                  rw [hM9] at hM
                  refine W.eq (g2 := F0 m 120 ls [.int (zb (zFo kind ((cv j).2.2.2.2.2.1)))]) rfl ?_
                  refine lv_if_ne (tgt := 126) hx hb dX2_act_120 (by decide) (fun c_15 => ?_) (fun c_15 => ?_)
                  · -- 120 jump
                    rw [zb_0n] at c_15
                    refine lv_aload_n hx hb dX2_act_126 rfl (lv_at hl 3 rfl) ?_
                    refine lv_aload hx hb dX2_act_127 (lv_at hl 2 rfl) ?_
                    refine lv_iload_n hx hb dX2_act_129 rfl (lv_at hl 5 rfl) ?_
                    refine lv_iload_n hx hb dX2_act_130 rfl (lv_at hl 6 rfl) ?_
                    refine lv_iload hx hb dX2_act_131 (lv_at hl 1 rfl) ?_
                    refine z_callV (As := [.ref (ca j), .int kind, .int place, .int 0]) (rest := []) S (c_X2_lacksRight l A G M h0 cps (nI N) den fee gd (nI ec) dn (ca j) (cv j).1 (cv j).2.1 (cv j).2.2.1 (cv j).2.2.2.1 (cv j).2.2.2.2.1 (cv j).2.2.2.2.2.1 (cv j).2.2.2.2.2.2.1 (cv j).2.2.2.2.2.2.2.1 (cv j).2.2.2.2.2.2.2.2 (zHd (ch j)) kind place 0 h hd hcj) ok_X2_lacksRight kw_141 kw_143 ks_4 ⟨Nat.le_of_ble_eq_true rfl, Nat.le_of_ble_eq_true rfl⟩ hK hM hS hA h rfl rfl hl.1 rfl (Nat.le_of_ble_eq_true rfl) dX2_act_133 ⟨Nat.le_of_ble_eq_true rfl, Nat.le_of_ble_eq_true rfl⟩ (fun r_18 M_16 H locs hp_17 hM hS => ?_)
                    obtain ⟨rfl, hM9⟩ := hp_17
                    rw [hM9] at hM
                    refine W.eq (g2 := F0 m 136 ls [.int (zb (zLk dn kind place 0 (cv j).2.2.2.2.2.1 (cv j).2.2.2.2.1 (cv j).1))]) rfl ?_
                    refine lv_if_eq (tgt := 142) hx hb dX2_act_136 (by decide) (fun c_19 => ?_) (fun c_19 => ?_)
                    · -- 136 jump
                      rw [zb_0] at c_19
                      refine lv_aload_n hx hb dX2_act_142 rfl (lv_at hl 3 rfl) ?_
                      refine lv_aload hx hb dX2_act_143 (lv_at hl 2 rfl) ?_
                      refine lv_lload hx hb dX2_act_145 (lv_at hl 7 rfl) ?_
                      refine lv_iload_n hx hb dX2_act_147 rfl (lv_at hl 5 rfl) ?_
                      refine lv_iload hx hb dX2_act_148 (lv_at hl 1 rfl) ?_
                      refine z_callV (As := [.ref (ca j), .long day, .int kind, .int 0]) (rest := []) S (c_X2_enter l A G M h0 cps (nI N) den fee gd (nI ec) (ca j) (cv j).1 (cv j).2.1 (cv j).2.2.1 (cv j).2.2.2.1 (cv j).2.2.2.2.1 (cv j).2.2.2.2.2.1 (cv j).2.2.2.2.2.2.1 (cv j).2.2.2.2.2.2.2.1 (cv j).2.2.2.2.2.2.2.2 (ch j) day kind 0 h hcj (hcp j hj).2.1 (hsep.2.1 j hj) (Or.inl rfl)) ok_X2_enter kw_145 kw_147 ks_5 ⟨Nat.le_of_ble_eq_true rfl, Nat.le_of_ble_eq_true rfl⟩ hK hM hS hA h rfl rfl hl.1 rfl (Nat.le_of_ble_eq_true rfl) dX2_act_150 ⟨Nat.le_of_ble_eq_true rfl, Nat.le_of_ble_eq_true rfl⟩ (fun r_22 M_20 H locs hp_21 hM hS => ?_)
                      obtain ⟨rfl, q, hq, e1, e2, e3, e4⟩ := hp_21
                      have hI1 := hI.enter hj hq e1 e2 (by rw [← nI_1]; exact e3) e4
                      refine W.eq (g2 := F0 m 153 ls []) rfl ?_
                      refine lv_iload hx hb dX2_act_153 (lv_at hl 1 rfl) ?_
                      refine lv_if_ne (tgt := 166) hx hb dX2_act_155 (by decide) (fun c_23 => absurd c_23 (by decide)) (fun c_23 => ?_)
                      refine lv_aload_n hx hb dX2_act_158 rfl (lv_at hl 3 rfl) ?_
                      refine lv_aload hx hb dX2_act_159 (lv_at hl 2 rfl) ?_
                      refine lv_iload_n hx hb dX2_act_161 rfl (lv_at hl 5 rfl) ?_
                      refine lv_iload_n hx hb dX2_act_162 rfl (lv_at hl 6 rfl) ?_
                      refine z_callV (As := [.ref (ca j), .int kind, .int place]) (rest := []) S (c_X2_carryOut l A G M_20 h0 cps (nI N) den fee (if day < gd then gd else day) (nI ec + 1) fe (ca j) (cv j).1 (cv j).2.1 (cv j).2.2.1 (cv j).2.2.2.1 (cv j).2.2.2.2.1 (cv j).2.2.2.2.2.1 (cv j).2.2.2.2.2.2.1 (cv j).2.2.2.2.2.2.2.1 (cv j).2.2.2.2.2.2.2.2 (zHd (zIns day (q, day, kind, 0) (ch j))) kind place e3 hI1.2.2.2.1 e2) ok_X2_carryOut kw_175 kw_177 ks_6 ⟨Nat.le_of_ble_eq_true rfl, Nat.le_of_ble_eq_true rfl⟩ hK hM hS hA e3 rfl rfl hl.1 rfl (Nat.le_of_ble_eq_true rfl) dX2_act_163 ⟨Nat.le_of_ble_eq_true rfl, Nat.le_of_ble_eq_true rfl⟩ (fun r_26 M_24 H locs hp_25 hM hS => ?_)
                      obtain ⟨rfl, eM_27⟩ := hp_25
                      refine W.eq (g2 := F0 m 166 ls []) rfl ?_
                      refine lv_iload_n hx hb dX2_act_166 rfl (lv_at hl 5 rfl) ?_
                      exact z_iret S hr hlocks hM hS (by unfold zAQ; rw [hz]; dsimp only; rw [if_pos ⟨c_4, c_5, c_6, c_7, fun q => absurd q c_8, c_9⟩, zBe_n (Int64.not_lt.mpr c_10)]; rw [if_pos c_15, zb_f (Int64.not_lt.mpr c_10)]; rw [if_neg c_19, if_neg (Int64.not_lt.mpr c_10)]; exact ⟨rfl, q, by rw [eM_27]; exact zI_co hI1 hj⟩) (Nat.le_of_ble_eq_true rfl) (Nat.le_of_ble_eq_true rfl) dX2_act_167
                    · -- 136 on
                      rw [zb_0n] at c_19
                      refine lv_bipush (v := -3) hx hb dX2_act_139 (by decide) ?_
                      exact z_iret S hr hlocks hM hS (by unfold zAQ; rw [hz]; dsimp only; rw [if_pos ⟨c_4, c_5, c_6, c_7, fun q => absurd q c_8, c_9⟩, zBe_n (Int64.not_lt.mpr c_10)]; rw [if_pos c_15, zb_f (Int64.not_lt.mpr c_10)]; rw [if_pos c_19]; exact ⟨rfl, hI⟩) (Nat.le_of_ble_eq_true rfl) (Nat.le_of_ble_eq_true rfl) dX2_act_141
                  · -- 120 on
                    rw [zb_0] at c_15
                    refine lv_bipush (v := -2) hx hb dX2_act_123 (by decide) ?_
                    exact z_iret S hr hlocks hM hS (by unfold zAQ; rw [hz]; dsimp only; rw [if_pos ⟨c_4, c_5, c_6, c_7, fun q => absurd q c_8, c_9⟩, zBe_n (Int64.not_lt.mpr c_10)]; rw [if_neg c_15]; exact ⟨rfl, hI⟩) (Nat.le_of_ble_eq_true rfl) (Nat.le_of_ble_eq_true rfl) dX2_act_125
                · -- 82 on
                  rw [lg_cmp_ge] at c_10
                  refine lv_iconst (v := 1) hx hb dX2_act_85 (by decide) ?_
                  refine lv_goto (tgt := 90) hx hb dX2_act_86 (by decide) ?_
                  refine lv_istore (lv' := [(7, .int 1), (6, .ref (ca j)), (0, .ref h0), (1, .int k), (2, .int kind), (3, .int place), (4, .long day)]) hx hb dX2_act_90 hl (by decide) rfl (fun ls hl => ?_)
                  refine lv_iload hx hb dX2_act_92 (lv_at hl 0 rfl) ?_
                  refine lv_if_eq (tgt := 107) hx hb dX2_act_94 (by decide) (fun c_28 => absurd c_28 (by decide)) (fun c_28 => ?_)
                  refine lv_aload hx hb dX2_act_97 (lv_at hl 1 rfl) ?_
                  refine lv_lload hx hb dX2_act_99 (lv_at hl 6 rfl) ?_
                  refine z_callS (As := [.ref (ca j), .long day]) (rest := []) S (c_X2_stateOn l A G M (ca j) (cv j).1 (cv j).2.1 (cv j).2.2.1 (cv j).2.2.2.1 (cv j).2.2.2.2.1 (cv j).2.2.2.2.2.1 (cv j).2.2.2.2.2.2.1 (cv j).2.2.2.2.2.2.2.1 (cv j).2.2.2.2.2.2.2.2 (ch j) day hcj (hcp j hj).2.1) ok_X2_stateOn kw_132 kw_133 ⟨Nat.le_of_ble_eq_true rfl, Nat.le_of_ble_eq_true rfl⟩ hK hM hS hA rfl hl.1 rfl (Nat.le_of_ble_eq_true rfl) dX2_act_101 ⟨Nat.le_of_ble_eq_true rfl, Nat.le_of_ble_eq_true rfl⟩ (fun r_31 M_29 H locs hp_30 hM hS => ?_)
                  obtain ⟨rfl, hM9⟩ := hp_30
                  rw [hM9] at hM
                  refine W.eq (g2 := F0 m 104 ls [.int (zSt day (ch j))]) rfl ?_
                  refine lv_goto (tgt := 112) hx hb dX2_act_104 (by decide) ?_
                  refine lv_istore (lv' := [(8, .int (zSt day (ch j))), (7, .int 1), (6, .ref (ca j)), (0, .ref h0), (1, .int k), (2, .int kind), (3, .int place), (4, .long day)]) hx hb dX2_act_112 hl (by decide) rfl (fun ls hl => ?_)
                  refine lv_iload_n hx hb dX2_act_114 rfl (lv_at hl 5 rfl) ?_
                  refine lv_iload hx hb dX2_act_115 (lv_at hl 0 rfl) ?_
                  refine z_callS (As := [.int kind, .int (zSt day (ch j))]) (rest := []) S (c_X2_canFollow l A G M kind (zSt day (ch j))) ok_X2_canFollow kw_138 kw_139 ⟨Nat.le_of_ble_eq_true rfl, Nat.le_of_ble_eq_true rfl⟩ hK hM hS hA rfl hl.1 rfl (Nat.le_of_ble_eq_true rfl) dX2_act_117 ⟨Nat.le_of_ble_eq_true rfl, Nat.le_of_ble_eq_true rfl⟩ (fun r_34 M_32 H locs hp_33 hM hS => ?_)
                  obtain ⟨rfl, hM9⟩ := hp_33
                  rw [hM9] at hM
                  refine W.eq (g2 := F0 m 120 ls [.int (zb (zFo kind (zSt day (ch j))))]) rfl ?_
                  refine lv_if_ne (tgt := 126) hx hb dX2_act_120 (by decide) (fun c_35 => ?_) (fun c_35 => ?_)
                  · -- 120 jump
                    rw [zb_0n] at c_35
                    refine lv_aload_n hx hb dX2_act_126 rfl (lv_at hl 3 rfl) ?_
                    refine lv_aload hx hb dX2_act_127 (lv_at hl 2 rfl) ?_
                    refine lv_iload_n hx hb dX2_act_129 rfl (lv_at hl 5 rfl) ?_
                    refine lv_iload_n hx hb dX2_act_130 rfl (lv_at hl 6 rfl) ?_
                    refine lv_iload hx hb dX2_act_131 (lv_at hl 1 rfl) ?_
                    refine z_callV (As := [.ref (ca j), .int kind, .int place, .int 1]) (rest := []) S (c_X2_lacksRight l A G M h0 cps (nI N) den fee gd (nI ec) dn (ca j) (cv j).1 (cv j).2.1 (cv j).2.2.1 (cv j).2.2.2.1 (cv j).2.2.2.2.1 (cv j).2.2.2.2.2.1 (cv j).2.2.2.2.2.2.1 (cv j).2.2.2.2.2.2.2.1 (cv j).2.2.2.2.2.2.2.2 (zHd (ch j)) kind place 1 h hd hcj) ok_X2_lacksRight kw_141 kw_143 ks_4 ⟨Nat.le_of_ble_eq_true rfl, Nat.le_of_ble_eq_true rfl⟩ hK hM hS hA h rfl rfl hl.1 rfl (Nat.le_of_ble_eq_true rfl) dX2_act_133 ⟨Nat.le_of_ble_eq_true rfl, Nat.le_of_ble_eq_true rfl⟩ (fun r_38 M_36 H locs hp_37 hM hS => ?_)
                    obtain ⟨rfl, hM9⟩ := hp_37
                    rw [hM9] at hM
                    refine W.eq (g2 := F0 m 136 ls [.int (zb (zLk dn kind place 1 (cv j).2.2.2.2.2.1 (cv j).2.2.2.2.1 (cv j).1))]) rfl ?_
                    refine lv_if_eq (tgt := 142) hx hb dX2_act_136 (by decide) (fun c_39 => ?_) (fun c_39 => ?_)
                    · -- 136 jump
                      rw [zb_0] at c_39
                      refine lv_aload_n hx hb dX2_act_142 rfl (lv_at hl 3 rfl) ?_
                      refine lv_aload hx hb dX2_act_143 (lv_at hl 2 rfl) ?_
                      refine lv_lload hx hb dX2_act_145 (lv_at hl 7 rfl) ?_
                      refine lv_iload_n hx hb dX2_act_147 rfl (lv_at hl 5 rfl) ?_
                      refine lv_iload hx hb dX2_act_148 (lv_at hl 1 rfl) ?_
                      refine z_callV (As := [.ref (ca j), .long day, .int kind, .int 1]) (rest := []) S (c_X2_enter l A G M h0 cps (nI N) den fee gd (nI ec) (ca j) (cv j).1 (cv j).2.1 (cv j).2.2.1 (cv j).2.2.2.1 (cv j).2.2.2.2.1 (cv j).2.2.2.2.2.1 (cv j).2.2.2.2.2.2.1 (cv j).2.2.2.2.2.2.2.1 (cv j).2.2.2.2.2.2.2.2 (ch j) day kind 1 h hcj (hcp j hj).2.1 (hsep.2.1 j hj) (Or.inr rfl)) ok_X2_enter kw_145 kw_147 ks_5 ⟨Nat.le_of_ble_eq_true rfl, Nat.le_of_ble_eq_true rfl⟩ hK hM hS hA h rfl rfl hl.1 rfl (Nat.le_of_ble_eq_true rfl) dX2_act_150 ⟨Nat.le_of_ble_eq_true rfl, Nat.le_of_ble_eq_true rfl⟩ (fun r_42 M_40 H locs hp_41 hM hS => ?_)
                      obtain ⟨rfl, q, hq, e1, e2, e3, e4⟩ := hp_41
                      have hI1 := hI.enter hj hq e1 e2 (by rw [← nI_1]; exact e3) e4
                      refine W.eq (g2 := F0 m 153 ls []) rfl ?_
                      refine lv_iload hx hb dX2_act_153 (lv_at hl 1 rfl) ?_
                      refine lv_if_ne (tgt := 166) hx hb dX2_act_155 (by decide) (fun c_43 => ?_) (fun c_43 => absurd c_43 (by decide))
                      refine lv_iload_n hx hb dX2_act_166 rfl (lv_at hl 5 rfl) ?_
                      exact z_iret S hr hlocks hM hS (by unfold zAQ; rw [hz]; dsimp only; rw [if_pos ⟨c_4, c_5, c_6, c_7, fun q => absurd q c_8, c_9⟩, zBe_l (Int64.not_le.mp c_10)]; rw [if_pos c_35, zb_t (Int64.not_le.mp c_10)]; rw [if_neg c_39, if_pos (Int64.not_le.mp c_10)]; exact ⟨rfl, q, hI1⟩) (Nat.le_of_ble_eq_true rfl) (Nat.le_of_ble_eq_true rfl) dX2_act_167
                    · -- 136 on
                      rw [zb_0n] at c_39
                      refine lv_bipush (v := -3) hx hb dX2_act_139 (by decide) ?_
                      exact z_iret S hr hlocks hM hS (by unfold zAQ; rw [hz]; dsimp only; rw [if_pos ⟨c_4, c_5, c_6, c_7, fun q => absurd q c_8, c_9⟩, zBe_l (Int64.not_le.mp c_10)]; rw [if_pos c_35, zb_t (Int64.not_le.mp c_10)]; rw [if_pos c_39]; exact ⟨rfl, hI⟩) (Nat.le_of_ble_eq_true rfl) (Nat.le_of_ble_eq_true rfl) dX2_act_141
                  · -- 120 on
                    rw [zb_0] at c_35
                    refine lv_bipush (v := -2) hx hb dX2_act_123 (by decide) ?_
                    exact z_iret S hr hlocks hM hS (by unfold zAQ; rw [hz]; dsimp only; rw [if_pos ⟨c_4, c_5, c_6, c_7, fun q => absurd q c_8, c_9⟩, zBe_l (Int64.not_le.mp c_10)]; rw [if_neg c_35]; exact ⟨rfl, hI⟩) (Nat.le_of_ble_eq_true rfl) (Nat.le_of_ble_eq_true rfl) dX2_act_125
              · -- 70 on
                refine lv_iconst (v := -1) hx hb dX2_act_73 (by decide) ?_
                exact z_iret S hr hlocks hM hS (by unfold zAQ; rw [hz]; dsimp only; rw [if_neg (fun q => c_9 q.2.2.2.2.2)]; exact ⟨rfl, hI⟩) (Nat.le_of_ble_eq_true rfl) (Nat.le_of_ble_eq_true rfl) dX2_act_74
            · -- 42 on
              have hk2 := c_8
              refine lv_iload_n hx hb dX2_act_45 rfl (lv_at hl 4 rfl) ?_
              refine z_callS (As := [.int place]) (rest := []) S (c_X2_isPlace l A G M place) ok_X2_isPlace kw_52 kw_53 ⟨Nat.le_of_ble_eq_true rfl, Nat.le_of_ble_eq_true rfl⟩ hK hM hS hA rfl hl.1 rfl (Nat.le_of_ble_eq_true rfl) dX2_act_46 ⟨Nat.le_of_ble_eq_true rfl, Nat.le_of_ble_eq_true rfl⟩ (fun r_46 M_44 H locs hp_45 hM hS => ?_)
              obtain ⟨rfl, hM9⟩ := hp_45
              rw [hM9] at hM
              refine W.eq (g2 := F0 m 49 ls [.int (zb (zPl place))]) rfl ?_
              refine lv_if_eq (tgt := 61) hx hb dX2_act_49 (by decide) (fun c_47 => ?_) (fun c_47 => ?_)
              · -- 49 jump
                rw [zb_0] at c_47
                refine lv_iconst (v := -1) hx hb dX2_act_61 (by decide) ?_
                exact z_iret S hr hlocks hM hS (by unfold zAQ; rw [hz]; dsimp only; rw [if_neg (fun q => c_47 (q.2.2.2.2.1 hk2).1)]; exact ⟨rfl, hI⟩) (Nat.le_of_ble_eq_true rfl) (Nat.le_of_ble_eq_true rfl) dX2_act_62
              · -- 49 on
                rw [zb_0n] at c_47
                refine lv_iload_n hx hb dX2_act_52 rfl (lv_at hl 4 rfl) ?_
                refine lv_aload hx hb dX2_act_53 (lv_at hl 0 rfl) ?_
                refine z_getN (v := .int ((cv j).2.2.2.2.1)) S kX0 hK hM hcj 4 (by decide) kw_86 rfl dX2_act_55 ?_
                refine lv_icmp_ne (tgt := 63) hx hb dX2_act_58 (by decide) (fun c_48 => ?_) (fun c_48 => ?_)
                · -- 58 jump
                  refine lv_aload_n hx hb dX2_act_63 rfl (lv_at hl 1 rfl) ?_
                  refine z_get (v := .int (nI ec)) S kX2 hK hM h 5 (by decide) kw_21 rfl dX2_act_64 ?_
                  refine lv_sipush (v := 512) hx hb dX2_act_67 (by decide) ?_
                  refine lv_icmp_lt (tgt := 75) hx hb dX2_act_70 (by decide) (fun c_49 => ?_) (fun c_49 => ?_)
                  · -- 70 jump
                    refine lv_lload hx hb dX2_act_75 (lv_at hl 5 rfl) ?_
                    refine lv_aload_n hx hb dX2_act_77 rfl (lv_at hl 1 rfl) ?_
                    refine z_get (v := .long gd) S kX2 hK hM h 4 (by decide) kw_20 rfl dX2_act_78 ?_
                    refine W.lcmp hx hb dX2_act_81 ?_
                    refine lv_if_ge (tgt := 89) hx hb dX2_act_82 (by decide) (fun c_50 => ?_) (fun c_50 => ?_)
                    · -- 82 jump
                      rw [lg_cmp_ge] at c_50
                      refine lv_iconst (v := 0) hx hb dX2_act_89 (by decide) ?_
                      refine lv_istore (lv' := [(7, .int 0), (6, .ref (ca j)), (0, .ref h0), (1, .int k), (2, .int kind), (3, .int place), (4, .long day)]) hx hb dX2_act_90 hl (by decide) rfl (fun ls hl => ?_)
                      refine lv_iload hx hb dX2_act_92 (lv_at hl 0 rfl) ?_
                      refine lv_if_eq (tgt := 107) hx hb dX2_act_94 (by decide) (fun c_51 => ?_) (fun c_51 => absurd c_51 (by decide))
                      refine lv_aload hx hb dX2_act_107 (lv_at hl 1 rfl) ?_
                      refine z_getN (v := .int ((cv j).2.2.2.2.2.1)) S kX0 hK hM hcj 5 (by decide) kw_88 rfl dX2_act_109 ?_
                      refine lv_istore (lv' := [(8, .int ((cv j).2.2.2.2.2.1)), (7, .int 0), (6, .ref (ca j)), (0, .ref h0), (1, .int k), (2, .int kind), (3, .int place), (4, .long day)]) hx hb dX2_act_112 hl (by decide) rfl (fun ls hl => ?_)
                      refine lv_iload_n hx hb dX2_act_114 rfl (lv_at hl 5 rfl) ?_
                      refine lv_iload hx hb dX2_act_115 (lv_at hl 0 rfl) ?_
                      refine z_callS (As := [.int kind, .int ((cv j).2.2.2.2.2.1)]) (rest := []) S (c_X2_canFollow l A G M kind ((cv j).2.2.2.2.2.1)) ok_X2_canFollow kw_138 kw_139 ⟨Nat.le_of_ble_eq_true rfl, Nat.le_of_ble_eq_true rfl⟩ hK hM hS hA rfl hl.1 rfl (Nat.le_of_ble_eq_true rfl) dX2_act_117 ⟨Nat.le_of_ble_eq_true rfl, Nat.le_of_ble_eq_true rfl⟩ (fun r_54 M_52 H locs hp_53 hM hS => ?_)
                      obtain ⟨rfl, hM9⟩ := hp_53
                      rw [hM9] at hM
                      refine W.eq (g2 := F0 m 120 ls [.int (zb (zFo kind ((cv j).2.2.2.2.2.1)))]) rfl ?_
                      refine lv_if_ne (tgt := 126) hx hb dX2_act_120 (by decide) (fun c_55 => ?_) (fun c_55 => ?_)
                      · -- 120 jump
                        rw [zb_0n] at c_55
                        refine lv_aload_n hx hb dX2_act_126 rfl (lv_at hl 3 rfl) ?_
                        refine lv_aload hx hb dX2_act_127 (lv_at hl 2 rfl) ?_
                        refine lv_iload_n hx hb dX2_act_129 rfl (lv_at hl 5 rfl) ?_
                        refine lv_iload_n hx hb dX2_act_130 rfl (lv_at hl 6 rfl) ?_
                        refine lv_iload hx hb dX2_act_131 (lv_at hl 1 rfl) ?_
                        refine z_callV (As := [.ref (ca j), .int kind, .int place, .int 0]) (rest := []) S (c_X2_lacksRight l A G M h0 cps (nI N) den fee gd (nI ec) dn (ca j) (cv j).1 (cv j).2.1 (cv j).2.2.1 (cv j).2.2.2.1 (cv j).2.2.2.2.1 (cv j).2.2.2.2.2.1 (cv j).2.2.2.2.2.2.1 (cv j).2.2.2.2.2.2.2.1 (cv j).2.2.2.2.2.2.2.2 (zHd (ch j)) kind place 0 h hd hcj) ok_X2_lacksRight kw_141 kw_143 ks_4 ⟨Nat.le_of_ble_eq_true rfl, Nat.le_of_ble_eq_true rfl⟩ hK hM hS hA h rfl rfl hl.1 rfl (Nat.le_of_ble_eq_true rfl) dX2_act_133 ⟨Nat.le_of_ble_eq_true rfl, Nat.le_of_ble_eq_true rfl⟩ (fun r_58 M_56 H locs hp_57 hM hS => ?_)
                        obtain ⟨rfl, hM9⟩ := hp_57
                        rw [hM9] at hM
                        refine W.eq (g2 := F0 m 136 ls [.int (zb (zLk dn kind place 0 (cv j).2.2.2.2.2.1 (cv j).2.2.2.2.1 (cv j).1))]) rfl ?_
                        refine lv_if_eq (tgt := 142) hx hb dX2_act_136 (by decide) (fun c_59 => ?_) (fun c_59 => ?_)
                        · -- 136 jump
                          rw [zb_0] at c_59
                          refine lv_aload_n hx hb dX2_act_142 rfl (lv_at hl 3 rfl) ?_
                          refine lv_aload hx hb dX2_act_143 (lv_at hl 2 rfl) ?_
                          refine lv_lload hx hb dX2_act_145 (lv_at hl 7 rfl) ?_
                          refine lv_iload_n hx hb dX2_act_147 rfl (lv_at hl 5 rfl) ?_
                          refine lv_iload hx hb dX2_act_148 (lv_at hl 1 rfl) ?_
                          refine z_callV (As := [.ref (ca j), .long day, .int kind, .int 0]) (rest := []) S (c_X2_enter l A G M h0 cps (nI N) den fee gd (nI ec) (ca j) (cv j).1 (cv j).2.1 (cv j).2.2.1 (cv j).2.2.2.1 (cv j).2.2.2.2.1 (cv j).2.2.2.2.2.1 (cv j).2.2.2.2.2.2.1 (cv j).2.2.2.2.2.2.2.1 (cv j).2.2.2.2.2.2.2.2 (ch j) day kind 0 h hcj (hcp j hj).2.1 (hsep.2.1 j hj) (Or.inl rfl)) ok_X2_enter kw_145 kw_147 ks_5 ⟨Nat.le_of_ble_eq_true rfl, Nat.le_of_ble_eq_true rfl⟩ hK hM hS hA h rfl rfl hl.1 rfl (Nat.le_of_ble_eq_true rfl) dX2_act_150 ⟨Nat.le_of_ble_eq_true rfl, Nat.le_of_ble_eq_true rfl⟩ (fun r_62 M_60 H locs hp_61 hM hS => ?_)
                          obtain ⟨rfl, q, hq, e1, e2, e3, e4⟩ := hp_61
                          have hI1 := hI.enter hj hq e1 e2 (by rw [← nI_1]; exact e3) e4
                          refine W.eq (g2 := F0 m 153 ls []) rfl ?_
                          refine lv_iload hx hb dX2_act_153 (lv_at hl 1 rfl) ?_
                          refine lv_if_ne (tgt := 166) hx hb dX2_act_155 (by decide) (fun c_63 => absurd c_63 (by decide)) (fun c_63 => ?_)
                          refine lv_aload_n hx hb dX2_act_158 rfl (lv_at hl 3 rfl) ?_
                          refine lv_aload hx hb dX2_act_159 (lv_at hl 2 rfl) ?_
                          refine lv_iload_n hx hb dX2_act_161 rfl (lv_at hl 5 rfl) ?_
                          refine lv_iload_n hx hb dX2_act_162 rfl (lv_at hl 6 rfl) ?_
                          refine z_callV (As := [.ref (ca j), .int kind, .int place]) (rest := []) S (c_X2_carryOut l A G M_60 h0 cps (nI N) den fee (if day < gd then gd else day) (nI ec + 1) fe (ca j) (cv j).1 (cv j).2.1 (cv j).2.2.1 (cv j).2.2.2.1 (cv j).2.2.2.2.1 (cv j).2.2.2.2.2.1 (cv j).2.2.2.2.2.2.1 (cv j).2.2.2.2.2.2.2.1 (cv j).2.2.2.2.2.2.2.2 (zHd (zIns day (q, day, kind, 0) (ch j))) kind place e3 hI1.2.2.2.1 e2) ok_X2_carryOut kw_175 kw_177 ks_6 ⟨Nat.le_of_ble_eq_true rfl, Nat.le_of_ble_eq_true rfl⟩ hK hM hS hA e3 rfl rfl hl.1 rfl (Nat.le_of_ble_eq_true rfl) dX2_act_163 ⟨Nat.le_of_ble_eq_true rfl, Nat.le_of_ble_eq_true rfl⟩ (fun r_66 M_64 H locs hp_65 hM hS => ?_)
                          obtain ⟨rfl, eM_67⟩ := hp_65
                          refine W.eq (g2 := F0 m 166 ls []) rfl ?_
                          refine lv_iload_n hx hb dX2_act_166 rfl (lv_at hl 5 rfl) ?_
                          exact z_iret S hr hlocks hM hS (by unfold zAQ; rw [hz]; dsimp only; rw [if_pos ⟨c_4, c_5, c_6, c_7, fun _ => ⟨c_47, c_48⟩, c_49⟩, zBe_n (Int64.not_lt.mpr c_50)]; rw [if_pos c_55, zb_f (Int64.not_lt.mpr c_50)]; rw [if_neg c_59, if_neg (Int64.not_lt.mpr c_50)]; exact ⟨rfl, q, by rw [eM_67]; exact zI_co hI1 hj⟩) (Nat.le_of_ble_eq_true rfl) (Nat.le_of_ble_eq_true rfl) dX2_act_167
                        · -- 136 on
                          rw [zb_0n] at c_59
                          refine lv_bipush (v := -3) hx hb dX2_act_139 (by decide) ?_
                          exact z_iret S hr hlocks hM hS (by unfold zAQ; rw [hz]; dsimp only; rw [if_pos ⟨c_4, c_5, c_6, c_7, fun _ => ⟨c_47, c_48⟩, c_49⟩, zBe_n (Int64.not_lt.mpr c_50)]; rw [if_pos c_55, zb_f (Int64.not_lt.mpr c_50)]; rw [if_pos c_59]; exact ⟨rfl, hI⟩) (Nat.le_of_ble_eq_true rfl) (Nat.le_of_ble_eq_true rfl) dX2_act_141
                      · -- 120 on
                        rw [zb_0] at c_55
                        refine lv_bipush (v := -2) hx hb dX2_act_123 (by decide) ?_
                        exact z_iret S hr hlocks hM hS (by unfold zAQ; rw [hz]; dsimp only; rw [if_pos ⟨c_4, c_5, c_6, c_7, fun _ => ⟨c_47, c_48⟩, c_49⟩, zBe_n (Int64.not_lt.mpr c_50)]; rw [if_neg c_55]; exact ⟨rfl, hI⟩) (Nat.le_of_ble_eq_true rfl) (Nat.le_of_ble_eq_true rfl) dX2_act_125
                    · -- 82 on
                      rw [lg_cmp_ge] at c_50
                      refine lv_iconst (v := 1) hx hb dX2_act_85 (by decide) ?_
                      refine lv_goto (tgt := 90) hx hb dX2_act_86 (by decide) ?_
                      refine lv_istore (lv' := [(7, .int 1), (6, .ref (ca j)), (0, .ref h0), (1, .int k), (2, .int kind), (3, .int place), (4, .long day)]) hx hb dX2_act_90 hl (by decide) rfl (fun ls hl => ?_)
                      refine lv_iload hx hb dX2_act_92 (lv_at hl 0 rfl) ?_
                      refine lv_if_eq (tgt := 107) hx hb dX2_act_94 (by decide) (fun c_68 => absurd c_68 (by decide)) (fun c_68 => ?_)
                      refine lv_aload hx hb dX2_act_97 (lv_at hl 1 rfl) ?_
                      refine lv_lload hx hb dX2_act_99 (lv_at hl 6 rfl) ?_
                      refine z_callS (As := [.ref (ca j), .long day]) (rest := []) S (c_X2_stateOn l A G M (ca j) (cv j).1 (cv j).2.1 (cv j).2.2.1 (cv j).2.2.2.1 (cv j).2.2.2.2.1 (cv j).2.2.2.2.2.1 (cv j).2.2.2.2.2.2.1 (cv j).2.2.2.2.2.2.2.1 (cv j).2.2.2.2.2.2.2.2 (ch j) day hcj (hcp j hj).2.1) ok_X2_stateOn kw_132 kw_133 ⟨Nat.le_of_ble_eq_true rfl, Nat.le_of_ble_eq_true rfl⟩ hK hM hS hA rfl hl.1 rfl (Nat.le_of_ble_eq_true rfl) dX2_act_101 ⟨Nat.le_of_ble_eq_true rfl, Nat.le_of_ble_eq_true rfl⟩ (fun r_71 M_69 H locs hp_70 hM hS => ?_)
                      obtain ⟨rfl, hM9⟩ := hp_70
                      rw [hM9] at hM
                      refine W.eq (g2 := F0 m 104 ls [.int (zSt day (ch j))]) rfl ?_
                      refine lv_goto (tgt := 112) hx hb dX2_act_104 (by decide) ?_
                      refine lv_istore (lv' := [(8, .int (zSt day (ch j))), (7, .int 1), (6, .ref (ca j)), (0, .ref h0), (1, .int k), (2, .int kind), (3, .int place), (4, .long day)]) hx hb dX2_act_112 hl (by decide) rfl (fun ls hl => ?_)
                      refine lv_iload_n hx hb dX2_act_114 rfl (lv_at hl 5 rfl) ?_
                      refine lv_iload hx hb dX2_act_115 (lv_at hl 0 rfl) ?_
                      refine z_callS (As := [.int kind, .int (zSt day (ch j))]) (rest := []) S (c_X2_canFollow l A G M kind (zSt day (ch j))) ok_X2_canFollow kw_138 kw_139 ⟨Nat.le_of_ble_eq_true rfl, Nat.le_of_ble_eq_true rfl⟩ hK hM hS hA rfl hl.1 rfl (Nat.le_of_ble_eq_true rfl) dX2_act_117 ⟨Nat.le_of_ble_eq_true rfl, Nat.le_of_ble_eq_true rfl⟩ (fun r_74 M_72 H locs hp_73 hM hS => ?_)
                      obtain ⟨rfl, hM9⟩ := hp_73
                      rw [hM9] at hM
                      refine W.eq (g2 := F0 m 120 ls [.int (zb (zFo kind (zSt day (ch j))))]) rfl ?_
                      refine lv_if_ne (tgt := 126) hx hb dX2_act_120 (by decide) (fun c_75 => ?_) (fun c_75 => ?_)
                      · -- 120 jump
                        rw [zb_0n] at c_75
                        refine lv_aload_n hx hb dX2_act_126 rfl (lv_at hl 3 rfl) ?_
                        refine lv_aload hx hb dX2_act_127 (lv_at hl 2 rfl) ?_
                        refine lv_iload_n hx hb dX2_act_129 rfl (lv_at hl 5 rfl) ?_
                        refine lv_iload_n hx hb dX2_act_130 rfl (lv_at hl 6 rfl) ?_
                        refine lv_iload hx hb dX2_act_131 (lv_at hl 1 rfl) ?_
                        refine z_callV (As := [.ref (ca j), .int kind, .int place, .int 1]) (rest := []) S (c_X2_lacksRight l A G M h0 cps (nI N) den fee gd (nI ec) dn (ca j) (cv j).1 (cv j).2.1 (cv j).2.2.1 (cv j).2.2.2.1 (cv j).2.2.2.2.1 (cv j).2.2.2.2.2.1 (cv j).2.2.2.2.2.2.1 (cv j).2.2.2.2.2.2.2.1 (cv j).2.2.2.2.2.2.2.2 (zHd (ch j)) kind place 1 h hd hcj) ok_X2_lacksRight kw_141 kw_143 ks_4 ⟨Nat.le_of_ble_eq_true rfl, Nat.le_of_ble_eq_true rfl⟩ hK hM hS hA h rfl rfl hl.1 rfl (Nat.le_of_ble_eq_true rfl) dX2_act_133 ⟨Nat.le_of_ble_eq_true rfl, Nat.le_of_ble_eq_true rfl⟩ (fun r_78 M_76 H locs hp_77 hM hS => ?_)
                        obtain ⟨rfl, hM9⟩ := hp_77
                        rw [hM9] at hM
                        refine W.eq (g2 := F0 m 136 ls [.int (zb (zLk dn kind place 1 (cv j).2.2.2.2.2.1 (cv j).2.2.2.2.1 (cv j).1))]) rfl ?_
                        refine lv_if_eq (tgt := 142) hx hb dX2_act_136 (by decide) (fun c_79 => ?_) (fun c_79 => ?_)
                        · -- 136 jump
                          rw [zb_0] at c_79
                          refine lv_aload_n hx hb dX2_act_142 rfl (lv_at hl 3 rfl) ?_
                          refine lv_aload hx hb dX2_act_143 (lv_at hl 2 rfl) ?_
                          refine lv_lload hx hb dX2_act_145 (lv_at hl 7 rfl) ?_
                          refine lv_iload_n hx hb dX2_act_147 rfl (lv_at hl 5 rfl) ?_
                          refine lv_iload hx hb dX2_act_148 (lv_at hl 1 rfl) ?_
                          refine z_callV (As := [.ref (ca j), .long day, .int kind, .int 1]) (rest := []) S (c_X2_enter l A G M h0 cps (nI N) den fee gd (nI ec) (ca j) (cv j).1 (cv j).2.1 (cv j).2.2.1 (cv j).2.2.2.1 (cv j).2.2.2.2.1 (cv j).2.2.2.2.2.1 (cv j).2.2.2.2.2.2.1 (cv j).2.2.2.2.2.2.2.1 (cv j).2.2.2.2.2.2.2.2 (ch j) day kind 1 h hcj (hcp j hj).2.1 (hsep.2.1 j hj) (Or.inr rfl)) ok_X2_enter kw_145 kw_147 ks_5 ⟨Nat.le_of_ble_eq_true rfl, Nat.le_of_ble_eq_true rfl⟩ hK hM hS hA h rfl rfl hl.1 rfl (Nat.le_of_ble_eq_true rfl) dX2_act_150 ⟨Nat.le_of_ble_eq_true rfl, Nat.le_of_ble_eq_true rfl⟩ (fun r_82 M_80 H locs hp_81 hM hS => ?_)
                          obtain ⟨rfl, q, hq, e1, e2, e3, e4⟩ := hp_81
                          have hI1 := hI.enter hj hq e1 e2 (by rw [← nI_1]; exact e3) e4
                          refine W.eq (g2 := F0 m 153 ls []) rfl ?_
                          refine lv_iload hx hb dX2_act_153 (lv_at hl 1 rfl) ?_
                          refine lv_if_ne (tgt := 166) hx hb dX2_act_155 (by decide) (fun c_83 => ?_) (fun c_83 => absurd c_83 (by decide))
                          refine lv_iload_n hx hb dX2_act_166 rfl (lv_at hl 5 rfl) ?_
                          exact z_iret S hr hlocks hM hS (by unfold zAQ; rw [hz]; dsimp only; rw [if_pos ⟨c_4, c_5, c_6, c_7, fun _ => ⟨c_47, c_48⟩, c_49⟩, zBe_l (Int64.not_le.mp c_50)]; rw [if_pos c_75, zb_t (Int64.not_le.mp c_50)]; rw [if_neg c_79, if_pos (Int64.not_le.mp c_50)]; exact ⟨rfl, q, hI1⟩) (Nat.le_of_ble_eq_true rfl) (Nat.le_of_ble_eq_true rfl) dX2_act_167
                        · -- 136 on
                          rw [zb_0n] at c_79
                          refine lv_bipush (v := -3) hx hb dX2_act_139 (by decide) ?_
                          exact z_iret S hr hlocks hM hS (by unfold zAQ; rw [hz]; dsimp only; rw [if_pos ⟨c_4, c_5, c_6, c_7, fun _ => ⟨c_47, c_48⟩, c_49⟩, zBe_l (Int64.not_le.mp c_50)]; rw [if_pos c_75, zb_t (Int64.not_le.mp c_50)]; rw [if_pos c_79]; exact ⟨rfl, hI⟩) (Nat.le_of_ble_eq_true rfl) (Nat.le_of_ble_eq_true rfl) dX2_act_141
                      · -- 120 on
                        rw [zb_0] at c_75
                        refine lv_bipush (v := -2) hx hb dX2_act_123 (by decide) ?_
                        exact z_iret S hr hlocks hM hS (by unfold zAQ; rw [hz]; dsimp only; rw [if_pos ⟨c_4, c_5, c_6, c_7, fun _ => ⟨c_47, c_48⟩, c_49⟩, zBe_l (Int64.not_le.mp c_50)]; rw [if_neg c_75]; exact ⟨rfl, hI⟩) (Nat.le_of_ble_eq_true rfl) (Nat.le_of_ble_eq_true rfl) dX2_act_125
                  · -- 70 on
                    refine lv_iconst (v := -1) hx hb dX2_act_73 (by decide) ?_
                    exact z_iret S hr hlocks hM hS (by unfold zAQ; rw [hz]; dsimp only; rw [if_neg (fun q => c_49 q.2.2.2.2.2)]; exact ⟨rfl, hI⟩) (Nat.le_of_ble_eq_true rfl) (Nat.le_of_ble_eq_true rfl) dX2_act_74
                · -- 58 on
                  refine lv_iconst (v := -1) hx hb dX2_act_61 (by decide) ?_
                  exact z_iret S hr hlocks hM hS (by unfold zAQ; rw [hz]; dsimp only; rw [if_neg (fun q => (q.2.2.2.2.1 hk2).2 c_48)]; exact ⟨rfl, hI⟩) (Nat.le_of_ble_eq_true rfl) (Nat.le_of_ble_eq_true rfl) dX2_act_62
          · -- 35 on
            rw [lg_cmp_le] at c_7
            refine lv_iconst (v := -1) hx hb dX2_act_38 (by decide) ?_
            exact z_iret S hr hlocks hM hS (by unfold zAQ; rw [hz]; dsimp only; rw [if_neg (fun q => c_7 q.2.2.2.1)]; exact ⟨rfl, hI⟩) (Nat.le_of_ble_eq_true rfl) (Nat.le_of_ble_eq_true rfl) dX2_act_39
end
section
set_option maxHeartbeats 4000000 in
set_option maxRecDepth 100000 in
theorem c_X3_isCopy (l : Launch) (A : Nat → Prop) (G : zG) (M : zMap) (m0 : Nat) (ar : Nat → Nat) (th : Int32) (co ac : Nat) (gr : Int64) (F : Nat → Nat → Int32) (L : Nat → Nat → Int64) (k : Int32) (hJ : zJ G M m0 ar th (nI co) (nI ac) gr F L) (hco : co ≤ 80) : zMet l yX3_isCopy cX3_isCopy 2 (some .boolean) { frames := 0, cells := 0, slots := 0, locals := 0 } [.ref m0, .int k] A G M (fun r M1 => r = some (.int (zb ((zIx co k).isSome = true))) ∧ M1 = M) := by
  refine zMet.of (by decide) (Nat.le_of_ble_eq_true rfl) ?_
  intro p e s m args below meth c ls S hr hlocks hnm hK hM hA hS hl
  have hl : lv_has ls 2 [(0, .ref m0), (1, .int k)] := hl
  have hx := S.1
  have hb := S.2.1
  have hown := S.2.2.2.1
  have hts := S.2.2.2.2
  have hr : meth.sig.returnType = some .boolean := hr
  refine lv_iload_n hx hb dX3_isCopy_0 rfl (lv_at hl 1 rfl) ?_
  refine lv_if_le (tgt := 16) hx hb dX3_isCopy_1 (by decide) (fun c_1 => ?_) (fun c_1 => ?_)
  · -- 1 jump
    refine lv_iconst (v := 0) hx hb dX3_isCopy_16 (by decide) ?_
    exact z_zret S hr hlocks (by decide) hM hS ⟨by rw [zb_f (zisC1 c_1)], rfl⟩ (Nat.le_of_ble_eq_true rfl) (Nat.le_of_ble_eq_true rfl) dX3_isCopy_17
  · -- 1 on
    refine lv_iload_n hx hb dX3_isCopy_4 rfl (lv_at hl 1 rfl) ?_
    refine lv_aload_n hx hb dX3_isCopy_5 rfl (lv_at hl 0 rfl) ?_
    refine z_get (v := .int (nI co)) S kX3 hK hM hJ.1 1 (by decide) kw_221 rfl dX3_isCopy_6 ?_
    refine lv_icmp_gt (tgt := 16) hx hb dX3_isCopy_9 (by decide) (fun c_2 => ?_) (fun c_2 => ?_)
    · -- 9 jump
      refine lv_iconst (v := 0) hx hb dX3_isCopy_16 (by decide) ?_
      exact z_zret S hr hlocks (by decide) hM hS ⟨by rw [zb_f (zisC2 c_2)], rfl⟩ (Nat.le_of_ble_eq_true rfl) (Nat.le_of_ble_eq_true rfl) dX3_isCopy_17
    · -- 9 on
      refine lv_iconst (v := 1) hx hb dX3_isCopy_12 (by decide) ?_
      refine lv_goto (tgt := 17) hx hb dX3_isCopy_13 (by decide) ?_
      exact z_zret S hr hlocks (by decide) hM hS ⟨by rw [zb_t (zisC c_1 c_2)], rfl⟩ (Nat.le_of_ble_eq_true rfl) (Nat.le_of_ble_eq_true rfl) dX3_isCopy_17
set_option maxHeartbeats 4000000 in
set_option maxRecDepth 100000 in
theorem c_X3_place (l : Launch) (A : Nat → Prop) (G : zG) (M : zMap) (m0 : Nat) (ar : Nat → Nat) (th : Int32) (co ac : Nat) (gr : Int64) (F : Nat → Nat → Int32) (L : Nat → Nat → Int64) (k : Int32) (hJ : zJ G M m0 ar th (nI co) (nI ac) gr F L) (hco : co ≤ 80) : zMet l yX3_place cX3_place 2 (some .int) { frames := 1, cells := 0, slots := 0, locals := 40 } [.ref m0, .int k] A G M (fun r M1 => r = some (.int (zsel co k (-1) (fun j => F 4 (j + 1)))) ∧ zJ G M1 m0 ar 0 (nI co) (nI ac) gr F L) := by
  refine zMet.of (by decide) (Nat.le_of_ble_eq_true rfl) ?_
  intro p e s m args below meth c ls S hr hlocks hnm hK hM hA hS hl
  have hl : lv_has ls 2 [(0, .ref m0), (1, .int k)] := hl
  have hx := S.1
  have hb := S.2.1
  have hown := S.2.2.2.1
  have hts := S.2.2.2.2
  have hr : meth.sig.returnType = some .int := hr
  refine lv_aload_n hx hb dX3_place_0 rfl (lv_at hl 0 rfl) ?_
  refine lv_iconst (v := 0) hx hb dX3_place_1 (by decide) ?_
  refine z_put S kX3 hK hM hS hJ.1 0 (by decide) kw_220 rfl rfl rfl (Nat.le_of_ble_eq_true rfl) dX3_place_2 (fun H locs hM hS => ?_)
  obtain ⟨M_1, eM_2⟩ : ∃ z : zMap, z = zu M m0 (oM 0 (nI co) ar (nI ac) gr) := ⟨_, rfl⟩
  replace hM : zM A G M_1 H := by rw [eM_2]; exact hM
  have hJ_3 : zJ G M_1 m0 ar 0 (nI co) (nI ac) gr F L := by rw [eM_2]; exact hJ.setO _ _ _ _
  refine lv_aload_n hx hb dX3_place_5 rfl (lv_at hl 0 rfl) ?_
  refine lv_iload_n hx hb dX3_place_6 rfl (lv_at hl 1 rfl) ?_
  refine z_callV (As := [.int k]) (rest := []) S (c_X3_isCopy l A G M_1 m0 ar 0 co ac gr F L k hJ_3 hco) ok_X3_isCopy kw_307 kw_309 ks_7 ⟨Nat.le_of_ble_eq_true rfl, Nat.le_of_ble_eq_true rfl⟩ hK hM hS hA hJ_3.1 rfl rfl hl.1 rfl (Nat.le_of_ble_eq_true rfl) dX3_place_7 ⟨Nat.le_of_ble_eq_true rfl, Nat.le_of_ble_eq_true rfl⟩ (fun r_6 M_4 H locs hp_5 hM hS => ?_)
  obtain ⟨rfl, hM9⟩ := hp_5
  rw [hM9] at hM
  refine W.eq (g2 := F0 m 10 ls [.int (zb ((zIx co k).isSome = true))]) rfl ?_
  refine lv_if_eq (tgt := 22) hx hb dX3_place_10 (by decide) (fun c_7 => ?_) (fun c_7 => ?_)
  · -- 10 jump
    rw [zb_0] at c_7
    have hz := zisN c_7
    refine lv_iconst (v := -1) hx hb dX3_place_22 (by decide) ?_
    exact z_iret S hr hlocks hM hS ⟨by rw [zsel_n hz], hJ_3⟩ (Nat.le_of_ble_eq_true rfl) (Nat.le_of_ble_eq_true rfl) dX3_place_23
  · -- 10 on
    rw [zb_0n] at c_7
    obtain ⟨j, hz⟩ := zisS c_7
    obtain ⟨hj, rfl⟩ := zIx_some hco hz
    have hcl : (nI (j + 1)).toNatClampNeg = j + 1 := nI_clamp (by omega)
    refine lv_aload_n hx hb dX3_place_13 rfl (lv_at hl 0 rfl) ?_
    refine z_get (v := .ref (ar 4)) S kX3 hK hM hJ_3.1 6 (by decide) kw_226 rfl dX3_place_14 ?_
    refine lv_iload_n hx hb dX3_place_17 rfl (lv_at hl 1 rfl) ?_
    refine z_iald S hK hM 0 (show M_1 (ar 4) = some (.inl (G.2.2 0, 81, .inl (F 4))) from hJ_3.2.1 4 (by decide)) rfl (zvp81 hj hco) dX3_place_18 ?_
    rw [hcl]
    refine lv_goto (tgt := 23) hx hb dX3_place_19 (by decide) ?_
    exact z_iret S hr hlocks hM hS ⟨by rw [zsel_s hz], hJ_3⟩ (Nat.le_of_ble_eq_true rfl) (Nat.le_of_ble_eq_true rfl) dX3_place_23
set_option maxHeartbeats 4000000 in
set_option maxRecDepth 100000 in
theorem c_X3_home (l : Launch) (A : Nat → Prop) (G : zG) (M : zMap) (m0 : Nat) (ar : Nat → Nat) (th : Int32) (co ac : Nat) (gr : Int64) (F : Nat → Nat → Int32) (L : Nat → Nat → Int64) (k : Int32) (hJ : zJ G M m0 ar th (nI co) (nI ac) gr F L) (hco : co ≤ 80) : zMet l yX3_home cX3_home 2 (some .int) { frames := 1, cells := 0, slots := 0, locals := 40 } [.ref m0, .int k] A G M (fun r M1 => r = some (.int (zsel co k (-1) (fun j => F 3 (j + 1)))) ∧ zJ G M1 m0 ar 0 (nI co) (nI ac) gr F L) := by
  refine zMet.of (by decide) (Nat.le_of_ble_eq_true rfl) ?_
  intro p e s m args below meth c ls S hr hlocks hnm hK hM hA hS hl
  have hl : lv_has ls 2 [(0, .ref m0), (1, .int k)] := hl
  have hx := S.1
  have hb := S.2.1
  have hown := S.2.2.2.1
  have hts := S.2.2.2.2
  have hr : meth.sig.returnType = some .int := hr
  refine lv_aload_n hx hb dX3_home_0 rfl (lv_at hl 0 rfl) ?_
  refine lv_iconst (v := 0) hx hb dX3_home_1 (by decide) ?_
  refine z_put S kX3 hK hM hS hJ.1 0 (by decide) kw_220 rfl rfl rfl (Nat.le_of_ble_eq_true rfl) dX3_home_2 (fun H locs hM hS => ?_)
  obtain ⟨M_1, eM_2⟩ : ∃ z : zMap, z = zu M m0 (oM 0 (nI co) ar (nI ac) gr) := ⟨_, rfl⟩
  replace hM : zM A G M_1 H := by rw [eM_2]; exact hM
  have hJ_3 : zJ G M_1 m0 ar 0 (nI co) (nI ac) gr F L := by rw [eM_2]; exact hJ.setO _ _ _ _
  refine lv_aload_n hx hb dX3_home_5 rfl (lv_at hl 0 rfl) ?_
  refine lv_iload_n hx hb dX3_home_6 rfl (lv_at hl 1 rfl) ?_
  refine z_callV (As := [.int k]) (rest := []) S (c_X3_isCopy l A G M_1 m0 ar 0 co ac gr F L k hJ_3 hco) ok_X3_isCopy kw_307 kw_309 ks_7 ⟨Nat.le_of_ble_eq_true rfl, Nat.le_of_ble_eq_true rfl⟩ hK hM hS hA hJ_3.1 rfl rfl hl.1 rfl (Nat.le_of_ble_eq_true rfl) dX3_home_7 ⟨Nat.le_of_ble_eq_true rfl, Nat.le_of_ble_eq_true rfl⟩ (fun r_6 M_4 H locs hp_5 hM hS => ?_)
  obtain ⟨rfl, hM9⟩ := hp_5
  rw [hM9] at hM
  refine W.eq (g2 := F0 m 10 ls [.int (zb ((zIx co k).isSome = true))]) rfl ?_
  refine lv_if_eq (tgt := 22) hx hb dX3_home_10 (by decide) (fun c_7 => ?_) (fun c_7 => ?_)
  · -- 10 jump
    rw [zb_0] at c_7
    have hz := zisN c_7
    refine lv_iconst (v := -1) hx hb dX3_home_22 (by decide) ?_
    exact z_iret S hr hlocks hM hS ⟨by rw [zsel_n hz], hJ_3⟩ (Nat.le_of_ble_eq_true rfl) (Nat.le_of_ble_eq_true rfl) dX3_home_23
  · -- 10 on
    rw [zb_0n] at c_7
    obtain ⟨j, hz⟩ := zisS c_7
    obtain ⟨hj, rfl⟩ := zIx_some hco hz
    have hcl : (nI (j + 1)).toNatClampNeg = j + 1 := nI_clamp (by omega)
    refine lv_aload_n hx hb dX3_home_13 rfl (lv_at hl 0 rfl) ?_
    refine z_get (v := .ref (ar 3)) S kX3 hK hM hJ_3.1 5 (by decide) kw_225 rfl dX3_home_14 ?_
    refine lv_iload_n hx hb dX3_home_17 rfl (lv_at hl 1 rfl) ?_
    refine z_iald S hK hM 0 (show M_1 (ar 3) = some (.inl (G.2.2 0, 81, .inl (F 3))) from hJ_3.2.1 3 (by decide)) rfl (zvp81 hj hco) dX3_home_18 ?_
    rw [hcl]
    refine lv_goto (tgt := 23) hx hb dX3_home_19 (by decide) ?_
    exact z_iret S hr hlocks hM hS ⟨by rw [zsel_s hz], hJ_3⟩ (Nat.le_of_ble_eq_true rfl) (Nat.le_of_ble_eq_true rfl) dX3_home_23
set_option maxHeartbeats 4000000 in
set_option maxRecDepth 100000 in
theorem c_X3_owed (l : Launch) (A : Nat → Prop) (G : zG) (M : zMap) (m0 : Nat) (ar : Nat → Nat) (th : Int32) (co ac : Nat) (gr : Int64) (F : Nat → Nat → Int32) (L : Nat → Nat → Int64) (k : Int32) (hJ : zJ G M m0 ar th (nI co) (nI ac) gr F L) (hco : co ≤ 80) : zMet l yX3_owed cX3_owed 2 (some .int) { frames := 1, cells := 0, slots := 0, locals := 40 } [.ref m0, .int k] A G M (fun r M1 => r = some (.int (zsel co k (-1) (fun j => F 8 (j + 1)))) ∧ zJ G M1 m0 ar 0 (nI co) (nI ac) gr F L) := by
  refine zMet.of (by decide) (Nat.le_of_ble_eq_true rfl) ?_
  intro p e s m args below meth c ls S hr hlocks hnm hK hM hA hS hl
  have hl : lv_has ls 2 [(0, .ref m0), (1, .int k)] := hl
  have hx := S.1
  have hb := S.2.1
  have hown := S.2.2.2.1
  have hts := S.2.2.2.2
  have hr : meth.sig.returnType = some .int := hr
  refine lv_aload_n hx hb dX3_owed_0 rfl (lv_at hl 0 rfl) ?_
  refine lv_iconst (v := 0) hx hb dX3_owed_1 (by decide) ?_
  refine z_put S kX3 hK hM hS hJ.1 0 (by decide) kw_220 rfl rfl rfl (Nat.le_of_ble_eq_true rfl) dX3_owed_2 (fun H locs hM hS => ?_)
  obtain ⟨M_1, eM_2⟩ : ∃ z : zMap, z = zu M m0 (oM 0 (nI co) ar (nI ac) gr) := ⟨_, rfl⟩
  replace hM : zM A G M_1 H := by rw [eM_2]; exact hM
  have hJ_3 : zJ G M_1 m0 ar 0 (nI co) (nI ac) gr F L := by rw [eM_2]; exact hJ.setO _ _ _ _
  refine lv_aload_n hx hb dX3_owed_5 rfl (lv_at hl 0 rfl) ?_
  refine lv_iload_n hx hb dX3_owed_6 rfl (lv_at hl 1 rfl) ?_
  refine z_callV (As := [.int k]) (rest := []) S (c_X3_isCopy l A G M_1 m0 ar 0 co ac gr F L k hJ_3 hco) ok_X3_isCopy kw_307 kw_309 ks_7 ⟨Nat.le_of_ble_eq_true rfl, Nat.le_of_ble_eq_true rfl⟩ hK hM hS hA hJ_3.1 rfl rfl hl.1 rfl (Nat.le_of_ble_eq_true rfl) dX3_owed_7 ⟨Nat.le_of_ble_eq_true rfl, Nat.le_of_ble_eq_true rfl⟩ (fun r_6 M_4 H locs hp_5 hM hS => ?_)
  obtain ⟨rfl, hM9⟩ := hp_5
  rw [hM9] at hM
  refine W.eq (g2 := F0 m 10 ls [.int (zb ((zIx co k).isSome = true))]) rfl ?_
  refine lv_if_eq (tgt := 22) hx hb dX3_owed_10 (by decide) (fun c_7 => ?_) (fun c_7 => ?_)
  · -- 10 jump
    rw [zb_0] at c_7
    have hz := zisN c_7
    refine lv_iconst (v := -1) hx hb dX3_owed_22 (by decide) ?_
    exact z_iret S hr hlocks hM hS ⟨by rw [zsel_n hz], hJ_3⟩ (Nat.le_of_ble_eq_true rfl) (Nat.le_of_ble_eq_true rfl) dX3_owed_23
  · -- 10 on
    rw [zb_0n] at c_7
    obtain ⟨j, hz⟩ := zisS c_7
    obtain ⟨hj, rfl⟩ := zIx_some hco hz
    have hcl : (nI (j + 1)).toNatClampNeg = j + 1 := nI_clamp (by omega)
    refine lv_aload_n hx hb dX3_owed_13 rfl (lv_at hl 0 rfl) ?_
    refine z_get (v := .ref (ar 8)) S kX3 hK hM hJ_3.1 10 (by decide) kw_230 rfl dX3_owed_14 ?_
    refine lv_iload_n hx hb dX3_owed_17 rfl (lv_at hl 1 rfl) ?_
    refine z_iald S hK hM 0 (show M_1 (ar 8) = some (.inl (G.2.2 0, 81, .inl (F 8))) from hJ_3.2.1 8 (by decide)) rfl (zvp81 hj hco) dX3_owed_18 ?_
    rw [hcl]
    refine lv_goto (tgt := 23) hx hb dX3_owed_19 (by decide) ?_
    exact z_iret S hr hlocks hM hS ⟨by rw [zsel_s hz], hJ_3⟩ (Nat.le_of_ble_eq_true rfl) (Nat.le_of_ble_eq_true rfl) dX3_owed_23
set_option maxHeartbeats 4000000 in
set_option maxRecDepth 100000 in
theorem c_X3_floats (l : Launch) (A : Nat → Prop) (G : zG) (M : zMap) (m0 : Nat) (ar : Nat → Nat) (th : Int32) (co ac : Nat) (gr : Int64) (F : Nat → Nat → Int32) (L : Nat → Nat → Int64) (k on : Int32) (hJ : zJ G M m0 ar th (nI co) (nI ac) gr F L) (hco : co ≤ 80) (hbool : zbool on) (hfl : ∀ i, zbool (F 6 i)) : zMet l yX3_floats cX3_floats 4 (some .boolean) { frames := 1, cells := 0, slots := 0, locals := 40 } [.ref m0, .int k, .int on] A G M (fun r M1 => r = some (.int (zsel co k 0 (fun j => F 6 (j + 1)))) ∧ zJ G M1 m0 ar 0 (nI co) (nI ac) gr (zFlm co k on F) L) := by
  refine zMet.of (by decide) (Nat.le_of_ble_eq_true rfl) ?_
  intro p e s m args below meth c ls S hr hlocks hnm hK hM hA hS hl
  have hl : lv_has ls 4 [(0, .ref m0), (1, .int k), (2, .int on)] := hl
  have hx := S.1
  have hb := S.2.1
  have hown := S.2.2.2.1
  have hts := S.2.2.2.2
  have hr : meth.sig.returnType = some .boolean := hr
  refine lv_aload_n hx hb dX3_floats_0 rfl (lv_at hl 0 rfl) ?_
  refine lv_iconst (v := 0) hx hb dX3_floats_1 (by decide) ?_
  refine z_put S kX3 hK hM hS hJ.1 0 (by decide) kw_220 rfl rfl rfl (Nat.le_of_ble_eq_true rfl) dX3_floats_2 (fun H locs hM hS => ?_)
  obtain ⟨M_1, eM_2⟩ : ∃ z : zMap, z = zu M m0 (oM 0 (nI co) ar (nI ac) gr) := ⟨_, rfl⟩
  replace hM : zM A G M_1 H := by rw [eM_2]; exact hM
  have hJ_3 : zJ G M_1 m0 ar 0 (nI co) (nI ac) gr F L := by rw [eM_2]; exact hJ.setO _ _ _ _
  refine lv_aload_n hx hb dX3_floats_5 rfl (lv_at hl 0 rfl) ?_
  refine lv_iload_n hx hb dX3_floats_6 rfl (lv_at hl 1 rfl) ?_
  refine z_callV (As := [.int k]) (rest := []) S (c_X3_isCopy l A G M_1 m0 ar 0 co ac gr F L k hJ_3 hco) ok_X3_isCopy kw_307 kw_309 ks_7 ⟨Nat.le_of_ble_eq_true rfl, Nat.le_of_ble_eq_true rfl⟩ hK hM hS hA hJ_3.1 rfl rfl hl.1 rfl (Nat.le_of_ble_eq_true rfl) dX3_floats_7 ⟨Nat.le_of_ble_eq_true rfl, Nat.le_of_ble_eq_true rfl⟩ (fun r_6 M_4 H locs hp_5 hM hS => ?_)
  obtain ⟨rfl, hM9⟩ := hp_5
  rw [hM9] at hM
  refine W.eq (g2 := F0 m 10 ls [.int (zb ((zIx co k).isSome = true))]) rfl ?_
  refine lv_if_ne (tgt := 15) hx hb dX3_floats_10 (by decide) (fun c_7 => ?_) (fun c_7 => ?_)
  · -- 10 jump
    rw [zb_0n] at c_7
    obtain ⟨j, hz⟩ := zisS c_7
    obtain ⟨hj, rfl⟩ := zIx_some hco hz
    have hcl : (nI (j + 1)).toNatClampNeg = j + 1 := nI_clamp (by omega)
    refine lv_aload_n hx hb dX3_floats_15 rfl (lv_at hl 0 rfl) ?_
    refine z_get (v := .ref (ar 6)) S kX3 hK hM hJ_3.1 8 (by decide) kw_228 rfl dX3_floats_16 ?_
    refine lv_iload_n hx hb dX3_floats_19 rfl (lv_at hl 1 rfl) ?_
    refine z_zald S hK hM 1 (show M_1 (ar 6) = some (.inl (G.2.2 1, 81, .inl (F 6))) from hJ_3.2.1 6 (by decide)) rfl (zvp81 hj hco) dX3_floats_20 ?_
    rw [hcl]
    refine lv_istore_n (lv' := [(3, .int (F 6 (j + 1))), (0, .ref m0), (1, .int (nI (j + 1))), (2, .int on)]) hx hb dX3_floats_21 rfl hl (by decide) rfl (fun ls hl => ?_)
    refine lv_aload_n hx hb dX3_floats_22 rfl (lv_at hl 1 rfl) ?_
    refine z_get (v := .ref (ar 6)) S kX3 hK hM hJ_3.1 8 (by decide) kw_228 rfl dX3_floats_23 ?_
    refine lv_iload_n hx hb dX3_floats_26 rfl (lv_at hl 2 rfl) ?_
    refine lv_iload_n hx hb dX3_floats_27 rfl (lv_at hl 3 rfl) ?_
    refine z_zast S hK hM hS 1 (show M_1 (ar 6) = some (.inl (G.2.2 1, 81, .inl (F 6))) from hJ_3.2.1 6 (by decide)) rfl (zvp81 hj hco) (z_nb hbool) dX3_floats_28 (fun H locs hM hS => ?_)
    rw [hcl] at hM
    obtain ⟨M_8, eM_9⟩ : ∃ z : zMap, z = zu M_1 (ar 6) (.inl ((G.2.2 1), 81, .inl (upd (F 6) (j + 1) on))) := ⟨_, rfl⟩
    replace hM : zM A G M_8 H := by rw [eM_9]; exact hM
    have hJ_10 : zJ G M_8 m0 ar 0 (nI co) (nI ac) gr (zuf F 6 (upd (F 6) (j + 1) on)) L := by rw [eM_9]; exact hJ_3.setI 6 (by decide) rfl _
    refine lv_iload_n hx hb dX3_floats_29 rfl (lv_at hl 0 rfl) ?_
    exact z_zret S hr hlocks (z_nb (hfl (j + 1))) hM hS ⟨by rw [zsel_s hz], by unfold zFlm; rw [hz]; exact hJ_10⟩ (Nat.le_of_ble_eq_true rfl) (Nat.le_of_ble_eq_true rfl) dX3_floats_30
  · -- 10 on
    rw [zb_0] at c_7
    have hz := zisN c_7
    refine lv_iconst (v := 0) hx hb dX3_floats_13 (by decide) ?_
    exact z_zret S hr hlocks (by decide) hM hS ⟨by rw [zsel_n hz], by unfold zFlm; rw [hz]; exact hJ_3⟩ (Nat.le_of_ble_eq_true rfl) (Nat.le_of_ble_eq_true rfl) dX3_floats_14
set_option maxHeartbeats 4000000 in
set_option maxRecDepth 100000 in
theorem c_X3_right (l : Launch) (A : Nat → Prop) (G : zG) (M : zMap) (m0 : Nat) (ar : Nat → Nat) (th : Int32) (co ac : Nat) (gr : Int64) (F : Nat → Nat → Int32) (L : Nat → Nat → Int64) (p0 p1 on : Int32) (hJ : zJ G M m0 ar th (nI co) (nI ac) gr F L) (hco : co ≤ 80) : zMet l yX3_right cX3_right 5 (some .boolean) { frames := 1, cells := 0, slots := 0, locals := 40 } [.ref m0, .int p0, .int p1, .int on] A G M (fun r M1 => r = some (.int (zb (zRi (F 9) p0 p1))) ∧ zJ G M1 m0 ar 0 (nI co) (nI ac) gr (zuf F 9 (zRt p0 p1 on (F 9))) L) := by
  refine zMet.of (by decide) (Nat.le_of_ble_eq_true rfl) ?_
  intro p e s m args below meth c ls S hr hlocks hnm hK hM hA hS hl
  have hl : lv_has ls 5 [(0, .ref m0), (1, .int p0), (2, .int p1), (3, .int on)] := hl
  have hx := S.1
  have hb := S.2.1
  have hown := S.2.2.2.1
  have hts := S.2.2.2.2
  have hr : meth.sig.returnType = some .boolean := hr
  refine lv_aload_n hx hb dX3_right_0 rfl (lv_at hl 0 rfl) ?_
  refine lv_iconst (v := 0) hx hb dX3_right_1 (by decide) ?_
  refine z_put S kX3 hK hM hS hJ.1 0 (by decide) kw_220 rfl rfl rfl (Nat.le_of_ble_eq_true rfl) dX3_right_2 (fun H locs hM hS => ?_)
  obtain ⟨M_1, eM_2⟩ : ∃ z : zMap, z = zu M m0 (oM 0 (nI co) ar (nI ac) gr) := ⟨_, rfl⟩
  replace hM : zM A G M_1 H := by rw [eM_2]; exact hM
  have hJ_3 : zJ G M_1 m0 ar 0 (nI co) (nI ac) gr F L := by rw [eM_2]; exact hJ.setO _ _ _ _
  refine lv_iload_n hx hb dX3_right_5 rfl (lv_at hl 1 rfl) ?_
  refine lv_if_lt (tgt := 24) hx hb dX3_right_6 (by decide) (fun c_4 => ?_) (fun c_4 => ?_)
  · -- 6 jump
    refine lv_iconst (v := 0) hx hb dX3_right_24 (by decide) ?_
    exact z_zret S hr hlocks (by decide) hM hS ⟨by rw [zb_f (fun q => (fun (q : zPl p0 ∧ zTy p1) => q.1.1 c_4) ⟨q.1, q.2.1⟩)], by unfold zRt; rw [if_neg (fun q => q.1.1 c_4), zuf_id]; exact hJ_3⟩ (Nat.le_of_ble_eq_true rfl) (Nat.le_of_ble_eq_true rfl) dX3_right_25
  · -- 6 on
    refine lv_iload_n hx hb dX3_right_9 rfl (lv_at hl 1 rfl) ?_
    refine lv_bipush (v := 9) hx hb dX3_right_10 (by decide) ?_
    refine lv_icmp_gt (tgt := 24) hx hb dX3_right_12 (by decide) (fun c_5 => ?_) (fun c_5 => ?_)
    · -- 12 jump
      refine lv_iconst (v := 0) hx hb dX3_right_24 (by decide) ?_
      exact z_zret S hr hlocks (by decide) hM hS ⟨by rw [zb_f (fun q => (fun (q : zPl p0 ∧ zTy p1) => q.1.2 (gt9 c_5)) ⟨q.1, q.2.1⟩)], by unfold zRt; rw [if_neg (fun q => q.1.2 (gt9 c_5)), zuf_id]; exact hJ_3⟩ (Nat.le_of_ble_eq_true rfl) (Nat.le_of_ble_eq_true rfl) dX3_right_25
    · -- 12 on
      refine lv_iload_n hx hb dX3_right_15 rfl (lv_at hl 2 rfl) ?_
      refine lv_if_lt (tgt := 24) hx hb dX3_right_16 (by decide) (fun c_6 => ?_) (fun c_6 => ?_)
      · -- 16 jump
        refine lv_iconst (v := 0) hx hb dX3_right_24 (by decide) ?_
        exact z_zret S hr hlocks (by decide) hM hS ⟨by rw [zb_f (fun q => (fun (q : zPl p0 ∧ zTy p1) => q.2.1 c_6) ⟨q.1, q.2.1⟩)], by unfold zRt; rw [if_neg (fun q => q.2.1 c_6), zuf_id]; exact hJ_3⟩ (Nat.le_of_ble_eq_true rfl) (Nat.le_of_ble_eq_true rfl) dX3_right_25
      · -- 16 on
        refine lv_iload_n hx hb dX3_right_19 rfl (lv_at hl 2 rfl) ?_
        refine lv_iconst (v := 5) hx hb dX3_right_20 (by decide) ?_
        refine lv_icmp_le (tgt := 26) hx hb dX3_right_21 (by decide) (fun c_7 => ?_) (fun c_7 => ?_)
        · -- 21 jump
          refine lv_aload_n hx hb dX3_right_26 rfl (lv_at hl 0 rfl) ?_
          refine z_get (v := .ref (ar 9)) S kX3 hK hM hJ_3.1 11 (by decide) kw_231 rfl dX3_right_27 ?_
          refine lv_bipush (v := 6) hx hb dX3_right_30 (by decide) ?_
          refine lv_iload_n hx hb dX3_right_32 rfl (lv_at hl 1 rfl) ?_
          refine lv_imul hx hb dX3_right_33 ?_
          refine lv_iload_n hx hb dX3_right_34 rfl (lv_at hl 2 rfl) ?_
          refine lv_iadd hx hb dX3_right_35 ?_
          refine z_zald S hK hM 1 (show M_1 (ar 9) = some (.inl (G.2.2 1, 60, .inl (F 9))) from hJ_3.2.1 9 (by decide)) rfl (zRi_in6 (zPl_9 c_4 c_5) (zTy_5 c_6 c_7)) dX3_right_36 ?_
          refine lv_if_ne (tgt := 44) hx hb dX3_right_37 (by decide) (fun c_8 => ?_) (fun c_8 => ?_)
          · -- 37 jump
            refine lv_iconst (v := 0) hx hb dX3_right_44 (by decide) ?_
            refine lv_istore (lv' := [(4, .int 0), (0, .ref m0), (1, .int p0), (2, .int p1), (3, .int on)]) hx hb dX3_right_45 hl (by decide) rfl (fun ls hl => ?_)
            refine lv_aload_n hx hb dX3_right_47 rfl (lv_at hl 1 rfl) ?_
            refine z_get (v := .ref (ar 9)) S kX3 hK hM hJ_3.1 11 (by decide) kw_231 rfl dX3_right_48 ?_
            refine lv_bipush (v := 6) hx hb dX3_right_51 (by decide) ?_
            refine lv_iload_n hx hb dX3_right_53 rfl (lv_at hl 2 rfl) ?_
            refine lv_imul hx hb dX3_right_54 ?_
            refine lv_iload_n hx hb dX3_right_55 rfl (lv_at hl 3 rfl) ?_
            refine lv_iadd hx hb dX3_right_56 ?_
            refine lv_iload_n hx hb dX3_right_57 rfl (lv_at hl 4 rfl) ?_
            refine lv_if_ne (tgt := 65) hx hb dX3_right_58 (by decide) (fun c_9 => ?_) (fun c_9 => ?_)
            · -- 58 jump
              refine lv_iconst (v := 0) hx hb dX3_right_65 (by decide) ?_
              refine z_zast S hK hM hS 1 (show M_1 (ar 9) = some (.inl (G.2.2 1, 60, .inl (F 9))) from hJ_3.2.1 9 (by decide)) rfl (zRi_in6 (zPl_9 c_4 c_5) (zTy_5 c_6 c_7)) (by decide) dX3_right_66 (fun H locs hM hS => ?_)
              obtain ⟨M_10, eM_11⟩ : ∃ z : zMap, z = zu M_1 (ar 9) (.inl ((G.2.2 1), 60, .inl (upd (F 9) ((6 * p0) + p1).toNatClampNeg 0))) := ⟨_, rfl⟩
              replace hM : zM A G M_10 H := by rw [eM_11]; exact hM
              have hJ_12 : zJ G M_10 m0 ar 0 (nI co) (nI ac) gr (zuf F 9 (upd (F 9) ((6 * p0) + p1).toNatClampNeg 0)) L := by rw [eM_11]; exact hJ_3.setI 9 (by decide) rfl _
              refine lv_iload hx hb dX3_right_67 (lv_at hl 0 rfl) ?_
              exact z_zret S hr hlocks (by decide) hM hS ⟨by rw [zb_f (fun q => c_8 (by have h8 := q.2.2; rw [zix6] at h8; exact h8))], by unfold zRt; rw [if_pos ⟨zPl_9 c_4 c_5, zTy_5 c_6 c_7⟩, zix6, zb_f c_9]; exact hJ_12⟩ (Nat.le_of_ble_eq_true rfl) (Nat.le_of_ble_eq_true rfl) dX3_right_69
            · -- 58 on
              refine lv_iconst (v := 1) hx hb dX3_right_61 (by decide) ?_
              refine lv_goto (tgt := 66) hx hb dX3_right_62 (by decide) ?_
              refine z_zast S hK hM hS 1 (show M_1 (ar 9) = some (.inl (G.2.2 1, 60, .inl (F 9))) from hJ_3.2.1 9 (by decide)) rfl (zRi_in6 (zPl_9 c_4 c_5) (zTy_5 c_6 c_7)) (by decide) dX3_right_66 (fun H locs hM hS => ?_)
              obtain ⟨M_13, eM_14⟩ : ∃ z : zMap, z = zu M_1 (ar 9) (.inl ((G.2.2 1), 60, .inl (upd (F 9) ((6 * p0) + p1).toNatClampNeg 1))) := ⟨_, rfl⟩
              replace hM : zM A G M_13 H := by rw [eM_14]; exact hM
              have hJ_15 : zJ G M_13 m0 ar 0 (nI co) (nI ac) gr (zuf F 9 (upd (F 9) ((6 * p0) + p1).toNatClampNeg 1)) L := by rw [eM_14]; exact hJ_3.setI 9 (by decide) rfl _
              refine lv_iload hx hb dX3_right_67 (lv_at hl 0 rfl) ?_
              exact z_zret S hr hlocks (by decide) hM hS ⟨by rw [zb_f (fun q => c_8 (by have h8 := q.2.2; rw [zix6] at h8; exact h8))], by unfold zRt; rw [if_pos ⟨zPl_9 c_4 c_5, zTy_5 c_6 c_7⟩, zix6, zb_t c_9]; exact hJ_15⟩ (Nat.le_of_ble_eq_true rfl) (Nat.le_of_ble_eq_true rfl) dX3_right_69
          · -- 37 on
            refine lv_iconst (v := 1) hx hb dX3_right_40 (by decide) ?_
            refine lv_goto (tgt := 45) hx hb dX3_right_41 (by decide) ?_
            refine lv_istore (lv' := [(4, .int 1), (0, .ref m0), (1, .int p0), (2, .int p1), (3, .int on)]) hx hb dX3_right_45 hl (by decide) rfl (fun ls hl => ?_)
            refine lv_aload_n hx hb dX3_right_47 rfl (lv_at hl 1 rfl) ?_
            refine z_get (v := .ref (ar 9)) S kX3 hK hM hJ_3.1 11 (by decide) kw_231 rfl dX3_right_48 ?_
            refine lv_bipush (v := 6) hx hb dX3_right_51 (by decide) ?_
            refine lv_iload_n hx hb dX3_right_53 rfl (lv_at hl 2 rfl) ?_
            refine lv_imul hx hb dX3_right_54 ?_
            refine lv_iload_n hx hb dX3_right_55 rfl (lv_at hl 3 rfl) ?_
            refine lv_iadd hx hb dX3_right_56 ?_
            refine lv_iload_n hx hb dX3_right_57 rfl (lv_at hl 4 rfl) ?_
            refine lv_if_ne (tgt := 65) hx hb dX3_right_58 (by decide) (fun c_16 => ?_) (fun c_16 => ?_)
            · -- 58 jump
              refine lv_iconst (v := 0) hx hb dX3_right_65 (by decide) ?_
              refine z_zast S hK hM hS 1 (show M_1 (ar 9) = some (.inl (G.2.2 1, 60, .inl (F 9))) from hJ_3.2.1 9 (by decide)) rfl (zRi_in6 (zPl_9 c_4 c_5) (zTy_5 c_6 c_7)) (by decide) dX3_right_66 (fun H locs hM hS => ?_)
              obtain ⟨M_17, eM_18⟩ : ∃ z : zMap, z = zu M_1 (ar 9) (.inl ((G.2.2 1), 60, .inl (upd (F 9) ((6 * p0) + p1).toNatClampNeg 0))) := ⟨_, rfl⟩
              replace hM : zM A G M_17 H := by rw [eM_18]; exact hM
              have hJ_19 : zJ G M_17 m0 ar 0 (nI co) (nI ac) gr (zuf F 9 (upd (F 9) ((6 * p0) + p1).toNatClampNeg 0)) L := by rw [eM_18]; exact hJ_3.setI 9 (by decide) rfl _
              refine lv_iload hx hb dX3_right_67 (lv_at hl 0 rfl) ?_
              exact z_zret S hr hlocks (by decide) hM hS ⟨by rw [zb_t ⟨zPl_9 c_4 c_5, zTy_5 c_6 c_7, by rw [zix6]; exact c_8⟩], by unfold zRt; rw [if_pos ⟨zPl_9 c_4 c_5, zTy_5 c_6 c_7⟩, zix6, zb_f c_16]; exact hJ_19⟩ (Nat.le_of_ble_eq_true rfl) (Nat.le_of_ble_eq_true rfl) dX3_right_69
            · -- 58 on
              refine lv_iconst (v := 1) hx hb dX3_right_61 (by decide) ?_
              refine lv_goto (tgt := 66) hx hb dX3_right_62 (by decide) ?_
              refine z_zast S hK hM hS 1 (show M_1 (ar 9) = some (.inl (G.2.2 1, 60, .inl (F 9))) from hJ_3.2.1 9 (by decide)) rfl (zRi_in6 (zPl_9 c_4 c_5) (zTy_5 c_6 c_7)) (by decide) dX3_right_66 (fun H locs hM hS => ?_)
              obtain ⟨M_20, eM_21⟩ : ∃ z : zMap, z = zu M_1 (ar 9) (.inl ((G.2.2 1), 60, .inl (upd (F 9) ((6 * p0) + p1).toNatClampNeg 1))) := ⟨_, rfl⟩
              replace hM : zM A G M_20 H := by rw [eM_21]; exact hM
              have hJ_22 : zJ G M_20 m0 ar 0 (nI co) (nI ac) gr (zuf F 9 (upd (F 9) ((6 * p0) + p1).toNatClampNeg 1)) L := by rw [eM_21]; exact hJ_3.setI 9 (by decide) rfl _
              refine lv_iload hx hb dX3_right_67 (lv_at hl 0 rfl) ?_
              exact z_zret S hr hlocks (by decide) hM hS ⟨by rw [zb_t ⟨zPl_9 c_4 c_5, zTy_5 c_6 c_7, by rw [zix6]; exact c_8⟩], by unfold zRt; rw [if_pos ⟨zPl_9 c_4 c_5, zTy_5 c_6 c_7⟩, zix6, zb_t c_16]; exact hJ_22⟩ (Nat.le_of_ble_eq_true rfl) (Nat.le_of_ble_eq_true rfl) dX3_right_69
        · -- 21 on
          refine lv_iconst (v := 0) hx hb dX3_right_24 (by decide) ?_
          exact z_zret S hr hlocks (by decide) hM hS ⟨by rw [zb_f (fun q => (fun (q : zPl p0 ∧ zTy p1) => q.2.2 (le5 c_7)) ⟨q.1, q.2.1⟩)], by unfold zRt; rw [if_neg (fun q => q.2.2 (le5 c_7)), zuf_id]; exact hJ_3⟩ (Nat.le_of_ble_eq_true rfl) (Nat.le_of_ble_eq_true rfl) dX3_right_25
set_option maxHeartbeats 4000000 in
set_option maxRecDepth 100000 in
theorem c_X3_fee (l : Launch) (A : Nat → Prop) (G : zG) (M : zMap) (m0 : Nat) (ar : Nat → Nat) (th : Int32) (co ac : Nat) (gr : Int64) (F : Nat → Nat → Int32) (L : Nat → Nat → Int64) (p0 p1 : Int32) (hJ : zJ G M m0 ar th (nI co) (nI ac) gr F L) (hco : co ≤ 80) : zMet l yX3_fee cX3_fee 4 (some .int) { frames := 1, cells := 0, slots := 0, locals := 40 } [.ref m0, .int p0, .int p1] A G M (fun r M1 => r = some (.int (zFr p0 p1 (F 10))) ∧ zJ G M1 m0 ar 0 (nI co) (nI ac) gr (zuf F 10 (zFe p0 p1 (F 10))) L) := by
  refine zMet.of (by decide) (Nat.le_of_ble_eq_true rfl) ?_
  intro p e s m args below meth c ls S hr hlocks hnm hK hM hA hS hl
  have hl : lv_has ls 4 [(0, .ref m0), (1, .int p0), (2, .int p1)] := hl
  have hx := S.1
  have hb := S.2.1
  have hown := S.2.2.2.1
  have hts := S.2.2.2.2
  have hr : meth.sig.returnType = some .int := hr
  refine lv_aload_n hx hb dX3_fee_0 rfl (lv_at hl 0 rfl) ?_
  refine lv_iconst (v := 0) hx hb dX3_fee_1 (by decide) ?_
  refine z_put S kX3 hK hM hS hJ.1 0 (by decide) kw_220 rfl rfl rfl (Nat.le_of_ble_eq_true rfl) dX3_fee_2 (fun H locs hM hS => ?_)
  obtain ⟨M_1, eM_2⟩ : ∃ z : zMap, z = zu M m0 (oM 0 (nI co) ar (nI ac) gr) := ⟨_, rfl⟩
  replace hM : zM A G M_1 H := by rw [eM_2]; exact hM
  have hJ_3 : zJ G M_1 m0 ar 0 (nI co) (nI ac) gr F L := by rw [eM_2]; exact hJ.setO _ _ _ _
  refine lv_iload_n hx hb dX3_fee_5 rfl (lv_at hl 1 rfl) ?_
  refine lv_if_lt (tgt := 24) hx hb dX3_fee_6 (by decide) (fun c_4 => ?_) (fun c_4 => ?_)
  · -- 6 jump
    refine lv_iconst (v := -1) hx hb dX3_fee_24 (by decide) ?_
    exact z_iret S hr hlocks hM hS ⟨by unfold zFr; rw [if_neg (fun q => q.1.1 c_4)], by unfold zFe; rw [if_neg (fun q => q.1.1 c_4), zuf_id]; exact hJ_3⟩ (Nat.le_of_ble_eq_true rfl) (Nat.le_of_ble_eq_true rfl) dX3_fee_25
  · -- 6 on
    refine lv_iload_n hx hb dX3_fee_9 rfl (lv_at hl 1 rfl) ?_
    refine lv_iconst (v := 5) hx hb dX3_fee_10 (by decide) ?_
    refine lv_icmp_gt (tgt := 24) hx hb dX3_fee_11 (by decide) (fun c_5 => ?_) (fun c_5 => ?_)
    · -- 11 jump
      refine lv_iconst (v := -1) hx hb dX3_fee_24 (by decide) ?_
      exact z_iret S hr hlocks hM hS ⟨by unfold zFr; rw [if_neg (fun q => q.1.2 (gt5 c_5))], by unfold zFe; rw [if_neg (fun q => q.1.2 (gt5 c_5)), zuf_id]; exact hJ_3⟩ (Nat.le_of_ble_eq_true rfl) (Nat.le_of_ble_eq_true rfl) dX3_fee_25
    · -- 11 on
      refine lv_iload_n hx hb dX3_fee_14 rfl (lv_at hl 2 rfl) ?_
      refine lv_if_lt (tgt := 24) hx hb dX3_fee_15 (by decide) (fun c_6 => ?_) (fun c_6 => ?_)
      · -- 15 jump
        refine lv_iconst (v := -1) hx hb dX3_fee_24 (by decide) ?_
        exact z_iret S hr hlocks hM hS ⟨by unfold zFr; rw [if_neg (fun q => q.2.1 c_6)], by unfold zFe; rw [if_neg (fun q => q.2.1 c_6), zuf_id]; exact hJ_3⟩ (Nat.le_of_ble_eq_true rfl) (Nat.le_of_ble_eq_true rfl) dX3_fee_25
      · -- 15 on
        refine lv_iload_n hx hb dX3_fee_18 rfl (lv_at hl 2 rfl) ?_
        refine lv_ldc (v := 1000000) hx hb hown (hts _ kw_302) dX3_fee_19 ?_
        refine lv_icmp_le (tgt := 26) hx hb dX3_fee_21 (by decide) (fun c_7 => ?_) (fun c_7 => ?_)
        · -- 21 jump
          refine lv_aload_n hx hb dX3_fee_26 rfl (lv_at hl 0 rfl) ?_
          refine z_get (v := .ref (ar 10)) S kX3 hK hM hJ_3.1 12 (by decide) kw_232 rfl dX3_fee_27 ?_
          refine lv_iload_n hx hb dX3_fee_30 rfl (lv_at hl 1 rfl) ?_
          refine z_iald S hK hM 0 (show M_1 (ar 10) = some (.inl (G.2.2 0, 6, .inl (F 10))) from hJ_3.2.1 10 (by decide)) rfl (zTy_vp (zTy_g5 c_4 c_5)) dX3_fee_31 ?_
          refine lv_istore_n (lv' := [(3, .int (F 10 p0.toNatClampNeg)), (0, .ref m0), (1, .int p0), (2, .int p1)]) hx hb dX3_fee_32 rfl hl (by decide) rfl (fun ls hl => ?_)
          refine lv_aload_n hx hb dX3_fee_33 rfl (lv_at hl 1 rfl) ?_
          refine z_get (v := .ref (ar 10)) S kX3 hK hM hJ_3.1 12 (by decide) kw_232 rfl dX3_fee_34 ?_
          refine lv_iload_n hx hb dX3_fee_37 rfl (lv_at hl 2 rfl) ?_
          refine lv_iload_n hx hb dX3_fee_38 rfl (lv_at hl 3 rfl) ?_
          refine z_iast S hK hM hS 0 (show M_1 (ar 10) = some (.inl (G.2.2 0, 6, .inl (F 10))) from hJ_3.2.1 10 (by decide)) rfl (zTy_vp (zTy_g5 c_4 c_5)) dX3_fee_39 (fun H locs hM hS => ?_)
          obtain ⟨M_8, eM_9⟩ : ∃ z : zMap, z = zu M_1 (ar 10) (.inl ((G.2.2 0), 6, .inl (upd (F 10) p0.toNatClampNeg p1))) := ⟨_, rfl⟩
          replace hM : zM A G M_8 H := by rw [eM_9]; exact hM
          have hJ_10 : zJ G M_8 m0 ar 0 (nI co) (nI ac) gr (zuf F 10 (upd (F 10) p0.toNatClampNeg p1)) L := by rw [eM_9]; exact hJ_3.setI 10 (by decide) rfl _
          refine lv_iload_n hx hb dX3_fee_40 rfl (lv_at hl 0 rfl) ?_
          exact z_iret S hr hlocks hM hS ⟨by unfold zFr; rw [if_pos ⟨zTy_g5 c_4 c_5, c_6, c_7⟩], by unfold zFe; rw [if_pos ⟨zTy_g5 c_4 c_5, c_6, c_7⟩]; exact hJ_10⟩ (Nat.le_of_ble_eq_true rfl) (Nat.le_of_ble_eq_true rfl) dX3_fee_41
        · -- 21 on
          refine lv_iconst (v := -1) hx hb dX3_fee_24 (by decide) ?_
          exact z_iret S hr hlocks hM hS ⟨by unfold zFr; rw [if_neg (fun q => c_7 q.2.2)], by unfold zFe; rw [if_neg (fun q => c_7 q.2.2), zuf_id]; exact hJ_3⟩ (Nat.le_of_ble_eq_true rfl) (Nat.le_of_ble_eq_true rfl) dX3_fee_25
set_option maxHeartbeats 4000000 in
set_option maxRecDepth 100000 in
theorem c_X3_follows (l : Launch) (A : Nat → Prop) (G : zG) (M : zMap) (p0 p1 : Int32) : zMet l yX3_follows cX3_follows 2 (some .boolean) { frames := 0, cells := 0, slots := 0, locals := 0 } [.int p0, .int p1] A G M (fun r M1 => r = some (.int (zb (zFm p0 p1))) ∧ M1 = M) := by
  refine zMet.of (by decide) (Nat.le_of_ble_eq_true rfl) ?_
  intro p e s m args below meth c ls S hr hlocks hnm hK hM hA hS hl
  have hl : lv_has ls 2 [(0, .int p0), (1, .int p1)] := hl
  have hx := S.1
  have hb := S.2.1
  have hown := S.2.2.2.1
  have hts := S.2.2.2.2
  have hr : meth.sig.returnType = some .boolean := hr
  refine lv_iload_n hx hb dX3_follows_0 rfl (lv_at hl 0 rfl) ?_
  by_cases hk_0 : p0 = 0
  · subst hk_0
    refine lv_tableIn (tgt := 40) hx hb dX3_follows_1 (by decide) (by decide) rfl (by decide) ?_
    refine lv_iload_n hx hb dX3_follows_40 rfl (lv_at hl 1 rfl) ?_
    refine lv_if_le (tgt := 54) hx hb dX3_follows_41 (by decide) (fun c_1 => ?_) (fun c_1 => ?_)
    · -- 41 jump
      refine lv_iconst (v := 0) hx hb dX3_follows_54 (by decide) ?_
      exact z_zret S hr hlocks (by decide) hM hS ⟨by simp [zb, zFm, c_1], rfl⟩ (Nat.le_of_ble_eq_true rfl) (Nat.le_of_ble_eq_true rfl) dX3_follows_55
    · -- 41 on
      refine lv_iload_n hx hb dX3_follows_44 rfl (lv_at hl 1 rfl) ?_
      refine lv_bipush (v := 7) hx hb dX3_follows_45 (by decide) ?_
      refine lv_icmp_ge (tgt := 54) hx hb dX3_follows_47 (by decide) (fun c_2 => ?_) (fun c_2 => ?_)
      · -- 47 jump
        refine lv_iconst (v := 0) hx hb dX3_follows_54 (by decide) ?_
        exact z_zret S hr hlocks (by decide) hM hS ⟨by simp [zb, zFm, c_1, c_2], rfl⟩ (Nat.le_of_ble_eq_true rfl) (Nat.le_of_ble_eq_true rfl) dX3_follows_55
      · -- 47 on
        refine lv_iconst (v := 1) hx hb dX3_follows_50 (by decide) ?_
        refine lv_goto (tgt := 55) hx hb dX3_follows_51 (by decide) ?_
        exact z_zret S hr hlocks (by decide) hM hS ⟨by simp [zb, zFm, c_1, c_2], rfl⟩ (Nat.le_of_ble_eq_true rfl) (Nat.le_of_ble_eq_true rfl) dX3_follows_55
  by_cases hk_1 : p0 = 1
  · subst hk_1
    refine lv_tableIn (tgt := 56) hx hb dX3_follows_1 (by decide) (by decide) rfl (by decide) ?_
    refine lv_iload_n hx hb dX3_follows_56 rfl (lv_at hl 1 rfl) ?_
    refine lv_if_eq (tgt := 65) hx hb dX3_follows_57 (by decide) (fun c_3 => ?_) (fun c_3 => ?_)
    · -- 57 jump
      refine lv_iconst (v := 1) hx hb dX3_follows_65 (by decide) ?_
      refine lv_goto (tgt := 70) hx hb dX3_follows_66 (by decide) ?_
      exact z_zret S hr hlocks (by decide) hM hS ⟨by simp [zb, zFm, c_3], rfl⟩ (Nat.le_of_ble_eq_true rfl) (Nat.le_of_ble_eq_true rfl) dX3_follows_70
    · -- 57 on
      refine lv_iload_n hx hb dX3_follows_60 rfl (lv_at hl 1 rfl) ?_
      refine lv_iconst (v := 4) hx hb dX3_follows_61 (by decide) ?_
      refine lv_icmp_ne (tgt := 69) hx hb dX3_follows_62 (by decide) (fun c_4 => ?_) (fun c_4 => ?_)
      · -- 62 jump
        refine lv_iconst (v := 0) hx hb dX3_follows_69 (by decide) ?_
        exact z_zret S hr hlocks (by decide) hM hS ⟨by simp [zb, zFm, c_3, c_4], rfl⟩ (Nat.le_of_ble_eq_true rfl) (Nat.le_of_ble_eq_true rfl) dX3_follows_70
      · -- 62 on
        refine lv_iconst (v := 1) hx hb dX3_follows_65 (by decide) ?_
        refine lv_goto (tgt := 70) hx hb dX3_follows_66 (by decide) ?_
        exact z_zret S hr hlocks (by decide) hM hS ⟨by simp [zb, zFm, c_3, c_4], rfl⟩ (Nat.le_of_ble_eq_true rfl) (Nat.le_of_ble_eq_true rfl) dX3_follows_70
  by_cases hk_2 : p0 = 2
  · subst hk_2
    refine lv_tableIn (tgt := 71) hx hb dX3_follows_1 (by decide) (by decide) rfl (by decide) ?_
    refine lv_iload_n hx hb dX3_follows_71 rfl (lv_at hl 1 rfl) ?_
    refine lv_if_eq (tgt := 80) hx hb dX3_follows_72 (by decide) (fun c_5 => ?_) (fun c_5 => ?_)
    · -- 72 jump
      refine lv_iconst (v := 1) hx hb dX3_follows_80 (by decide) ?_
      refine lv_goto (tgt := 85) hx hb dX3_follows_81 (by decide) ?_
      exact z_zret S hr hlocks (by decide) hM hS ⟨by simp [zb, zFm, c_5], rfl⟩ (Nat.le_of_ble_eq_true rfl) (Nat.le_of_ble_eq_true rfl) dX3_follows_85
    · -- 72 on
      refine lv_iload_n hx hb dX3_follows_75 rfl (lv_at hl 1 rfl) ?_
      refine lv_iconst (v := 3) hx hb dX3_follows_76 (by decide) ?_
      refine lv_icmp_ne (tgt := 84) hx hb dX3_follows_77 (by decide) (fun c_6 => ?_) (fun c_6 => ?_)
      · -- 77 jump
        refine lv_iconst (v := 0) hx hb dX3_follows_84 (by decide) ?_
        exact z_zret S hr hlocks (by decide) hM hS ⟨by simp [zb, zFm, c_5, c_6], rfl⟩ (Nat.le_of_ble_eq_true rfl) (Nat.le_of_ble_eq_true rfl) dX3_follows_85
      · -- 77 on
        refine lv_iconst (v := 1) hx hb dX3_follows_80 (by decide) ?_
        refine lv_goto (tgt := 85) hx hb dX3_follows_81 (by decide) ?_
        exact z_zret S hr hlocks (by decide) hM hS ⟨by simp [zb, zFm, c_5, c_6], rfl⟩ (Nat.le_of_ble_eq_true rfl) (Nat.le_of_ble_eq_true rfl) dX3_follows_85
  by_cases hk_3 : p0 = 3
  · subst hk_3
    refine lv_tableIn (tgt := 86) hx hb dX3_follows_1 (by decide) (by decide) rfl (by decide) ?_
    refine lv_iload_n hx hb dX3_follows_86 rfl (lv_at hl 1 rfl) ?_
    refine lv_if_eq (tgt := 96) hx hb dX3_follows_87 (by decide) (fun c_7 => ?_) (fun c_7 => ?_)
    · -- 87 jump
      refine lv_iconst (v := 1) hx hb dX3_follows_96 (by decide) ?_
      refine lv_goto (tgt := 101) hx hb dX3_follows_97 (by decide) ?_
      exact z_zret S hr hlocks (by decide) hM hS ⟨by simp [zb, zFm, c_7], rfl⟩ (Nat.le_of_ble_eq_true rfl) (Nat.le_of_ble_eq_true rfl) dX3_follows_101
    · -- 87 on
      refine lv_iload_n hx hb dX3_follows_90 rfl (lv_at hl 1 rfl) ?_
      refine lv_bipush (v := 6) hx hb dX3_follows_91 (by decide) ?_
      refine lv_icmp_ne (tgt := 100) hx hb dX3_follows_93 (by decide) (fun c_8 => ?_) (fun c_8 => ?_)
      · -- 93 jump
        refine lv_iconst (v := 0) hx hb dX3_follows_100 (by decide) ?_
        exact z_zret S hr hlocks (by decide) hM hS ⟨by simp [zb, zFm, c_7, c_8], rfl⟩ (Nat.le_of_ble_eq_true rfl) (Nat.le_of_ble_eq_true rfl) dX3_follows_101
      · -- 93 on
        refine lv_iconst (v := 1) hx hb dX3_follows_96 (by decide) ?_
        refine lv_goto (tgt := 101) hx hb dX3_follows_97 (by decide) ?_
        exact z_zret S hr hlocks (by decide) hM hS ⟨by simp [zb, zFm, c_7, c_8], rfl⟩ (Nat.le_of_ble_eq_true rfl) (Nat.le_of_ble_eq_true rfl) dX3_follows_101
  by_cases hk_4 : p0 = 4
  · subst hk_4
    refine lv_tableIn (tgt := 102) hx hb dX3_follows_1 (by decide) (by decide) rfl (by decide) ?_
    refine lv_iload_n hx hb dX3_follows_102 rfl (lv_at hl 1 rfl) ?_
    refine lv_if_ne (tgt := 110) hx hb dX3_follows_103 (by decide) (fun c_9 => ?_) (fun c_9 => ?_)
    · -- 103 jump
      refine lv_iconst (v := 0) hx hb dX3_follows_110 (by decide) ?_
      exact z_zret S hr hlocks (by decide) hM hS ⟨by simp [zb, zFm, c_9], rfl⟩ (Nat.le_of_ble_eq_true rfl) (Nat.le_of_ble_eq_true rfl) dX3_follows_111
    · -- 103 on
      refine lv_iconst (v := 1) hx hb dX3_follows_106 (by decide) ?_
      refine lv_goto (tgt := 111) hx hb dX3_follows_107 (by decide) ?_
      exact z_zret S hr hlocks (by decide) hM hS ⟨by simp [zb, zFm, c_9], rfl⟩ (Nat.le_of_ble_eq_true rfl) (Nat.le_of_ble_eq_true rfl) dX3_follows_111
  by_cases hk_5 : p0 = 5
  · subst hk_5
    refine lv_tableIn (tgt := 112) hx hb dX3_follows_1 (by decide) (by decide) rfl (by decide) ?_
    refine lv_iload_n hx hb dX3_follows_112 rfl (lv_at hl 1 rfl) ?_
    refine lv_if_eq (tgt := 121) hx hb dX3_follows_113 (by decide) (fun c_10 => ?_) (fun c_10 => ?_)
    · -- 113 jump
      refine lv_iconst (v := 1) hx hb dX3_follows_121 (by decide) ?_
      refine lv_goto (tgt := 126) hx hb dX3_follows_122 (by decide) ?_
      exact z_zret S hr hlocks (by decide) hM hS ⟨by simp [zb, zFm, c_10], rfl⟩ (Nat.le_of_ble_eq_true rfl) (Nat.le_of_ble_eq_true rfl) dX3_follows_126
    · -- 113 on
      refine lv_iload_n hx hb dX3_follows_116 rfl (lv_at hl 1 rfl) ?_
      refine lv_iconst (v := 3) hx hb dX3_follows_117 (by decide) ?_
      refine lv_icmp_ne (tgt := 125) hx hb dX3_follows_118 (by decide) (fun c_11 => ?_) (fun c_11 => ?_)
      · -- 118 jump
        refine lv_iconst (v := 0) hx hb dX3_follows_125 (by decide) ?_
        exact z_zret S hr hlocks (by decide) hM hS ⟨by simp [zb, zFm, c_10, c_11], rfl⟩ (Nat.le_of_ble_eq_true rfl) (Nat.le_of_ble_eq_true rfl) dX3_follows_126
      · -- 118 on
        refine lv_iconst (v := 1) hx hb dX3_follows_121 (by decide) ?_
        refine lv_goto (tgt := 126) hx hb dX3_follows_122 (by decide) ?_
        exact z_zret S hr hlocks (by decide) hM hS ⟨by simp [zb, zFm, c_10, c_11], rfl⟩ (Nat.le_of_ble_eq_true rfl) (Nat.le_of_ble_eq_true rfl) dX3_follows_126
  refine lv_tableOut (tgt := 127) hx hb dX3_follows_1 (zsw6 hk_0 hk_1 hk_2 hk_3 hk_4 hk_5) (by decide) ?_
  refine lv_iload_n hx hb dX3_follows_127 rfl (lv_at hl 1 rfl) ?_
  refine lv_bipush (v := 6) hx hb dX3_follows_128 (by decide) ?_
  refine lv_icmp_ge (tgt := 137) hx hb dX3_follows_130 (by decide) (fun c_12 => ?_) (fun c_12 => ?_)
  · -- 130 jump
    refine lv_iconst (v := 0) hx hb dX3_follows_137 (by decide) ?_
    exact z_zret S hr hlocks (by decide) hM hS ⟨by simp [zb, zFm, hk_0, hk_1, hk_2, hk_3, hk_4, hk_5, c_12], rfl⟩ (Nat.le_of_ble_eq_true rfl) (Nat.le_of_ble_eq_true rfl) dX3_follows_138
  · -- 130 on
    refine lv_iconst (v := 1) hx hb dX3_follows_133 (by decide) ?_
    refine lv_goto (tgt := 138) hx hb dX3_follows_134 (by decide) ?_
    exact z_zret S hr hlocks (by decide) hM hS ⟨by simp [zb, zFm, hk_0, hk_1, hk_2, hk_3, hk_4, hk_5, c_12], rfl⟩ (Nat.le_of_ble_eq_true rfl) (Nat.le_of_ble_eq_true rfl) dX3_follows_138
end
section
set_option maxHeartbeats 4000000 in
set_option maxRecDepth 100000 in
theorem c_X3_ten (l : Launch) (A : Nat → Prop) (G : zG) (M : zMap) (K : Nat) (hK31 : K < 2 ^ 31) : zMet l yX3_ten cX3_ten 4 (some .long) { frames := 0, cells := 0, slots := 0, locals := 0 } [.int (nI K)] A G M (fun r M1 => r = some (.long (zten K)) ∧ M1 = M) := by
  refine zMet.of (by decide) (Nat.le_of_ble_eq_true rfl) ?_
  intro p e s m args below meth c ls S hr hlocks hnm hK hM hA hS hl
  have hl : lv_has ls 4 [(0, .int (nI K))] := hl
  have hx := S.1
  have hb := S.2.1
  have hown := S.2.2.2.1
  have hts := S.2.2.2.2
  have hr : meth.sig.returnType = some .long := hr
  refine lv_lconst (v := 1) hx hb dX3_ten_0 (by decide) ?_
  refine lv_lstore_n (lv' := [(1, .long 1), (0, .int (nI K))]) hx hb dX3_ten_1 rfl hl (by decide) rfl (fun ls hl => ?_)
  refine lv_iconst (v := 0) hx hb dX3_ten_2 (by decide) ?_
  refine lv_istore_n (lv' := [(3, .int 0), (1, .long 1), (0, .int (nI K))]) hx hb dX3_ten_3 rfl hl (by decide) rfl (fun ls hl => ?_)
  refine z_loop (fun (k : Nat) ls H' locs' => k ≤ K ∧ lv_has ls 4 [(3, .int (nI k)), (1, .long (zten k)), (0, .int (nI K))] ∧ zM A G M H' ∧ va_S A s.heap H' locs') (fun k => K - k) 0 ⟨Nat.zero_le _, hl, hM, hS⟩ ?_
  rintro k ls H locs ⟨hk, hl, hM, hS⟩ ih
  refine lv_iload_n hx hb dX3_ten_4 rfl (lv_at hl 0 rfl) ?_
  refine lv_iload_n hx hb dX3_ten_5 rfl (lv_at hl 2 rfl) ?_
  refine lv_icmp_ge (tgt := 21) hx hb dX3_ten_6 (by decide) (fun c_1 => ?_) (fun c_1 => ?_)
  · -- 6 jump
    have hkK : k = K := by have := (nI_leI (by omega) (by omega)).mp c_1; omega
    subst hkK
    refine lv_lload_n hx hb dX3_ten_21 rfl (lv_at hl 1 rfl) ?_
    exact z_lret S hr hlocks hM hS ⟨rfl, rfl⟩ (Nat.le_of_ble_eq_true rfl) (Nat.le_of_ble_eq_true rfl) dX3_ten_22
  · -- 6 on
    have hkK : k < K := Nat.lt_of_not_le (fun q => c_1 (nI_le q (by omega)))
    refine lv_ldc2 (v := 10) hx hb hown (hts _ kw_286) dX3_ten_9 ?_
    refine lv_lload_n hx hb dX3_ten_12 rfl (lv_at hl 1 rfl) ?_
    refine lv_lmul hx hb dX3_ten_13 ?_
    refine lv_lstore_n (lv' := [(1, .long (10 * (zten k))), (3, .int (nI k)), (0, .int (nI K))]) hx hb dX3_ten_14 rfl hl (by decide) rfl (fun ls hl => ?_)
    refine lv_iinc (v := (nI k) + 1) (lv' := [(3, .int ((nI k) + 1)), (1, .long (10 * (zten k))), (0, .int (nI K))]) hx hb dX3_ten_15 hl (k := 1) rfl rfl (by decide) rfl (fun ls hl => ?_)
    refine lv_goto (tgt := 4) hx hb dX3_ten_18 (by decide) ?_
    exact ih (k + 1) ls _ _ ⟨hkK, by
      have h7 := lv_sub hl [0, 1, 2] rfl
      rw [← nI_1, zten]
      exact h7, hM, hS⟩ (by omega)
set_option maxHeartbeats 4000000 in
set_option maxRecDepth 100000 in
theorem c_X3_sign (l : Launch) (A : Nat → Prop) (G : zG) (M : zMap) (a : Nat) (ha : a < 2 ^ 63) : zMet l yX3_sign cX3_sign 8 (some .int) { frames := 0, cells := 0, slots := 0, locals := 0 } [.long (lN a)] A G M (fun r M1 => ∃ K0, a / 10 ^ K0 = 0 ∧ r = some (.int (zrm (10 - zrm (zsS (lN a) K0) 10) 10)) ∧ M1 = M) := by
  refine zMet.of (by decide) (Nat.le_of_ble_eq_true rfl) ?_
  intro p e s m args below meth c ls S hr hlocks hnm hK hM hA hS hl
  have hl : lv_has ls 8 [(0, .long (lN a))] := hl
  have hx := S.1
  have hb := S.2.1
  have hown := S.2.2.2.1
  have hts := S.2.2.2.2
  have hr : meth.sig.returnType = some .int := hr
  refine lv_iconst (v := 0) hx hb dX3_sign_0 (by decide) ?_
  refine lv_istore_n (lv' := [(2, .int 0), (0, .long (lN a))]) hx hb dX3_sign_1 rfl hl (by decide) rfl (fun ls hl => ?_)
  refine lv_iconst (v := 1) hx hb dX3_sign_2 (by decide) ?_
  refine lv_istore_n (lv' := [(3, .int 1), (2, .int 0), (0, .long (lN a))]) hx hb dX3_sign_3 rfl hl (by decide) rfl (fun ls hl => ?_)
  refine lv_lload_n hx hb dX3_sign_4 rfl (lv_at hl 2 rfl) ?_
  refine lv_lstore (lv' := [(4, .long (lN a)), (3, .int 1), (2, .int 0), (0, .long (lN a))]) hx hb dX3_sign_5 hl (by decide) rfl (fun ls hl => ?_)
  refine z_loop (fun (k : Nat) ls H' locs' => lv_has ls 8 [(4, .long (zcR (lN a) k)), (3, .int (zb (k % 2 = 0))), (2, .int (zsS (lN a) k)), (0, .long (lN a))] ∧ zM A G M H' ∧ va_S A s.heap H' locs') (fun k => a / 10 ^ k) 0 ⟨hl, hM, hS⟩ ?_
  rintro k ls H locs ⟨hl, hM, hS⟩ ih
  refine lv_lload hx hb dX3_sign_7 (lv_at hl 0 rfl) ?_
  refine lv_lconst (v := 0) hx hb dX3_sign_9 (by decide) ?_
  refine W.lcmp hx hb dX3_sign_10 ?_
  refine lv_if_le (tgt := 79) hx hb dX3_sign_11 (by decide) (fun c_1 => ?_) (fun c_1 => ?_)
  · -- 11 jump
    rw [lg_cmp_le] at c_1
    have hak : a / 10 ^ k < 2 ^ 63 := Nat.lt_of_le_of_lt (Nat.div_le_self _ _) ha
    rw [zcR_eq ha, show (0 : Int64) = lN 0 from rfl, pk_lLE hak (by decide)] at c_1
    refine lv_bipush (v := 10) hx hb dX3_sign_79 (by decide) ?_
    refine lv_iload_n hx hb dX3_sign_81 rfl (lv_at hl 2 rfl) ?_
    refine lv_bipush (v := 10) hx hb dX3_sign_82 (by decide) ?_
    refine lv_irem hx hb dX3_sign_84 (by decide) ?_
    refine lv_isub hx hb dX3_sign_85 ?_
    refine lv_bipush (v := 10) hx hb dX3_sign_86 (by decide) ?_
    refine lv_irem hx hb dX3_sign_88 (by decide) ?_
    exact z_iret S hr hlocks hM hS ⟨k, Nat.le_zero.mp c_1, rfl, rfl⟩ (Nat.le_of_ble_eq_true rfl) (Nat.le_of_ble_eq_true rfl) dX3_sign_89
  · -- 11 on
    rw [lg_cmp_le] at c_1
    have hak : a / 10 ^ k < 2 ^ 63 := Nat.lt_of_le_of_lt (Nat.div_le_self _ _) ha
    rw [zcR_eq ha, show (0 : Int64) = lN 0 from rfl, pk_lLE hak (by decide)] at c_1
    have hdec : a / 10 ^ (k + 1) < a / 10 ^ k := by rw [Nat.pow_succ, ← Nat.div_div_eq_div_mul]; omega
    refine lv_lload hx hb dX3_sign_14 (lv_at hl 0 rfl) ?_
    refine lv_ldc2 (v := 10) hx hb hown (hts _ kw_286) dX3_sign_16 ?_
    refine lv_lrem hx hb dX3_sign_19 (by decide) ?_
    refine lv_l2i (v := ((zcR (lN a) k) - (zcR (lN a) k) / 10 * 10).toInt32) hx hb dX3_sign_20 rfl ?_
    refine lv_istore (lv' := [(6, .int (((zcR (lN a) k) - (zcR (lN a) k) / 10 * 10).toInt32)), (4, .long (zcR (lN a) k)), (3, .int (zb (k % 2 = 0))), (2, .int (zsS (lN a) k)), (0, .long (lN a))]) hx hb dX3_sign_21 hl (by decide) rfl (fun ls hl => ?_)
    refine lv_iload_n hx hb dX3_sign_23 rfl (lv_at hl 2 rfl) ?_
    refine lv_if_eq (tgt := 34) hx hb dX3_sign_24 (by decide) (fun c_2 => ?_) (fun c_2 => ?_)
    · -- 24 jump
      rw [zb_0] at c_2
      have hpar := c_2
      refine lv_iload hx hb dX3_sign_34 (lv_at hl 0 rfl) ?_
      refine lv_istore (lv' := [(7, .int (((zcR (lN a) k) - (zcR (lN a) k) / 10 * 10).toInt32)), (6, .int (((zcR (lN a) k) - (zcR (lN a) k) / 10 * 10).toInt32)), (4, .long (zcR (lN a) k)), (3, .int (zb (k % 2 = 0))), (2, .int (zsS (lN a) k)), (0, .long (lN a))]) hx hb dX3_sign_36 hl (by decide) rfl (fun ls hl => ?_)
      refine lv_iload_n hx hb dX3_sign_38 rfl (lv_at hl 4 rfl) ?_
      refine lv_iload hx hb dX3_sign_39 (lv_at hl 0 rfl) ?_
      refine lv_bipush (v := 9) hx hb dX3_sign_41 (by decide) ?_
      refine lv_icmp_le (tgt := 54) hx hb dX3_sign_43 (by decide) (fun c_3 => ?_) (fun c_3 => ?_)
      · -- 43 jump
        refine lv_iload hx hb dX3_sign_54 (lv_at hl 0 rfl) ?_
        refine lv_iadd hx hb dX3_sign_56 ?_
        refine lv_istore_n (lv' := [(2, .int ((zsS (lN a) k) + (((zcR (lN a) k) - (zcR (lN a) k) / 10 * 10).toInt32))), (7, .int (((zcR (lN a) k) - (zcR (lN a) k) / 10 * 10).toInt32)), (6, .int (((zcR (lN a) k) - (zcR (lN a) k) / 10 * 10).toInt32)), (4, .long (zcR (lN a) k)), (3, .int (zb (k % 2 = 0))), (0, .long (lN a))]) hx hb dX3_sign_57 rfl hl (by decide) rfl (fun ls hl => ?_)
        refine lv_iload_n hx hb dX3_sign_58 rfl (lv_at hl 4 rfl) ?_
        refine lv_if_ne (tgt := 66) hx hb dX3_sign_59 (by decide) (fun c_4 => ?_) (fun c_4 => ?_)
        · -- 59 jump
          rw [zb_0n] at c_4
          exact absurd c_4 c_2
        · -- 59 on
          rw [zb_0] at c_4
          refine lv_iconst (v := 1) hx hb dX3_sign_62 (by decide) ?_
          refine lv_goto (tgt := 67) hx hb dX3_sign_63 (by decide) ?_
          refine lv_istore_n (lv' := [(3, .int 1), (2, .int ((zsS (lN a) k) + (((zcR (lN a) k) - (zcR (lN a) k) / 10 * 10).toInt32))), (7, .int (((zcR (lN a) k) - (zcR (lN a) k) / 10 * 10).toInt32)), (6, .int (((zcR (lN a) k) - (zcR (lN a) k) / 10 * 10).toInt32)), (4, .long (zcR (lN a) k)), (0, .long (lN a))]) hx hb dX3_sign_67 rfl hl (by decide) rfl (fun ls hl => ?_)
          refine lv_lload hx hb dX3_sign_68 (lv_at hl 4 rfl) ?_
          refine lv_ldc2 (v := 10) hx hb hown (hts _ kw_286) dX3_sign_70 ?_
          refine lv_ldiv hx hb dX3_sign_73 (by decide) ?_
          refine lv_lstore (lv' := [(4, .long ((zcR (lN a) k) / 10)), (3, .int 1), (2, .int ((zsS (lN a) k) + (((zcR (lN a) k) - (zcR (lN a) k) / 10 * 10).toInt32))), (7, .int (((zcR (lN a) k) - (zcR (lN a) k) / 10 * 10).toInt32)), (6, .int (((zcR (lN a) k) - (zcR (lN a) k) / 10 * 10).toInt32)), (0, .long (lN a))]) hx hb dX3_sign_74 hl (by decide) rfl (fun ls hl => ?_)
          refine lv_goto (tgt := 7) hx hb dX3_sign_76 (by decide) ?_
          exact ih (k + 1) ls _ _ ⟨by
            have h7 := lv_sub hl [0, 1, 2, 5] rfl
            rw [zcR, zsS, zsv, zcd, if_neg hpar, if_pos c_3, zb_t (by omega)]
            exact h7, hM, hS⟩ hdec
      · -- 43 on
        refine lv_iload hx hb dX3_sign_46 (lv_at hl 0 rfl) ?_
        refine lv_bipush (v := 9) hx hb dX3_sign_48 (by decide) ?_
        refine lv_isub hx hb dX3_sign_50 ?_
        refine lv_goto (tgt := 56) hx hb dX3_sign_51 (by decide) ?_
        refine lv_iadd hx hb dX3_sign_56 ?_
        refine lv_istore_n (lv' := [(2, .int ((zsS (lN a) k) + ((((zcR (lN a) k) - (zcR (lN a) k) / 10 * 10).toInt32) - 9))), (7, .int (((zcR (lN a) k) - (zcR (lN a) k) / 10 * 10).toInt32)), (6, .int (((zcR (lN a) k) - (zcR (lN a) k) / 10 * 10).toInt32)), (4, .long (zcR (lN a) k)), (3, .int (zb (k % 2 = 0))), (0, .long (lN a))]) hx hb dX3_sign_57 rfl hl (by decide) rfl (fun ls hl => ?_)
        refine lv_iload_n hx hb dX3_sign_58 rfl (lv_at hl 4 rfl) ?_
        refine lv_if_ne (tgt := 66) hx hb dX3_sign_59 (by decide) (fun c_5 => ?_) (fun c_5 => ?_)
        · -- 59 jump
          rw [zb_0n] at c_5
          exact absurd c_5 c_2
        · -- 59 on
          rw [zb_0] at c_5
          refine lv_iconst (v := 1) hx hb dX3_sign_62 (by decide) ?_
          refine lv_goto (tgt := 67) hx hb dX3_sign_63 (by decide) ?_
          refine lv_istore_n (lv' := [(3, .int 1), (2, .int ((zsS (lN a) k) + ((((zcR (lN a) k) - (zcR (lN a) k) / 10 * 10).toInt32) - 9))), (7, .int (((zcR (lN a) k) - (zcR (lN a) k) / 10 * 10).toInt32)), (6, .int (((zcR (lN a) k) - (zcR (lN a) k) / 10 * 10).toInt32)), (4, .long (zcR (lN a) k)), (0, .long (lN a))]) hx hb dX3_sign_67 rfl hl (by decide) rfl (fun ls hl => ?_)
          refine lv_lload hx hb dX3_sign_68 (lv_at hl 4 rfl) ?_
          refine lv_ldc2 (v := 10) hx hb hown (hts _ kw_286) dX3_sign_70 ?_
          refine lv_ldiv hx hb dX3_sign_73 (by decide) ?_
          refine lv_lstore (lv' := [(4, .long ((zcR (lN a) k) / 10)), (3, .int 1), (2, .int ((zsS (lN a) k) + ((((zcR (lN a) k) - (zcR (lN a) k) / 10 * 10).toInt32) - 9))), (7, .int (((zcR (lN a) k) - (zcR (lN a) k) / 10 * 10).toInt32)), (6, .int (((zcR (lN a) k) - (zcR (lN a) k) / 10 * 10).toInt32)), (0, .long (lN a))]) hx hb dX3_sign_74 hl (by decide) rfl (fun ls hl => ?_)
          refine lv_goto (tgt := 7) hx hb dX3_sign_76 (by decide) ?_
          exact ih (k + 1) ls _ _ ⟨by
            have h7 := lv_sub hl [0, 1, 2, 5] rfl
            rw [zcR, zsS, zsv, zcd, if_neg hpar, if_neg c_3, zb_t (by omega)]
            exact h7, hM, hS⟩ hdec
    · -- 24 on
      rw [zb_0n] at c_2
      have hpar := c_2
      refine lv_iconst (v := 2) hx hb dX3_sign_27 (by decide) ?_
      refine lv_iload hx hb dX3_sign_28 (lv_at hl 0 rfl) ?_
      refine lv_imul hx hb dX3_sign_30 ?_
      refine lv_goto (tgt := 36) hx hb dX3_sign_31 (by decide) ?_
      refine lv_istore (lv' := [(7, .int (2 * (((zcR (lN a) k) - (zcR (lN a) k) / 10 * 10).toInt32))), (6, .int (((zcR (lN a) k) - (zcR (lN a) k) / 10 * 10).toInt32)), (4, .long (zcR (lN a) k)), (3, .int (zb (k % 2 = 0))), (2, .int (zsS (lN a) k)), (0, .long (lN a))]) hx hb dX3_sign_36 hl (by decide) rfl (fun ls hl => ?_)
      refine lv_iload_n hx hb dX3_sign_38 rfl (lv_at hl 4 rfl) ?_
      refine lv_iload hx hb dX3_sign_39 (lv_at hl 0 rfl) ?_
      refine lv_bipush (v := 9) hx hb dX3_sign_41 (by decide) ?_
      refine lv_icmp_le (tgt := 54) hx hb dX3_sign_43 (by decide) (fun c_6 => ?_) (fun c_6 => ?_)
      · -- 43 jump
        refine lv_iload hx hb dX3_sign_54 (lv_at hl 0 rfl) ?_
        refine lv_iadd hx hb dX3_sign_56 ?_
        refine lv_istore_n (lv' := [(2, .int ((zsS (lN a) k) + (2 * (((zcR (lN a) k) - (zcR (lN a) k) / 10 * 10).toInt32)))), (7, .int (2 * (((zcR (lN a) k) - (zcR (lN a) k) / 10 * 10).toInt32))), (6, .int (((zcR (lN a) k) - (zcR (lN a) k) / 10 * 10).toInt32)), (4, .long (zcR (lN a) k)), (3, .int (zb (k % 2 = 0))), (0, .long (lN a))]) hx hb dX3_sign_57 rfl hl (by decide) rfl (fun ls hl => ?_)
        refine lv_iload_n hx hb dX3_sign_58 rfl (lv_at hl 4 rfl) ?_
        refine lv_if_ne (tgt := 66) hx hb dX3_sign_59 (by decide) (fun c_7 => ?_) (fun c_7 => ?_)
        · -- 59 jump
          rw [zb_0n] at c_7
          refine lv_iconst (v := 0) hx hb dX3_sign_66 (by decide) ?_
          refine lv_istore_n (lv' := [(3, .int 0), (2, .int ((zsS (lN a) k) + (2 * (((zcR (lN a) k) - (zcR (lN a) k) / 10 * 10).toInt32)))), (7, .int (2 * (((zcR (lN a) k) - (zcR (lN a) k) / 10 * 10).toInt32))), (6, .int (((zcR (lN a) k) - (zcR (lN a) k) / 10 * 10).toInt32)), (4, .long (zcR (lN a) k)), (0, .long (lN a))]) hx hb dX3_sign_67 rfl hl (by decide) rfl (fun ls hl => ?_)
          refine lv_lload hx hb dX3_sign_68 (lv_at hl 4 rfl) ?_
          refine lv_ldc2 (v := 10) hx hb hown (hts _ kw_286) dX3_sign_70 ?_
          refine lv_ldiv hx hb dX3_sign_73 (by decide) ?_
          refine lv_lstore (lv' := [(4, .long ((zcR (lN a) k) / 10)), (3, .int 0), (2, .int ((zsS (lN a) k) + (2 * (((zcR (lN a) k) - (zcR (lN a) k) / 10 * 10).toInt32)))), (7, .int (2 * (((zcR (lN a) k) - (zcR (lN a) k) / 10 * 10).toInt32))), (6, .int (((zcR (lN a) k) - (zcR (lN a) k) / 10 * 10).toInt32)), (0, .long (lN a))]) hx hb dX3_sign_74 hl (by decide) rfl (fun ls hl => ?_)
          refine lv_goto (tgt := 7) hx hb dX3_sign_76 (by decide) ?_
          exact ih (k + 1) ls _ _ ⟨by
            have h7 := lv_sub hl [0, 1, 2, 5] rfl
            rw [zcR, zsS, zsv, zcd, if_pos hpar, if_pos c_6, zb_f (by omega)]
            exact h7, hM, hS⟩ hdec
        · -- 59 on
          rw [zb_0] at c_7
          exact absurd c_2 c_7
      · -- 43 on
        refine lv_iload hx hb dX3_sign_46 (lv_at hl 0 rfl) ?_
        refine lv_bipush (v := 9) hx hb dX3_sign_48 (by decide) ?_
        refine lv_isub hx hb dX3_sign_50 ?_
        refine lv_goto (tgt := 56) hx hb dX3_sign_51 (by decide) ?_
        refine lv_iadd hx hb dX3_sign_56 ?_
        refine lv_istore_n (lv' := [(2, .int ((zsS (lN a) k) + ((2 * (((zcR (lN a) k) - (zcR (lN a) k) / 10 * 10).toInt32)) - 9))), (7, .int (2 * (((zcR (lN a) k) - (zcR (lN a) k) / 10 * 10).toInt32))), (6, .int (((zcR (lN a) k) - (zcR (lN a) k) / 10 * 10).toInt32)), (4, .long (zcR (lN a) k)), (3, .int (zb (k % 2 = 0))), (0, .long (lN a))]) hx hb dX3_sign_57 rfl hl (by decide) rfl (fun ls hl => ?_)
        refine lv_iload_n hx hb dX3_sign_58 rfl (lv_at hl 4 rfl) ?_
        refine lv_if_ne (tgt := 66) hx hb dX3_sign_59 (by decide) (fun c_8 => ?_) (fun c_8 => ?_)
        · -- 59 jump
          rw [zb_0n] at c_8
          refine lv_iconst (v := 0) hx hb dX3_sign_66 (by decide) ?_
          refine lv_istore_n (lv' := [(3, .int 0), (2, .int ((zsS (lN a) k) + ((2 * (((zcR (lN a) k) - (zcR (lN a) k) / 10 * 10).toInt32)) - 9))), (7, .int (2 * (((zcR (lN a) k) - (zcR (lN a) k) / 10 * 10).toInt32))), (6, .int (((zcR (lN a) k) - (zcR (lN a) k) / 10 * 10).toInt32)), (4, .long (zcR (lN a) k)), (0, .long (lN a))]) hx hb dX3_sign_67 rfl hl (by decide) rfl (fun ls hl => ?_)
          refine lv_lload hx hb dX3_sign_68 (lv_at hl 4 rfl) ?_
          refine lv_ldc2 (v := 10) hx hb hown (hts _ kw_286) dX3_sign_70 ?_
          refine lv_ldiv hx hb dX3_sign_73 (by decide) ?_
          refine lv_lstore (lv' := [(4, .long ((zcR (lN a) k) / 10)), (3, .int 0), (2, .int ((zsS (lN a) k) + ((2 * (((zcR (lN a) k) - (zcR (lN a) k) / 10 * 10).toInt32)) - 9))), (7, .int (2 * (((zcR (lN a) k) - (zcR (lN a) k) / 10 * 10).toInt32))), (6, .int (((zcR (lN a) k) - (zcR (lN a) k) / 10 * 10).toInt32)), (0, .long (lN a))]) hx hb dX3_sign_74 hl (by decide) rfl (fun ls hl => ?_)
          refine lv_goto (tgt := 7) hx hb dX3_sign_76 (by decide) ?_
          exact ih (k + 1) ls _ _ ⟨by
            have h7 := lv_sub hl [0, 1, 2, 5] rfl
            rw [zcR, zsS, zsv, zcd, if_pos hpar, if_neg c_6, zb_f (by omega)]
            exact h7, hM, hS⟩ hdec
        · -- 59 on
          rw [zb_0] at c_8
          exact absurd c_2 c_8
set_option maxHeartbeats 4000000 in
set_option maxRecDepth 100000 in
theorem c_X3_last (l : Launch) (A : Nat → Prop) (G : zG) (M : zMap) (m0 : Nat) (ar : Nat → Nat) (th : Int32) (co ac : Nat) (gr : Int64) (F : Nat → Nat → Int32) (L : Nat → Nat → Int64) (cp : Int32) (day : Int64) (hJ : zJ G M m0 ar th (nI co) (nI ac) gr F L) (hco : co ≤ 80) (hac : ac < 5000) : zMet l yX3_last cX3_last 5 (some .int) { frames := 0, cells := 0, slots := 0, locals := 0 } [.ref m0, .int cp, .long day] A G M (fun r M1 => r = some (.int (nI (zlm (F 11) (L 14) cp day ac) - 1)) ∧ M1 = M) := by
  refine zMet.of (by decide) (Nat.le_of_ble_eq_true rfl) ?_
  intro p e s m args below meth c ls S hr hlocks hnm hK hM hA hS hl
  have hl : lv_has ls 5 [(0, .ref m0), (1, .int cp), (2, .long day)] := hl
  have hx := S.1
  have hb := S.2.1
  have hown := S.2.2.2.1
  have hts := S.2.2.2.2
  have hr : meth.sig.returnType = some .int := hr
  refine lv_aload_n hx hb dX3_last_0 rfl (lv_at hl 0 rfl) ?_
  refine z_get (v := .int (nI ac)) S kX3 hK hM hJ.1 13 (by decide) kw_233 rfl dX3_last_1 ?_
  refine lv_iconst (v := 1) hx hb dX3_last_4 (by decide) ?_
  refine lv_isub hx hb dX3_last_5 ?_
  refine lv_istore (lv' := [(4, .int ((nI ac) - 1)), (0, .ref m0), (1, .int cp), (2, .long day)]) hx hb dX3_last_6 hl (by decide) rfl (fun ls hl => ?_)
  refine z_loop (fun (t : Nat) ls H' locs' => t ≤ ac ∧ zlm (F 11) (L 14) cp day ac = zlm (F 11) (L 14) cp day t ∧ lv_has ls 5 [(4, .int (nI t - 1)), (0, .ref m0), (1, .int cp), (2, .long day)] ∧ zM A G M H' ∧ va_S A s.heap H' locs') (fun t => t) ac ⟨Nat.le_refl _, rfl, hl, hM, hS⟩ ?_
  rintro t ls H locs ⟨hta, hmt, hl, hM, hS⟩ ih
  rcases t with _ | t
  · have hl : lv_has ls 5 [(4, .int (-1)), (0, .ref m0), (1, .int cp), (2, .long day)] := hl
    refine lv_iload hx hb dX3_last_8 (lv_at hl 0 rfl) ?_
    refine lv_if_lt (tgt := 42) hx hb dX3_last_10 (by decide) (fun c_1 => ?_) (fun c_1 => absurd c_1 (by decide))
    refine lv_iload hx hb dX3_last_42 (lv_at hl 0 rfl) ?_
    exact z_iret S hr hlocks hM hS ⟨by rw [hmt]; rfl, rfl⟩ (Nat.le_of_ble_eq_true rfl) (Nat.le_of_ble_eq_true rfl) dX3_last_44
  · rw [nI_pred] at hl
    have hct : (nI t).toNatClampNeg = t := nI_clamp (by omega)
    refine lv_iload hx hb dX3_last_8 (lv_at hl 0 rfl) ?_
    refine lv_if_lt (tgt := 42) hx hb dX3_last_10 (by decide) (fun c_2 => ?_) (fun c_2 => ?_)
    · -- 10 jump
      exact absurd c_2 (nI_pos (by omega))
    · -- 10 on
      refine lv_aload_n hx hb dX3_last_13 rfl (lv_at hl 1 rfl) ?_
      refine z_get (v := .ref (ar 11)) S kX3 hK hM hJ.1 14 (by decide) kw_234 rfl dX3_last_14 ?_
      refine lv_iload hx hb dX3_last_17 (lv_at hl 0 rfl) ?_
      refine z_iald S hK hM 0 (show M (ar 11) = some (.inl (G.2.2 0, 5000, .inl (F 11))) from hJ.2.1 11 (by decide)) rfl (zvp5 hta hac) dX3_last_19 ?_
      rw [hct]
      refine lv_iload_n hx hb dX3_last_20 rfl (lv_at hl 2 rfl) ?_
      refine lv_icmp_ne (tgt := 36) hx hb dX3_last_21 (by decide) (fun c_3 => ?_) (fun c_3 => ?_)
      · -- 21 jump
        refine lv_iinc (v := (nI t) + (-1)) (lv' := [(4, .int ((nI t) + (-1))), (0, .ref m0), (1, .int cp), (2, .long day)]) hx hb dX3_last_36 hl (k := 0) rfl rfl (by decide) rfl (fun ls hl => ?_)
        refine lv_goto (tgt := 8) hx hb dX3_last_39 (by decide) ?_
        exact ih t ls _ _ ⟨by omega, by rw [hmt, zlm, if_neg (fun q => c_3 q.1)], by
          have h7 := lv_sub hl [0, 1, 2, 3] rfl
          rw [zsub1] at h7
          exact h7, hM, hS⟩ (by omega)
      · -- 21 on
        refine lv_aload_n hx hb dX3_last_24 rfl (lv_at hl 1 rfl) ?_
        refine z_get (v := .ref (ar 14)) S kX3 hK hM hJ.1 17 (by decide) kw_237 rfl dX3_last_25 ?_
        refine lv_iload hx hb dX3_last_28 (lv_at hl 0 rfl) ?_
        refine z_lald S hK hM 3 (show M (ar 14) = some (.inl (G.2.2 3, 5000, .inr (.inl (L 14)))) from hJ.2.1 14 (by decide)) rfl (zvp5 hta hac) dX3_last_30 ?_
        rw [hct]
        refine lv_lload_n hx hb dX3_last_31 rfl (lv_at hl 3 rfl) ?_
        refine W.lcmp hx hb dX3_last_32 ?_
        refine lv_if_le (tgt := 42) hx hb dX3_last_33 (by decide) (fun c_4 => ?_) (fun c_4 => ?_)
        · -- 33 jump
          rw [lg_cmp_le] at c_4
          refine lv_iload hx hb dX3_last_42 (lv_at hl 0 rfl) ?_
          exact z_iret S hr hlocks hM hS ⟨by rw [hmt, zlm, if_pos ⟨c_3, c_4⟩, nI_pred], rfl⟩ (Nat.le_of_ble_eq_true rfl) (Nat.le_of_ble_eq_true rfl) dX3_last_44
        · -- 33 on
          rw [lg_cmp_le] at c_4
          refine lv_iinc (v := (nI t) + (-1)) (lv' := [(4, .int ((nI t) + (-1))), (0, .ref m0), (1, .int cp), (2, .long day)]) hx hb dX3_last_36 hl (k := 0) rfl rfl (by decide) rfl (fun ls hl => ?_)
          refine lv_goto (tgt := 8) hx hb dX3_last_39 (by decide) ?_
          exact ih t ls _ _ ⟨by omega, by rw [hmt, zlm, if_neg (fun q => c_4 q.2)], by
            have h7 := lv_sub hl [0, 1, 2, 3] rfl
            rw [zsub1] at h7
            exact h7, hM, hS⟩ (by omega)
end
section
set_option maxHeartbeats 4000000 in
set_option maxRecDepth 100000 in
theorem c_X3_check (l : Launch) (A : Nat → Prop) (G : zG) (M : zMap) (m0 : Nat) (ar : Nat → Nat) (th : Int32) (co ac : Nat) (gr : Int64) (F : Nat → Nat → Int32) (L : Nat → Nat → Int64) (number : Int64) (digits : Int32) (hJ : zJ G M m0 ar th (nI co) (nI ac) gr F L) (hco : co ≤ 80) : zMet l yX3_check cX3_check 4 (some .int) { frames := 1, cells := 0, slots := 0, locals := 40 } [.ref m0, .long number, .int digits] A G M (fun r M1 => r = some (.int (zchk number digits)) ∧ zJ G M1 m0 ar 0 (nI co) (nI ac) gr F L) := by
  refine zMet.of (by decide) (Nat.le_of_ble_eq_true rfl) ?_
  intro p e s m args below meth c ls S hr hlocks hnm hK hM hA hS hl
  have hl : lv_has ls 4 [(0, .ref m0), (1, .long number), (3, .int digits)] := hl
  have hx := S.1
  have hb := S.2.1
  have hown := S.2.2.2.1
  have hts := S.2.2.2.2
  have hr : meth.sig.returnType = some .int := hr
  refine lv_aload_n hx hb dX3_check_0 rfl (lv_at hl 0 rfl) ?_
  refine lv_iconst (v := 0) hx hb dX3_check_1 (by decide) ?_
  refine z_put S kX3 hK hM hS hJ.1 0 (by decide) kw_220 rfl rfl rfl (Nat.le_of_ble_eq_true rfl) dX3_check_2 (fun H locs hM hS => ?_)
  obtain ⟨M_1, eM_2⟩ : ∃ z : zMap, z = zu M m0 (oM 0 (nI co) ar (nI ac) gr) := ⟨_, rfl⟩
  replace hM : zM A G M_1 H := by rw [eM_2]; exact hM
  have hJ_3 : zJ G M_1 m0 ar 0 (nI co) (nI ac) gr F L := by rw [eM_2]; exact hJ.setO _ _ _ _
  refine lv_iload_n hx hb dX3_check_5 rfl (lv_at hl 2 rfl) ?_
  refine lv_iconst (v := 1) hx hb dX3_check_6 (by decide) ?_
  refine lv_icmp_lt (tgt := 31) hx hb dX3_check_7 (by decide) (fun c_4 => ?_) (fun c_4 => ?_)
  · -- 7 jump
    refine lv_iconst (v := -1) hx hb dX3_check_31 (by decide) ?_
    refine lv_goto (tgt := 39) hx hb dX3_check_32 (by decide) ?_
    exact z_iret S hr hlocks hM hS ⟨by unfold zchk; rw [if_pos (Or.inr (Or.inl c_4))], hJ_3⟩ (Nat.le_of_ble_eq_true rfl) (Nat.le_of_ble_eq_true rfl) dX3_check_39
  · -- 7 on
    refine lv_iload_n hx hb dX3_check_10 rfl (lv_at hl 2 rfl) ?_
    refine lv_bipush (v := 12) hx hb dX3_check_11 (by decide) ?_
    refine lv_icmp_gt (tgt := 31) hx hb dX3_check_13 (by decide) (fun c_5 => ?_) (fun c_5 => ?_)
    · -- 13 jump
      refine lv_iconst (v := -1) hx hb dX3_check_31 (by decide) ?_
      refine lv_goto (tgt := 39) hx hb dX3_check_32 (by decide) ?_
      exact z_iret S hr hlocks hM hS ⟨by unfold zchk; rw [if_pos (Or.inr (Or.inr c_5))], hJ_3⟩ (Nat.le_of_ble_eq_true rfl) (Nat.le_of_ble_eq_true rfl) dX3_check_39
    · -- 13 on
      refine lv_lload_n hx hb dX3_check_16 rfl (lv_at hl 1 rfl) ?_
      refine lv_lconst (v := 0) hx hb dX3_check_17 (by decide) ?_
      refine W.lcmp hx hb dX3_check_18 ?_
      refine lv_if_lt (tgt := 31) hx hb dX3_check_19 (by decide) (fun c_6 => ?_) (fun c_6 => ?_)
      · -- 19 jump
        rw [lg_cmp_lt] at c_6
        refine lv_iconst (v := -1) hx hb dX3_check_31 (by decide) ?_
        refine lv_goto (tgt := 39) hx hb dX3_check_32 (by decide) ?_
        exact z_iret S hr hlocks hM hS ⟨by unfold zchk; rw [if_pos (Or.inl c_6)], hJ_3⟩ (Nat.le_of_ble_eq_true rfl) (Nat.le_of_ble_eq_true rfl) dX3_check_39
      · -- 19 on
        rw [lg_cmp_lt] at c_6
        obtain ⟨K, hK1, hK2, rfl⟩ := z112 c_4 (Int32.not_lt.mp c_5)
        obtain ⟨a, ha, rfl⟩ := pk_lOf c_6
        refine lv_lload_n hx hb dX3_check_22 rfl (lv_at hl 1 rfl) ?_
        refine lv_iload_n hx hb dX3_check_23 rfl (lv_at hl 2 rfl) ?_
        refine z_callS (As := [.int (nI K)]) (rest := [.long (lN a)]) S (c_X3_ten l A G M_1 K (by omega)) ok_X3_ten kw_283 kw_284 ⟨Nat.le_of_ble_eq_true rfl, Nat.le_of_ble_eq_true rfl⟩ hK hM hS hA rfl hl.1 rfl (Nat.le_of_ble_eq_true rfl) dX3_check_24 ⟨Nat.le_of_ble_eq_true rfl, Nat.le_of_ble_eq_true rfl⟩ (fun r_9 M_7 H locs hp_8 hM hS => ?_)
        obtain ⟨rfl, hM9⟩ := hp_8
        rw [hM9] at hM
        refine W.eq (g2 := F0 m 27 ls [.long (zten K), .long (lN a)]) rfl ?_
        refine W.lcmp hx hb dX3_check_27 ?_
        refine lv_if_lt (tgt := 35) hx hb dX3_check_28 (by decide) (fun c_10 => ?_) (fun c_10 => ?_)
        · -- 28 jump
          rw [lg_cmp_lt] at c_10
          refine lv_lload_n hx hb dX3_check_35 rfl (lv_at hl 1 rfl) ?_
          refine z_callS (As := [.long (lN a)]) (rest := []) S (c_X3_sign l A G M_1 a ha) ok_X3_sign kw_287 kw_288 ⟨Nat.le_of_ble_eq_true rfl, Nat.le_of_ble_eq_true rfl⟩ hK hM hS hA rfl hl.1 rfl (Nat.le_of_ble_eq_true rfl) dX3_check_36 ⟨Nat.le_of_ble_eq_true rfl, Nat.le_of_ble_eq_true rfl⟩ (fun r_13 M_11 H locs hp_12 hM hS => ?_)
          obtain ⟨K0, hK0, rfl, hM9⟩ := hp_12
          rw [hM9] at hM
          refine W.eq (g2 := F0 m 39 ls [.int (zrm (10 - zrm (zsS (lN a) K0) 10) 10)]) rfl ?_
          exact z_iret S hr hlocks hM hS ⟨by rw [zchk_sign ha hK1 hK2 c_10 hK0], hJ_3⟩ (Nat.le_of_ble_eq_true rfl) (Nat.le_of_ble_eq_true rfl) dX3_check_39
        · -- 28 on
          rw [lg_cmp_lt] at c_10
          refine lv_iconst (v := -1) hx hb dX3_check_31 (by decide) ?_
          refine lv_goto (tgt := 39) hx hb dX3_check_32 (by decide) ?_
          exact z_iret S hr hlocks hM hS ⟨by rw [zchk_big ha hK1 hK2 c_10], hJ_3⟩ (Nat.le_of_ble_eq_true rfl) (Nat.le_of_ble_eq_true rfl) dX3_check_39
set_option maxHeartbeats 4000000 in
set_option maxRecDepth 100000 in
theorem c_X3_state (l : Launch) (A : Nat → Prop) (G : zG) (M : zMap) (m0 : Nat) (ar : Nat → Nat) (th : Int32) (co ac : Nat) (gr : Int64) (F : Nat → Nat → Int32) (L : Nat → Nat → Int64) (k : Int32) (day : Int64) (hJ : zJ G M m0 ar th (nI co) (nI ac) gr F L) (hco : co ≤ 80) (hac : ac < 5000) : zMet l yX3_state cX3_state 5 (some .int) { frames := 1, cells := 0, slots := 0, locals := 40 } [.ref m0, .int k, .long day] A G M (fun r M1 => r = some (.int (zsel co k (-1) (fun j => zms (F 11) (F 12) (L 14) (nI (j + 1)) day ac))) ∧ zJ G M1 m0 ar 0 (nI co) (nI ac) gr F L) := by
  refine zMet.of (by decide) (Nat.le_of_ble_eq_true rfl) ?_
  intro p e s m args below meth c ls S hr hlocks hnm hK hM hA hS hl
  have hl : lv_has ls 5 [(0, .ref m0), (1, .int k), (2, .long day)] := hl
  have hx := S.1
  have hb := S.2.1
  have hown := S.2.2.2.1
  have hts := S.2.2.2.2
  have hr : meth.sig.returnType = some .int := hr
  refine lv_aload_n hx hb dX3_state_0 rfl (lv_at hl 0 rfl) ?_
  refine lv_iconst (v := 0) hx hb dX3_state_1 (by decide) ?_
  refine z_put S kX3 hK hM hS hJ.1 0 (by decide) kw_220 rfl rfl rfl (Nat.le_of_ble_eq_true rfl) dX3_state_2 (fun H locs hM hS => ?_)
  obtain ⟨M_1, eM_2⟩ : ∃ z : zMap, z = zu M m0 (oM 0 (nI co) ar (nI ac) gr) := ⟨_, rfl⟩
  replace hM : zM A G M_1 H := by rw [eM_2]; exact hM
  have hJ_3 : zJ G M_1 m0 ar 0 (nI co) (nI ac) gr F L := by rw [eM_2]; exact hJ.setO _ _ _ _
  refine lv_aload_n hx hb dX3_state_5 rfl (lv_at hl 0 rfl) ?_
  refine lv_iload_n hx hb dX3_state_6 rfl (lv_at hl 1 rfl) ?_
  refine z_callV (As := [.int k]) (rest := []) S (c_X3_isCopy l A G M_1 m0 ar 0 co ac gr F L k hJ_3 hco) ok_X3_isCopy kw_307 kw_309 ks_7 ⟨Nat.le_of_ble_eq_true rfl, Nat.le_of_ble_eq_true rfl⟩ hK hM hS hA hJ_3.1 rfl rfl hl.1 rfl (Nat.le_of_ble_eq_true rfl) dX3_state_7 ⟨Nat.le_of_ble_eq_true rfl, Nat.le_of_ble_eq_true rfl⟩ (fun r_6 M_4 H locs hp_5 hM hS => ?_)
  obtain ⟨rfl, hM9⟩ := hp_5
  rw [hM9] at hM
  refine W.eq (g2 := F0 m 10 ls [.int (zb ((zIx co k).isSome = true))]) rfl ?_
  refine lv_if_ne (tgt := 15) hx hb dX3_state_10 (by decide) (fun c_7 => ?_) (fun c_7 => ?_)
  · -- 10 jump
    rw [zb_0n] at c_7
    obtain ⟨j, hz⟩ := zisS c_7
    obtain ⟨hj, rfl⟩ := zIx_some hco hz
    have hcl : (nI (j + 1)).toNatClampNeg = j + 1 := nI_clamp (by omega)
    refine lv_aload_n hx hb dX3_state_15 rfl (lv_at hl 0 rfl) ?_
    refine lv_iload_n hx hb dX3_state_16 rfl (lv_at hl 1 rfl) ?_
    refine lv_lload_n hx hb dX3_state_17 rfl (lv_at hl 2 rfl) ?_
    refine z_callV (As := [.int (nI (j + 1)), .long day]) (rest := []) S (c_X3_last l A G M_1 m0 ar 0 co ac gr F L (nI (j + 1)) day hJ_3 hco (by omega)) ok_X3_last kw_311 kw_313 ks_8 ⟨Nat.le_of_ble_eq_true rfl, Nat.le_of_ble_eq_true rfl⟩ hK hM hS hA hJ_3.1 rfl rfl hl.1 rfl (Nat.le_of_ble_eq_true rfl) dX3_state_18 ⟨Nat.le_of_ble_eq_true rfl, Nat.le_of_ble_eq_true rfl⟩ (fun r_10 M_8 H locs hp_9 hM hS => ?_)
    obtain ⟨rfl, hM9⟩ := hp_9
    rw [hM9] at hM
    refine W.eq (g2 := F0 m 21 ls [.int (nI (zlm (F 11) (L 14) (nI (j + 1)) day ac) - 1)]) rfl ?_
    rcases hm : zlm (F 11) (L 14) (nI (j + 1)) day ac with _ | z
    · refine W.eq (g2 := F0 m 21 ls [.int (-1)]) rfl ?_
      refine lv_istore (lv' := [(4, .int (-1)), (0, .ref m0), (1, .int (nI (j + 1))), (2, .long day)]) hx hb dX3_state_21 hl (by decide) rfl (fun ls hl => ?_)
      refine lv_iload hx hb dX3_state_23 (lv_at hl 0 rfl) ?_
      refine lv_iconst (v := -1) hx hb dX3_state_25 (by decide) ?_
      refine lv_icmp_ne (tgt := 33) hx hb dX3_state_26 (by decide) (fun c_11 => absurd c_11 (by decide)) (fun c_11 => ?_)
      refine lv_iconst (v := 3) hx hb dX3_state_29 (by decide) ?_
      refine lv_goto (tgt := 40) hx hb dX3_state_30 (by decide) ?_
      exact z_iret S hr hlocks hM hS ⟨by rw [zsel_s hz]; unfold zms; rw [hm], hJ_3⟩ (Nat.le_of_ble_eq_true rfl) (Nat.le_of_ble_eq_true rfl) dX3_state_40
    · rw [nI_pred]
      have hza : z < ac := by have h5 := zlm_le (F 11) (L 14) (nI (j + 1)) day ac; omega
      have hcz : (nI z).toNatClampNeg = z := nI_clamp (by omega)
      refine lv_istore (lv' := [(4, .int (nI z)), (0, .ref m0), (1, .int (nI (j + 1))), (2, .long day)]) hx hb dX3_state_21 hl (by decide) rfl (fun ls hl => ?_)
      refine lv_iload hx hb dX3_state_23 (lv_at hl 0 rfl) ?_
      refine lv_iconst (v := -1) hx hb dX3_state_25 (by decide) ?_
      refine lv_icmp_ne (tgt := 33) hx hb dX3_state_26 (by decide) (fun c_12 => ?_) (fun c_12 => ?_)
      · -- 26 jump
        refine lv_aload_n hx hb dX3_state_33 rfl (lv_at hl 1 rfl) ?_
        refine z_get (v := .ref (ar 12)) S kX3 hK hM hJ_3.1 15 (by decide) kw_235 rfl dX3_state_34 ?_
        refine lv_iload hx hb dX3_state_37 (lv_at hl 0 rfl) ?_
        refine z_iald S hK hM 0 (show M_1 (ar 12) = some (.inl (G.2.2 0, 5000, .inl (F 12))) from hJ_3.2.1 12 (by decide)) rfl (zvp5 hza hac) dX3_state_39 ?_
        rw [hcz]
        exact z_iret S hr hlocks hM hS ⟨by rw [zsel_s hz]; unfold zms; rw [hm], hJ_3⟩ (Nat.le_of_ble_eq_true rfl) (Nat.le_of_ble_eq_true rfl) dX3_state_40
      · -- 26 on
        exact absurd c_12 (zne1 (by omega))
  · -- 10 on
    rw [zb_0] at c_7
    have hz := zisN c_7
    refine lv_iconst (v := -1) hx hb dX3_state_13 (by decide) ?_
    exact z_iret S hr hlocks hM hS ⟨by rw [zsel_n hz], hJ_3⟩ (Nat.le_of_ble_eq_true rfl) (Nat.le_of_ble_eq_true rfl) dX3_state_14
set_option maxHeartbeats 4000000 in
set_option maxRecDepth 100000 in
theorem c_X3_count (l : Launch) (A : Nat → Prop) (G : zG) (M : zMap) (m0 : Nat) (ar : Nat → Nat) (th : Int32) (co ac : Nat) (gr : Int64) (F : Nat → Nat → Int32) (L : Nat → Nat → Int64) (sta hom : Int32) (hJ : zJ G M m0 ar th (nI co) (nI ac) gr F L) (hco : co ≤ 80) : zMet l yX3_count cX3_count 5 (some .int) { frames := 1, cells := 0, slots := 0, locals := 40 } [.ref m0, .int sta, .int hom] A G M (fun r M1 => r = some (.int (zCt (cvm F L) sta hom co)) ∧ zJ G M1 m0 ar 0 (nI co) (nI ac) gr F L) := by
  refine zMet.of (by decide) (Nat.le_of_ble_eq_true rfl) ?_
  intro p e s m args below meth c ls S hr hlocks hnm hK hM hA hS hl
  have hl : lv_has ls 5 [(0, .ref m0), (1, .int sta), (2, .int hom)] := hl
  have hx := S.1
  have hb := S.2.1
  have hown := S.2.2.2.1
  have hts := S.2.2.2.2
  have hr : meth.sig.returnType = some .int := hr
  refine lv_aload_n hx hb dX3_count_0 rfl (lv_at hl 0 rfl) ?_
  refine lv_iconst (v := 0) hx hb dX3_count_1 (by decide) ?_
  refine z_put S kX3 hK hM hS hJ.1 0 (by decide) kw_220 rfl rfl rfl (Nat.le_of_ble_eq_true rfl) dX3_count_2 (fun H locs hM hS => ?_)
  obtain ⟨M_1, eM_2⟩ : ∃ z : zMap, z = zu M m0 (oM 0 (nI co) ar (nI ac) gr) := ⟨_, rfl⟩
  replace hM : zM A G M_1 H := by rw [eM_2]; exact hM
  have hJ_3 : zJ G M_1 m0 ar 0 (nI co) (nI ac) gr F L := by rw [eM_2]; exact hJ.setO _ _ _ _
  refine lv_iconst (v := 0) hx hb dX3_count_5 (by decide) ?_
  refine lv_istore_n (lv' := [(3, .int 0), (0, .ref m0), (1, .int sta), (2, .int hom)]) hx hb dX3_count_6 rfl hl (by decide) rfl (fun ls hl => ?_)
  refine lv_iconst (v := 1) hx hb dX3_count_7 (by decide) ?_
  refine lv_istore (lv' := [(4, .int 1), (3, .int 0), (0, .ref m0), (1, .int sta), (2, .int hom)]) hx hb dX3_count_8 hl (by decide) rfl (fun ls hl => ?_)
  refine z_loop (fun (t : Nat) ls H' locs' => t ≤ co ∧ lv_has ls 5 [(3, .int (zCt (cvm F L) sta hom t)), (4, .int (nI (t + 1))), (0, .ref m0), (1, .int sta), (2, .int hom)] ∧ zM A G M_1 H' ∧ va_S A s.heap H' locs') (fun t => co - t) 0 ⟨Nat.zero_le _, lv_sub hl [1, 0, 2, 3, 4] rfl, hM, hS⟩ ?_
  rintro t ls H locs ⟨htN0, hl, hM, hS⟩ ih
  have hcl : (nI (t + 1)).toNatClampNeg = t + 1 := nI_clamp (by omega)
  refine lv_iload hx hb dX3_count_10 (lv_at hl 1 rfl) ?_
  refine lv_aload_n hx hb dX3_count_12 rfl (lv_at hl 2 rfl) ?_
  refine z_get (v := .int (nI co)) S kX3 hK hM hJ_3.1 1 (by decide) kw_221 rfl dX3_count_13 ?_
  refine lv_icmp_gt (tgt := 60) hx hb dX3_count_16 (by decide) (fun c_4 => ?_) (fun c_4 => ?_)
  · -- 16 jump
    have htN : t = co := by have := (nI_ltI (by omega) (by omega)).mp c_4; omega
    refine lv_iload_n hx hb dX3_count_60 rfl (lv_at hl 0 rfl) ?_
    exact z_iret S hr hlocks hM hS ⟨by rw [htN], hJ_3⟩ (Nat.le_of_ble_eq_true rfl) (Nat.le_of_ble_eq_true rfl) dX3_count_61
  · -- 16 on
    have ht : t < co := Nat.lt_of_not_le (fun q => c_4 ((nI_ltI (by omega) (by omega)).mpr (by omega)))
    refine lv_iload_n hx hb dX3_count_19 rfl (lv_at hl 0 rfl) ?_
    refine lv_aload_n hx hb dX3_count_20 rfl (lv_at hl 2 rfl) ?_
    refine z_get (v := .ref (ar 5)) S kX3 hK hM hJ_3.1 7 (by decide) kw_227 rfl dX3_count_21 ?_
    refine lv_iload hx hb dX3_count_24 (lv_at hl 1 rfl) ?_
    refine z_iald S hK hM 0 (show M_1 (ar 5) = some (.inl (G.2.2 0, 81, .inl (F 5))) from hJ_3.2.1 5 (by decide)) rfl (zvp81 ht hco) dX3_count_26 ?_
    rw [hcl]
    refine lv_iload_n hx hb dX3_count_27 rfl (lv_at hl 3 rfl) ?_
    refine lv_icmp_ne (tgt := 51) hx hb dX3_count_28 (by decide) (fun c_5 => ?_) (fun c_5 => ?_)
    · -- 28 jump
      refine lv_iconst (v := 0) hx hb dX3_count_51 (by decide) ?_
      refine lv_iadd hx hb dX3_count_52 ?_
      refine lv_istore_n (lv' := [(3, .int ((zCt (cvm F L) sta hom t) + 0)), (4, .int (nI (t + 1))), (0, .ref m0), (1, .int sta), (2, .int hom)]) hx hb dX3_count_53 rfl hl (by decide) rfl (fun ls hl => ?_)
      refine lv_iinc (v := (nI (t + 1)) + 1) (lv' := [(4, .int ((nI (t + 1)) + 1)), (3, .int ((zCt (cvm F L) sta hom t) + 0)), (0, .ref m0), (1, .int sta), (2, .int hom)]) hx hb dX3_count_54 hl (k := 1) rfl rfl (by decide) rfl (fun ls hl => ?_)
      refine lv_goto (tgt := 10) hx hb dX3_count_57 (by decide) ?_
      exact ih (t + 1) ls _ _ ⟨by omega, by
        have h7 := lv_sub hl [1, 0, 2, 3, 4] rfl
        rw [← nI_1 (t + 1), zCt, if_neg (fun q => c_5 q.1)]
        exact h7, hM, hS⟩ (by omega)
    · -- 28 on
      refine lv_iload_n hx hb dX3_count_31 rfl (lv_at hl 4 rfl) ?_
      refine lv_iconst (v := -1) hx hb dX3_count_32 (by decide) ?_
      refine lv_icmp_eq (tgt := 47) hx hb dX3_count_33 (by decide) (fun c_6 => ?_) (fun c_6 => ?_)
      · -- 33 jump
        refine lv_iconst (v := 1) hx hb dX3_count_47 (by decide) ?_
        refine lv_goto (tgt := 52) hx hb dX3_count_48 (by decide) ?_
        refine lv_iadd hx hb dX3_count_52 ?_
        refine lv_istore_n (lv' := [(3, .int ((zCt (cvm F L) sta hom t) + 1)), (4, .int (nI (t + 1))), (0, .ref m0), (1, .int sta), (2, .int hom)]) hx hb dX3_count_53 rfl hl (by decide) rfl (fun ls hl => ?_)
        refine lv_iinc (v := (nI (t + 1)) + 1) (lv' := [(4, .int ((nI (t + 1)) + 1)), (3, .int ((zCt (cvm F L) sta hom t) + 1)), (0, .ref m0), (1, .int sta), (2, .int hom)]) hx hb dX3_count_54 hl (k := 1) rfl rfl (by decide) rfl (fun ls hl => ?_)
        refine lv_goto (tgt := 10) hx hb dX3_count_57 (by decide) ?_
        exact ih (t + 1) ls _ _ ⟨by omega, by
          have h7 := lv_sub hl [1, 0, 2, 3, 4] rfl
          rw [← nI_1 (t + 1), zCt, if_pos ⟨c_5, Or.inl c_6⟩]
          exact h7, hM, hS⟩ (by omega)
      · -- 33 on
        refine lv_aload_n hx hb dX3_count_36 rfl (lv_at hl 2 rfl) ?_
        refine z_get (v := .ref (ar 3)) S kX3 hK hM hJ_3.1 5 (by decide) kw_225 rfl dX3_count_37 ?_
        refine lv_iload hx hb dX3_count_40 (lv_at hl 1 rfl) ?_
        refine z_iald S hK hM 0 (show M_1 (ar 3) = some (.inl (G.2.2 0, 81, .inl (F 3))) from hJ_3.2.1 3 (by decide)) rfl (zvp81 ht hco) dX3_count_42 ?_
        rw [hcl]
        refine lv_iload_n hx hb dX3_count_43 rfl (lv_at hl 4 rfl) ?_
        refine lv_icmp_ne (tgt := 51) hx hb dX3_count_44 (by decide) (fun c_7 => ?_) (fun c_7 => ?_)
        · -- 44 jump
          refine lv_iconst (v := 0) hx hb dX3_count_51 (by decide) ?_
          refine lv_iadd hx hb dX3_count_52 ?_
          refine lv_istore_n (lv' := [(3, .int ((zCt (cvm F L) sta hom t) + 0)), (4, .int (nI (t + 1))), (0, .ref m0), (1, .int sta), (2, .int hom)]) hx hb dX3_count_53 rfl hl (by decide) rfl (fun ls hl => ?_)
          refine lv_iinc (v := (nI (t + 1)) + 1) (lv' := [(4, .int ((nI (t + 1)) + 1)), (3, .int ((zCt (cvm F L) sta hom t) + 0)), (0, .ref m0), (1, .int sta), (2, .int hom)]) hx hb dX3_count_54 hl (k := 1) rfl rfl (by decide) rfl (fun ls hl => ?_)
          refine lv_goto (tgt := 10) hx hb dX3_count_57 (by decide) ?_
          exact ih (t + 1) ls _ _ ⟨by omega, by
            have h7 := lv_sub hl [1, 0, 2, 3, 4] rfl
            rw [← nI_1 (t + 1), zCt, if_neg (fun q => q.2.elim c_6 c_7)]
            exact h7, hM, hS⟩ (by omega)
        · -- 44 on
          refine lv_iconst (v := 1) hx hb dX3_count_47 (by decide) ?_
          refine lv_goto (tgt := 52) hx hb dX3_count_48 (by decide) ?_
          refine lv_iadd hx hb dX3_count_52 ?_
          refine lv_istore_n (lv' := [(3, .int ((zCt (cvm F L) sta hom t) + 1)), (4, .int (nI (t + 1))), (0, .ref m0), (1, .int sta), (2, .int hom)]) hx hb dX3_count_53 rfl hl (by decide) rfl (fun ls hl => ?_)
          refine lv_iinc (v := (nI (t + 1)) + 1) (lv' := [(4, .int ((nI (t + 1)) + 1)), (3, .int ((zCt (cvm F L) sta hom t) + 1)), (0, .ref m0), (1, .int sta), (2, .int hom)]) hx hb dX3_count_54 hl (k := 1) rfl rfl (by decide) rfl (fun ls hl => ?_)
          refine lv_goto (tgt := 10) hx hb dX3_count_57 (by decide) ?_
          exact ih (t + 1) ls _ _ ⟨by omega, by
            have h7 := lv_sub hl [1, 0, 2, 3, 4] rfl
            rw [← nI_1 (t + 1), zCt, if_pos ⟨c_5, Or.inr c_7⟩]
            exact h7, hM, hS⟩ (by omega)
set_option maxHeartbeats 4000000 in
set_option maxRecDepth 100000 in
theorem c_X3_enter (l : Launch) (A : Nat → Prop) (G : zG) (M : zMap) (m0 : Nat) (ar : Nat → Nat) (th : Int32) (co ac : Nat) (gr : Int64) (F : Nat → Nat → Int32) (L : Nat → Nat → Int64) (cp sta lt : Int32) (day : Int64) (hJ : zJ G M m0 ar th (nI co) (nI ac) gr F L) (hco : co ≤ 80) (hac : ac < 4999) (hbool : zbool lt) (hbl : ∀ k, zbool (F 13 k)) : zMet l yX3_enter cX3_enter 7 none { frames := 0, cells := 0, slots := 0, locals := 0 } [.ref m0, .int cp, .int sta, .int lt, .long day] A G M (fun r M1 => r = none ∧ zJ G M1 m0 ar th (nI co) (nI (ac + 1)) (if day ≤ gr then gr else day) (zEN F (zps (L 14) day ac) ac cp sta lt) (zuf L 14 (zpi (L 14) (zps (L 14) day ac) ac day))) := by
  refine zMet.of (by decide) (Nat.le_of_ble_eq_true rfl) ?_
  intro p e s m args below meth c ls S hr hlocks hnm hK hM hA hS hl
  have hl : lv_has ls 7 [(0, .ref m0), (1, .int cp), (2, .int sta), (3, .int lt), (4, .long day)] := hl
  have hx := S.1
  have hb := S.2.1
  have hown := S.2.2.2.1
  have hts := S.2.2.2.2
  have hr : meth.sig.returnType = none := hr
  refine lv_aload_n hx hb dX3_enter_0 rfl (lv_at hl 0 rfl) ?_
  refine z_get (v := .int (nI ac)) S kX3 hK hM hJ.1 13 (by decide) kw_233 rfl dX3_enter_1 ?_
  refine lv_istore (lv' := [(6, .int (nI ac)), (0, .ref m0), (1, .int cp), (2, .int sta), (3, .int lt), (4, .long day)]) hx hb dX3_enter_4 hl (by decide) rfl (fun ls hl => ?_)
  refine z_loop (fun (x : Nat × zMap) ls H' locs' => x.1 ≤ ac ∧ zps (L 14) day ac = zps (L 14) day x.1 ∧ lv_has ls 7 [(6, .int (nI x.1)), (0, .ref m0), (1, .int cp), (2, .int sta), (3, .int lt), (4, .long day)] ∧ zM A G x.2 H' ∧ va_S A s.heap H' locs' ∧ zJ G x.2 m0 ar th (nI co) (nI ac) gr (zEF F x.1 ac) (zEL L x.1 ac)) (fun x => x.1) (ac, M) ⟨Nat.le_refl _, rfl, hl, hM, hS, by rw [zEF_0, zEL_0]; exact hJ⟩ ?_
  rintro ⟨t, M9⟩ ls H locs ⟨hta, hpt, hl, hM, hS, hJ9⟩ ih
  rcases t with _ | t
  · have hl : lv_has ls 7 [(6, .int 0), (0, .ref m0), (1, .int cp), (2, .int sta), (3, .int lt), (4, .long day)] := hl
    have hJ9 : zJ G M9 m0 ar th (nI co) (nI ac) gr (zEF F 0 ac) (zEL L 0 ac) := hJ9
    have hM : zM A G M9 H := hM
    have hp0 : zps (L 14) day ac = 0 := hpt
    have hc0 : (0 : Int32).toNatClampNeg = 0 := rfl
    refine lv_iload hx hb dX3_enter_6 (lv_at hl 0 rfl) ?_
    refine lv_if_le (tgt := 96) hx hb dX3_enter_8 (by decide) (fun c_1 => ?_) (fun c_1 => absurd c_1 (by decide))
    refine lv_aload_n hx hb dX3_enter_96 rfl (lv_at hl 1 rfl) ?_
    refine z_get (v := .ref (ar 11)) S kX3 hK hM hJ9.1 14 (by decide) kw_234 rfl dX3_enter_97 ?_
    refine lv_iload hx hb dX3_enter_100 (lv_at hl 0 rfl) ?_
    refine lv_iload_n hx hb dX3_enter_102 rfl (lv_at hl 2 rfl) ?_
    refine z_iast S hK hM hS 0 (show M9 (ar 11) = some (.inl (G.2.2 0, 5000, .inl (zsh (F 11) 0 ac))) from hJ9.2.1 11 (by decide)) rfl (vp_in_nI (n := 0) (by omega) (by decide)) dX3_enter_103 (fun H locs hM hS => ?_)
    rw [hc0] at hM
    rw [zpi_i] at hM
    obtain ⟨M_2, eM_3⟩ : ∃ z : zMap, z = zu M9 (ar 11) (.inl ((G.2.2 0), 5000, .inl (zpi (F 11) 0 ac cp))) := ⟨_, rfl⟩
    replace hM : zM A G M_2 H := by rw [eM_3]; exact hM
    have hJ_4 : zJ G M_2 m0 ar th (nI co) (nI ac) gr (zuf (zEF F 0 ac) 11 (zpi (F 11) 0 ac cp)) (zEL L 0 ac) := by rw [eM_3]; exact hJ9.setI 11 (by decide) rfl _
    refine lv_aload_n hx hb dX3_enter_104 rfl (lv_at hl 1 rfl) ?_
    refine z_get (v := .ref (ar 12)) S kX3 hK hM hJ_4.1 15 (by decide) kw_235 rfl dX3_enter_105 ?_
    refine lv_iload hx hb dX3_enter_108 (lv_at hl 0 rfl) ?_
    refine lv_iload_n hx hb dX3_enter_110 rfl (lv_at hl 3 rfl) ?_
    refine z_iast S hK hM hS 0 (show M_2 (ar 12) = some (.inl (G.2.2 0, 5000, .inl (zsh (F 12) 0 ac))) from hJ_4.2.1 12 (by decide)) rfl (vp_in_nI (n := 0) (by omega) (by decide)) dX3_enter_111 (fun H locs hM hS => ?_)
    rw [hc0] at hM
    rw [zpi_i] at hM
    obtain ⟨M_5, eM_6⟩ : ∃ z : zMap, z = zu M_2 (ar 12) (.inl ((G.2.2 0), 5000, .inl (zpi (F 12) 0 ac sta))) := ⟨_, rfl⟩
    replace hM : zM A G M_5 H := by rw [eM_6]; exact hM
    have hJ_7 : zJ G M_5 m0 ar th (nI co) (nI ac) gr (zuf (zuf (zEF F 0 ac) 11 (zpi (F 11) 0 ac cp)) 12 (zpi (F 12) 0 ac sta)) (zEL L 0 ac) := by rw [eM_6]; exact hJ_4.setI 12 (by decide) rfl _
    refine lv_aload_n hx hb dX3_enter_112 rfl (lv_at hl 1 rfl) ?_
    refine z_get (v := .ref (ar 13)) S kX3 hK hM hJ_7.1 16 (by decide) kw_236 rfl dX3_enter_113 ?_
    refine lv_iload hx hb dX3_enter_116 (lv_at hl 0 rfl) ?_
    refine lv_iload_n hx hb dX3_enter_118 rfl (lv_at hl 4 rfl) ?_
    refine z_zast S hK hM hS 1 (show M_5 (ar 13) = some (.inl (G.2.2 1, 5000, .inl (zsh (F 13) 0 ac))) from hJ_7.2.1 13 (by decide)) rfl (vp_in_nI (n := 0) (by omega) (by decide)) (z_nb hbool) dX3_enter_119 (fun H locs hM hS => ?_)
    rw [hc0] at hM
    rw [zpi_i] at hM
    obtain ⟨M_8, eM_9⟩ : ∃ z : zMap, z = zu M_5 (ar 13) (.inl ((G.2.2 1), 5000, .inl (zpi (F 13) 0 ac lt))) := ⟨_, rfl⟩
    replace hM : zM A G M_8 H := by rw [eM_9]; exact hM
    have hJ_10 : zJ G M_8 m0 ar th (nI co) (nI ac) gr (zuf (zuf (zuf (zEF F 0 ac) 11 (zpi (F 11) 0 ac cp)) 12 (zpi (F 12) 0 ac sta)) 13 (zpi (F 13) 0 ac lt)) (zEL L 0 ac) := by rw [eM_9]; exact hJ_7.setI 13 (by decide) rfl _
    refine lv_aload_n hx hb dX3_enter_120 rfl (lv_at hl 1 rfl) ?_
    refine z_get (v := .ref (ar 14)) S kX3 hK hM hJ_10.1 17 (by decide) kw_237 rfl dX3_enter_121 ?_
    refine lv_iload hx hb dX3_enter_124 (lv_at hl 0 rfl) ?_
    refine lv_lload hx hb dX3_enter_126 (lv_at hl 5 rfl) ?_
    refine z_last S hK hM hS 3 (show M_8 (ar 14) = some (.inl (G.2.2 3, 5000, .inr (.inl (zsh (L 14) 0 ac)))) from hJ_10.2.1 14 (by decide)) rfl (vp_in_nI (n := 0) (by omega) (by decide)) dX3_enter_128 (fun H locs hM hS => ?_)
    rw [hc0] at hM
    rw [zpi_l] at hM
    obtain ⟨M_11, eM_12⟩ : ∃ z : zMap, z = zu M_8 (ar 14) (.inl ((G.2.2 3), 5000, .inr (.inl (zpi (L 14) 0 ac day)))) := ⟨_, rfl⟩
    replace hM : zM A G M_11 H := by rw [eM_12]; exact hM
    have hJ_13 : zJ G M_11 m0 ar th (nI co) (nI ac) gr (zuf (zuf (zuf (zEF F 0 ac) 11 (zpi (F 11) 0 ac cp)) 12 (zpi (F 12) 0 ac sta)) 13 (zpi (F 13) 0 ac lt)) (zuf (zEL L 0 ac) 14 (zpi (L 14) 0 ac day)) := by rw [eM_12]; exact hJ_10.setL 14 (by decide) rfl _
    refine lv_aload_n hx hb dX3_enter_129 rfl (lv_at hl 1 rfl) ?_
    refine lv_dup hx hb dX3_enter_130 rfl ?_
    refine z_get (v := .int (nI ac)) S kX3 hK hM hJ_13.1 13 (by decide) kw_233 rfl dX3_enter_131 ?_
    refine lv_iconst (v := 1) hx hb dX3_enter_134 (by decide) ?_
    refine lv_iadd hx hb dX3_enter_135 ?_
    refine z_put S kX3 hK hM hS hJ_13.1 13 (by decide) kw_233 rfl rfl rfl (Nat.le_of_ble_eq_true rfl) dX3_enter_136 (fun H locs hM hS => ?_)
    obtain ⟨M_14, eM_15⟩ : ∃ z : zMap, z = zu M_11 m0 (oM th (nI co) ar ((nI ac) + 1) gr) := ⟨_, rfl⟩
    replace hM : zM A G M_14 H := by rw [eM_15]; exact hM
    have hJ_16 : zJ G M_14 m0 ar th (nI co) ((nI ac) + 1) gr (zuf (zuf (zuf (zEF F 0 ac) 11 (zpi (F 11) 0 ac cp)) 12 (zpi (F 12) 0 ac sta)) 13 (zpi (F 13) 0 ac lt)) (zuf (zEL L 0 ac) 14 (zpi (L 14) 0 ac day)) := by rw [eM_15]; exact hJ_13.setO _ _ _ _
    refine lv_aload_n hx hb dX3_enter_139 rfl (lv_at hl 1 rfl) ?_
    refine lv_lload hx hb dX3_enter_140 (lv_at hl 5 rfl) ?_
    refine lv_aload_n hx hb dX3_enter_142 rfl (lv_at hl 1 rfl) ?_
    refine z_get (v := .long gr) S kX3 hK hM hJ_16.1 18 (by decide) kw_238 rfl dX3_enter_143 ?_
    refine W.lcmp hx hb dX3_enter_146 ?_
    refine lv_if_le (tgt := 155) hx hb dX3_enter_147 (by decide) (fun c_17 => ?_) (fun c_17 => ?_)
    · -- 147 jump
      rw [lg_cmp_le] at c_17
      refine lv_aload_n hx hb dX3_enter_155 rfl (lv_at hl 1 rfl) ?_
      refine z_get (v := .long gr) S kX3 hK hM hJ_16.1 18 (by decide) kw_238 rfl dX3_enter_156 ?_
      refine z_put S kX3 hK hM hS hJ_16.1 18 (by decide) kw_238 rfl rfl rfl (Nat.le_of_ble_eq_true rfl) dX3_enter_159 (fun H locs hM hS => ?_)
      obtain ⟨M_18, eM_19⟩ : ∃ z : zMap, z = zu M_14 m0 (oM th (nI co) ar ((nI ac) + 1) gr) := ⟨_, rfl⟩
      replace hM : zM A G M_18 H := by rw [eM_19]; exact hM
      have hJ_20 : zJ G M_18 m0 ar th (nI co) ((nI ac) + 1) gr (zuf (zuf (zuf (zEF F 0 ac) 11 (zpi (F 11) 0 ac cp)) 12 (zpi (F 12) 0 ac sta)) 13 (zpi (F 13) 0 ac lt)) (zuf (zEL L 0 ac) 14 (zpi (L 14) 0 ac day)) := by rw [eM_19]; exact hJ_16.setO _ _ _ _
      exact z_vret S hr hlocks hM hS ⟨rfl, by
        have h6 := hJ_20
        rw [zEF_c, zEL_c, nI_1] at h6
        rw [hp0, if_pos c_17]
        exact h6⟩ (Nat.le_of_ble_eq_true rfl) (Nat.le_of_ble_eq_true rfl) dX3_enter_162
    · -- 147 on
      rw [lg_cmp_le] at c_17
      refine lv_lload hx hb dX3_enter_150 (lv_at hl 5 rfl) ?_
      refine lv_goto (tgt := 159) hx hb dX3_enter_152 (by decide) ?_
      refine z_put S kX3 hK hM hS hJ_16.1 18 (by decide) kw_238 rfl rfl rfl (Nat.le_of_ble_eq_true rfl) dX3_enter_159 (fun H locs hM hS => ?_)
      obtain ⟨M_21, eM_22⟩ : ∃ z : zMap, z = zu M_14 m0 (oM th (nI co) ar ((nI ac) + 1) day) := ⟨_, rfl⟩
      replace hM : zM A G M_21 H := by rw [eM_22]; exact hM
      have hJ_23 : zJ G M_21 m0 ar th (nI co) ((nI ac) + 1) day (zuf (zuf (zuf (zEF F 0 ac) 11 (zpi (F 11) 0 ac cp)) 12 (zpi (F 12) 0 ac sta)) 13 (zpi (F 13) 0 ac lt)) (zuf (zEL L 0 ac) 14 (zpi (L 14) 0 ac day)) := by rw [eM_22]; exact hJ_16.setO _ _ _ _
      exact z_vret S hr hlocks hM hS ⟨rfl, by
        have h6 := hJ_23
        rw [zEF_c, zEL_c, nI_1] at h6
        rw [hp0, if_neg c_17]
        exact h6⟩ (Nat.le_of_ble_eq_true rfl) (Nat.le_of_ble_eq_true rfl) dX3_enter_162
  · have hl : lv_has ls 7 [(6, .int (nI (t + 1))), (0, .ref m0), (1, .int cp), (2, .int sta), (3, .int lt), (4, .long day)] := hl
    have hta : t + 1 ≤ ac := hta
    have hJ9 : zJ G M9 m0 ar th (nI co) (nI ac) gr (zEF F (t + 1) ac) (zEL L (t + 1) ac) := hJ9
    have hM : zM A G M9 H := hM
    have hct : (nI t).toNatClampNeg = t := nI_clamp (by omega)
    have hcs : (nI (t + 1)).toNatClampNeg = t + 1 := nI_clamp (by omega)
    refine lv_iload hx hb dX3_enter_6 (lv_at hl 0 rfl) ?_
    refine lv_if_le (tgt := 96) hx hb dX3_enter_8 (by decide) (fun c_24 => ?_) (fun c_24 => ?_)
    · -- 8 jump
      exact absurd c_24 (nI_nle (by omega) (by omega))
    · -- 8 on
      refine lv_aload_n hx hb dX3_enter_11 rfl (lv_at hl 1 rfl) ?_
      refine z_get (v := .ref (ar 14)) S kX3 hK hM hJ9.1 17 (by decide) kw_237 rfl dX3_enter_12 ?_
      refine lv_iload hx hb dX3_enter_15 (lv_at hl 0 rfl) ?_
      refine lv_iconst (v := 1) hx hb dX3_enter_17 (by decide) ?_
      refine lv_isub hx hb dX3_enter_18 ?_
      rw [nI_pred]
      refine z_lald S hK hM 3 (show M9 (ar 14) = some (.inl (G.2.2 3, 5000, .inr (.inl (zsh (L 14) (t + 1) ac)))) from hJ9.2.1 14 (by decide)) rfl (vp_in_nI (n := t) (by omega) (by decide)) dX3_enter_19 ?_
      rw [hct]
      rw [zsh_at]
      refine lv_lload hx hb dX3_enter_20 (lv_at hl 5 rfl) ?_
      refine W.lcmp hx hb dX3_enter_22 ?_
      refine lv_if_le (tgt := 96) hx hb dX3_enter_23 (by decide) (fun c_25 => ?_) (fun c_25 => ?_)
      · -- 23 jump
        rw [lg_cmp_le] at c_25
        have hp0 : zps (L 14) day ac = t + 1 := by rw [hpt]; show zps (L 14) day (t + 1) = t + 1; rw [zps, if_neg (Int64.not_lt.mpr c_25)]
        refine lv_aload_n hx hb dX3_enter_96 rfl (lv_at hl 1 rfl) ?_
        refine z_get (v := .ref (ar 11)) S kX3 hK hM hJ9.1 14 (by decide) kw_234 rfl dX3_enter_97 ?_
        refine lv_iload hx hb dX3_enter_100 (lv_at hl 0 rfl) ?_
        refine lv_iload_n hx hb dX3_enter_102 rfl (lv_at hl 2 rfl) ?_
        refine z_iast S hK hM hS 0 (show M9 (ar 11) = some (.inl (G.2.2 0, 5000, .inl (zsh (F 11) (t + 1) ac))) from hJ9.2.1 11 (by decide)) rfl (vp_in_nI (n := (t + 1)) (by omega) (by decide)) dX3_enter_103 (fun H locs hM hS => ?_)
        rw [hcs] at hM
        rw [zpi_i] at hM
        obtain ⟨M_26, eM_27⟩ : ∃ z : zMap, z = zu M9 (ar 11) (.inl ((G.2.2 0), 5000, .inl (zpi (F 11) (t + 1) ac cp))) := ⟨_, rfl⟩
        replace hM : zM A G M_26 H := by rw [eM_27]; exact hM
        have hJ_28 : zJ G M_26 m0 ar th (nI co) (nI ac) gr (zuf (zEF F (t + 1) ac) 11 (zpi (F 11) (t + 1) ac cp)) (zEL L (t + 1) ac) := by rw [eM_27]; exact hJ9.setI 11 (by decide) rfl _
        refine lv_aload_n hx hb dX3_enter_104 rfl (lv_at hl 1 rfl) ?_
        refine z_get (v := .ref (ar 12)) S kX3 hK hM hJ_28.1 15 (by decide) kw_235 rfl dX3_enter_105 ?_
        refine lv_iload hx hb dX3_enter_108 (lv_at hl 0 rfl) ?_
        refine lv_iload_n hx hb dX3_enter_110 rfl (lv_at hl 3 rfl) ?_
        refine z_iast S hK hM hS 0 (show M_26 (ar 12) = some (.inl (G.2.2 0, 5000, .inl (zsh (F 12) (t + 1) ac))) from hJ_28.2.1 12 (by decide)) rfl (vp_in_nI (n := (t + 1)) (by omega) (by decide)) dX3_enter_111 (fun H locs hM hS => ?_)
        rw [hcs] at hM
        rw [zpi_i] at hM
        obtain ⟨M_29, eM_30⟩ : ∃ z : zMap, z = zu M_26 (ar 12) (.inl ((G.2.2 0), 5000, .inl (zpi (F 12) (t + 1) ac sta))) := ⟨_, rfl⟩
        replace hM : zM A G M_29 H := by rw [eM_30]; exact hM
        have hJ_31 : zJ G M_29 m0 ar th (nI co) (nI ac) gr (zuf (zuf (zEF F (t + 1) ac) 11 (zpi (F 11) (t + 1) ac cp)) 12 (zpi (F 12) (t + 1) ac sta)) (zEL L (t + 1) ac) := by rw [eM_30]; exact hJ_28.setI 12 (by decide) rfl _
        refine lv_aload_n hx hb dX3_enter_112 rfl (lv_at hl 1 rfl) ?_
        refine z_get (v := .ref (ar 13)) S kX3 hK hM hJ_31.1 16 (by decide) kw_236 rfl dX3_enter_113 ?_
        refine lv_iload hx hb dX3_enter_116 (lv_at hl 0 rfl) ?_
        refine lv_iload_n hx hb dX3_enter_118 rfl (lv_at hl 4 rfl) ?_
        refine z_zast S hK hM hS 1 (show M_29 (ar 13) = some (.inl (G.2.2 1, 5000, .inl (zsh (F 13) (t + 1) ac))) from hJ_31.2.1 13 (by decide)) rfl (vp_in_nI (n := (t + 1)) (by omega) (by decide)) (z_nb hbool) dX3_enter_119 (fun H locs hM hS => ?_)
        rw [hcs] at hM
        rw [zpi_i] at hM
        obtain ⟨M_32, eM_33⟩ : ∃ z : zMap, z = zu M_29 (ar 13) (.inl ((G.2.2 1), 5000, .inl (zpi (F 13) (t + 1) ac lt))) := ⟨_, rfl⟩
        replace hM : zM A G M_32 H := by rw [eM_33]; exact hM
        have hJ_34 : zJ G M_32 m0 ar th (nI co) (nI ac) gr (zuf (zuf (zuf (zEF F (t + 1) ac) 11 (zpi (F 11) (t + 1) ac cp)) 12 (zpi (F 12) (t + 1) ac sta)) 13 (zpi (F 13) (t + 1) ac lt)) (zEL L (t + 1) ac) := by rw [eM_33]; exact hJ_31.setI 13 (by decide) rfl _
        refine lv_aload_n hx hb dX3_enter_120 rfl (lv_at hl 1 rfl) ?_
        refine z_get (v := .ref (ar 14)) S kX3 hK hM hJ_34.1 17 (by decide) kw_237 rfl dX3_enter_121 ?_
        refine lv_iload hx hb dX3_enter_124 (lv_at hl 0 rfl) ?_
        refine lv_lload hx hb dX3_enter_126 (lv_at hl 5 rfl) ?_
        refine z_last S hK hM hS 3 (show M_32 (ar 14) = some (.inl (G.2.2 3, 5000, .inr (.inl (zsh (L 14) (t + 1) ac)))) from hJ_34.2.1 14 (by decide)) rfl (vp_in_nI (n := (t + 1)) (by omega) (by decide)) dX3_enter_128 (fun H locs hM hS => ?_)
        rw [hcs] at hM
        rw [zpi_l] at hM
        obtain ⟨M_35, eM_36⟩ : ∃ z : zMap, z = zu M_32 (ar 14) (.inl ((G.2.2 3), 5000, .inr (.inl (zpi (L 14) (t + 1) ac day)))) := ⟨_, rfl⟩
        replace hM : zM A G M_35 H := by rw [eM_36]; exact hM
        have hJ_37 : zJ G M_35 m0 ar th (nI co) (nI ac) gr (zuf (zuf (zuf (zEF F (t + 1) ac) 11 (zpi (F 11) (t + 1) ac cp)) 12 (zpi (F 12) (t + 1) ac sta)) 13 (zpi (F 13) (t + 1) ac lt)) (zuf (zEL L (t + 1) ac) 14 (zpi (L 14) (t + 1) ac day)) := by rw [eM_36]; exact hJ_34.setL 14 (by decide) rfl _
        refine lv_aload_n hx hb dX3_enter_129 rfl (lv_at hl 1 rfl) ?_
        refine lv_dup hx hb dX3_enter_130 rfl ?_
        refine z_get (v := .int (nI ac)) S kX3 hK hM hJ_37.1 13 (by decide) kw_233 rfl dX3_enter_131 ?_
        refine lv_iconst (v := 1) hx hb dX3_enter_134 (by decide) ?_
        refine lv_iadd hx hb dX3_enter_135 ?_
        refine z_put S kX3 hK hM hS hJ_37.1 13 (by decide) kw_233 rfl rfl rfl (Nat.le_of_ble_eq_true rfl) dX3_enter_136 (fun H locs hM hS => ?_)
        obtain ⟨M_38, eM_39⟩ : ∃ z : zMap, z = zu M_35 m0 (oM th (nI co) ar ((nI ac) + 1) gr) := ⟨_, rfl⟩
        replace hM : zM A G M_38 H := by rw [eM_39]; exact hM
        have hJ_40 : zJ G M_38 m0 ar th (nI co) ((nI ac) + 1) gr (zuf (zuf (zuf (zEF F (t + 1) ac) 11 (zpi (F 11) (t + 1) ac cp)) 12 (zpi (F 12) (t + 1) ac sta)) 13 (zpi (F 13) (t + 1) ac lt)) (zuf (zEL L (t + 1) ac) 14 (zpi (L 14) (t + 1) ac day)) := by rw [eM_39]; exact hJ_37.setO _ _ _ _
        refine lv_aload_n hx hb dX3_enter_139 rfl (lv_at hl 1 rfl) ?_
        refine lv_lload hx hb dX3_enter_140 (lv_at hl 5 rfl) ?_
        refine lv_aload_n hx hb dX3_enter_142 rfl (lv_at hl 1 rfl) ?_
        refine z_get (v := .long gr) S kX3 hK hM hJ_40.1 18 (by decide) kw_238 rfl dX3_enter_143 ?_
        refine W.lcmp hx hb dX3_enter_146 ?_
        refine lv_if_le (tgt := 155) hx hb dX3_enter_147 (by decide) (fun c_41 => ?_) (fun c_41 => ?_)
        · -- 147 jump
          rw [lg_cmp_le] at c_41
          refine lv_aload_n hx hb dX3_enter_155 rfl (lv_at hl 1 rfl) ?_
          refine z_get (v := .long gr) S kX3 hK hM hJ_40.1 18 (by decide) kw_238 rfl dX3_enter_156 ?_
          refine z_put S kX3 hK hM hS hJ_40.1 18 (by decide) kw_238 rfl rfl rfl (Nat.le_of_ble_eq_true rfl) dX3_enter_159 (fun H locs hM hS => ?_)
          obtain ⟨M_42, eM_43⟩ : ∃ z : zMap, z = zu M_38 m0 (oM th (nI co) ar ((nI ac) + 1) gr) := ⟨_, rfl⟩
          replace hM : zM A G M_42 H := by rw [eM_43]; exact hM
          have hJ_44 : zJ G M_42 m0 ar th (nI co) ((nI ac) + 1) gr (zuf (zuf (zuf (zEF F (t + 1) ac) 11 (zpi (F 11) (t + 1) ac cp)) 12 (zpi (F 12) (t + 1) ac sta)) 13 (zpi (F 13) (t + 1) ac lt)) (zuf (zEL L (t + 1) ac) 14 (zpi (L 14) (t + 1) ac day)) := by rw [eM_43]; exact hJ_40.setO _ _ _ _
          exact z_vret S hr hlocks hM hS ⟨rfl, by
            have h6 := hJ_44
            rw [zEF_c, zEL_c, nI_1] at h6
            rw [hp0, if_pos c_41]
            exact h6⟩ (Nat.le_of_ble_eq_true rfl) (Nat.le_of_ble_eq_true rfl) dX3_enter_162
        · -- 147 on
          rw [lg_cmp_le] at c_41
          refine lv_lload hx hb dX3_enter_150 (lv_at hl 5 rfl) ?_
          refine lv_goto (tgt := 159) hx hb dX3_enter_152 (by decide) ?_
          refine z_put S kX3 hK hM hS hJ_40.1 18 (by decide) kw_238 rfl rfl rfl (Nat.le_of_ble_eq_true rfl) dX3_enter_159 (fun H locs hM hS => ?_)
          obtain ⟨M_45, eM_46⟩ : ∃ z : zMap, z = zu M_38 m0 (oM th (nI co) ar ((nI ac) + 1) day) := ⟨_, rfl⟩
          replace hM : zM A G M_45 H := by rw [eM_46]; exact hM
          have hJ_47 : zJ G M_45 m0 ar th (nI co) ((nI ac) + 1) day (zuf (zuf (zuf (zEF F (t + 1) ac) 11 (zpi (F 11) (t + 1) ac cp)) 12 (zpi (F 12) (t + 1) ac sta)) 13 (zpi (F 13) (t + 1) ac lt)) (zuf (zEL L (t + 1) ac) 14 (zpi (L 14) (t + 1) ac day)) := by rw [eM_46]; exact hJ_40.setO _ _ _ _
          exact z_vret S hr hlocks hM hS ⟨rfl, by
            have h6 := hJ_47
            rw [zEF_c, zEL_c, nI_1] at h6
            rw [hp0, if_neg c_41]
            exact h6⟩ (Nat.le_of_ble_eq_true rfl) (Nat.le_of_ble_eq_true rfl) dX3_enter_162
      · -- 23 on
        rw [lg_cmp_le] at c_25
        refine lv_aload_n hx hb dX3_enter_26 rfl (lv_at hl 1 rfl) ?_
        refine z_get (v := .ref (ar 11)) S kX3 hK hM hJ9.1 14 (by decide) kw_234 rfl dX3_enter_27 ?_
        refine lv_iload hx hb dX3_enter_30 (lv_at hl 0 rfl) ?_
        refine lv_aload_n hx hb dX3_enter_32 rfl (lv_at hl 1 rfl) ?_
        refine z_get (v := .ref (ar 11)) S kX3 hK hM hJ9.1 14 (by decide) kw_234 rfl dX3_enter_33 ?_
        refine lv_iload hx hb dX3_enter_36 (lv_at hl 0 rfl) ?_
        refine lv_iconst (v := 1) hx hb dX3_enter_38 (by decide) ?_
        refine lv_isub hx hb dX3_enter_39 ?_
        rw [nI_pred]
        refine z_iald S hK hM 0 (show M9 (ar 11) = some (.inl (G.2.2 0, 5000, .inl (zsh (F 11) (t + 1) ac))) from hJ9.2.1 11 (by decide)) rfl (vp_in_nI (n := t) (by omega) (by decide)) dX3_enter_40 ?_
        rw [hct]
        rw [zsh_at]
        refine z_iast S hK hM hS 0 (show M9 (ar 11) = some (.inl (G.2.2 0, 5000, .inl (zsh (F 11) (t + 1) ac))) from hJ9.2.1 11 (by decide)) rfl (vp_in_nI (n := (t + 1)) (by omega) (by decide)) dX3_enter_41 (fun H locs hM hS => ?_)
        rw [hcs] at hM
        rw [zsh_1 hta] at hM
        obtain ⟨M_48, eM_49⟩ : ∃ z : zMap, z = zu M9 (ar 11) (.inl ((G.2.2 0), 5000, .inl (zsh (F 11) t ac))) := ⟨_, rfl⟩
        replace hM : zM A G M_48 H := by rw [eM_49]; exact hM
        have hJ_50 : zJ G M_48 m0 ar th (nI co) (nI ac) gr (zuf (zEF F (t + 1) ac) 11 (zsh (F 11) t ac)) (zEL L (t + 1) ac) := by rw [eM_49]; exact hJ9.setI 11 (by decide) rfl _
        refine lv_aload_n hx hb dX3_enter_42 rfl (lv_at hl 1 rfl) ?_
        refine z_get (v := .ref (ar 12)) S kX3 hK hM hJ_50.1 15 (by decide) kw_235 rfl dX3_enter_43 ?_
        refine lv_iload hx hb dX3_enter_46 (lv_at hl 0 rfl) ?_
        refine lv_aload_n hx hb dX3_enter_48 rfl (lv_at hl 1 rfl) ?_
        refine z_get (v := .ref (ar 12)) S kX3 hK hM hJ_50.1 15 (by decide) kw_235 rfl dX3_enter_49 ?_
        refine lv_iload hx hb dX3_enter_52 (lv_at hl 0 rfl) ?_
        refine lv_iconst (v := 1) hx hb dX3_enter_54 (by decide) ?_
        refine lv_isub hx hb dX3_enter_55 ?_
        rw [nI_pred]
        refine z_iald S hK hM 0 (show M_48 (ar 12) = some (.inl (G.2.2 0, 5000, .inl (zsh (F 12) (t + 1) ac))) from hJ_50.2.1 12 (by decide)) rfl (vp_in_nI (n := t) (by omega) (by decide)) dX3_enter_56 ?_
        rw [hct]
        rw [zsh_at]
        refine z_iast S hK hM hS 0 (show M_48 (ar 12) = some (.inl (G.2.2 0, 5000, .inl (zsh (F 12) (t + 1) ac))) from hJ_50.2.1 12 (by decide)) rfl (vp_in_nI (n := (t + 1)) (by omega) (by decide)) dX3_enter_57 (fun H locs hM hS => ?_)
        rw [hcs] at hM
        rw [zsh_1 hta] at hM
        obtain ⟨M_51, eM_52⟩ : ∃ z : zMap, z = zu M_48 (ar 12) (.inl ((G.2.2 0), 5000, .inl (zsh (F 12) t ac))) := ⟨_, rfl⟩
        replace hM : zM A G M_51 H := by rw [eM_52]; exact hM
        have hJ_53 : zJ G M_51 m0 ar th (nI co) (nI ac) gr (zuf (zuf (zEF F (t + 1) ac) 11 (zsh (F 11) t ac)) 12 (zsh (F 12) t ac)) (zEL L (t + 1) ac) := by rw [eM_52]; exact hJ_50.setI 12 (by decide) rfl _
        refine lv_aload_n hx hb dX3_enter_58 rfl (lv_at hl 1 rfl) ?_
        refine z_get (v := .ref (ar 13)) S kX3 hK hM hJ_53.1 16 (by decide) kw_236 rfl dX3_enter_59 ?_
        refine lv_iload hx hb dX3_enter_62 (lv_at hl 0 rfl) ?_
        refine lv_aload_n hx hb dX3_enter_64 rfl (lv_at hl 1 rfl) ?_
        refine z_get (v := .ref (ar 13)) S kX3 hK hM hJ_53.1 16 (by decide) kw_236 rfl dX3_enter_65 ?_
        refine lv_iload hx hb dX3_enter_68 (lv_at hl 0 rfl) ?_
        refine lv_iconst (v := 1) hx hb dX3_enter_70 (by decide) ?_
        refine lv_isub hx hb dX3_enter_71 ?_
        rw [nI_pred]
        refine z_zald S hK hM 1 (show M_51 (ar 13) = some (.inl (G.2.2 1, 5000, .inl (zsh (F 13) (t + 1) ac))) from hJ_53.2.1 13 (by decide)) rfl (vp_in_nI (n := t) (by omega) (by decide)) dX3_enter_72 ?_
        rw [hct]
        rw [zsh_at]
        refine z_zast S hK hM hS 1 (show M_51 (ar 13) = some (.inl (G.2.2 1, 5000, .inl (zsh (F 13) (t + 1) ac))) from hJ_53.2.1 13 (by decide)) rfl (vp_in_nI (n := (t + 1)) (by omega) (by decide)) (z_nb (hbl t)) dX3_enter_73 (fun H locs hM hS => ?_)
        rw [hcs] at hM
        rw [zsh_1 hta] at hM
        obtain ⟨M_54, eM_55⟩ : ∃ z : zMap, z = zu M_51 (ar 13) (.inl ((G.2.2 1), 5000, .inl (zsh (F 13) t ac))) := ⟨_, rfl⟩
        replace hM : zM A G M_54 H := by rw [eM_55]; exact hM
        have hJ_56 : zJ G M_54 m0 ar th (nI co) (nI ac) gr (zuf (zuf (zuf (zEF F (t + 1) ac) 11 (zsh (F 11) t ac)) 12 (zsh (F 12) t ac)) 13 (zsh (F 13) t ac)) (zEL L (t + 1) ac) := by rw [eM_55]; exact hJ_53.setI 13 (by decide) rfl _
        refine lv_aload_n hx hb dX3_enter_74 rfl (lv_at hl 1 rfl) ?_
        refine z_get (v := .ref (ar 14)) S kX3 hK hM hJ_56.1 17 (by decide) kw_237 rfl dX3_enter_75 ?_
        refine lv_iload hx hb dX3_enter_78 (lv_at hl 0 rfl) ?_
        refine lv_aload_n hx hb dX3_enter_80 rfl (lv_at hl 1 rfl) ?_
        refine z_get (v := .ref (ar 14)) S kX3 hK hM hJ_56.1 17 (by decide) kw_237 rfl dX3_enter_81 ?_
        refine lv_iload hx hb dX3_enter_84 (lv_at hl 0 rfl) ?_
        refine lv_iconst (v := 1) hx hb dX3_enter_86 (by decide) ?_
        refine lv_isub hx hb dX3_enter_87 ?_
        rw [nI_pred]
        refine z_lald S hK hM 3 (show M_54 (ar 14) = some (.inl (G.2.2 3, 5000, .inr (.inl (zsh (L 14) (t + 1) ac)))) from hJ_56.2.1 14 (by decide)) rfl (vp_in_nI (n := t) (by omega) (by decide)) dX3_enter_88 ?_
        rw [hct]
        rw [zsh_at]
        refine z_last S hK hM hS 3 (show M_54 (ar 14) = some (.inl (G.2.2 3, 5000, .inr (.inl (zsh (L 14) (t + 1) ac)))) from hJ_56.2.1 14 (by decide)) rfl (vp_in_nI (n := (t + 1)) (by omega) (by decide)) dX3_enter_89 (fun H locs hM hS => ?_)
        rw [hcs] at hM
        rw [zsh_1L hta] at hM
        obtain ⟨M_57, eM_58⟩ : ∃ z : zMap, z = zu M_54 (ar 14) (.inl ((G.2.2 3), 5000, .inr (.inl (zsh (L 14) t ac)))) := ⟨_, rfl⟩
        replace hM : zM A G M_57 H := by rw [eM_58]; exact hM
        have hJ_59 : zJ G M_57 m0 ar th (nI co) (nI ac) gr (zuf (zuf (zuf (zEF F (t + 1) ac) 11 (zsh (F 11) t ac)) 12 (zsh (F 12) t ac)) 13 (zsh (F 13) t ac)) (zuf (zEL L (t + 1) ac) 14 (zsh (L 14) t ac)) := by rw [eM_58]; exact hJ_56.setL 14 (by decide) rfl _
        refine lv_iinc (v := (nI (t + 1)) + (-1)) (lv' := [(6, .int ((nI (t + 1)) + (-1))), (0, .ref m0), (1, .int cp), (2, .int sta), (3, .int lt), (4, .long day)]) hx hb dX3_enter_90 hl (k := 0) rfl rfl (by decide) rfl (fun ls hl => ?_)
        refine lv_goto (tgt := 6) hx hb dX3_enter_93 (by decide) ?_
        exact ih (t, M_57) ls _ _ ⟨by omega, by rw [hpt, zps, if_pos (Int64.not_le.mp c_25)], by
          have h7 := lv_sub hl [0, 1, 2, 3, 4, 5] rfl
          rw [pk_m1] at h7
          exact h7, hM, hS, by
          have h6 := hJ_59
          rw [zEF_c, zEL_c] at h6
          exact h6⟩ (by show t < t + 1; omega)
end
section
set_option maxHeartbeats 4000000 in
set_option maxRecDepth 100000 in
theorem c_X3_weed (l : Launch) (A : Nat → Prop) (G : zG) (M : zMap) (m0 : Nat) (ar : Nat → Nat) (th : Int32) (co ac : Nat) (gr : Int64) (F : Nat → Nat → Int32) (L : Nat → Nat → Int64) (k who : Int32) (hJ : zJ G M m0 ar th (nI co) (nI ac) gr F L) (hco : co ≤ 80) (hac : ac < 4999) (hbl : ∀ k, zbool (F 13 k)) : zMet l yX3_weed cX3_weed 4 (some .int) { frames := 1, cells := 0, slots := 0, locals := 40 } [.ref m0, .int k, .int who] A G M (zVQ G m0 ar co ac gr F L k who) := by
  refine zMet.of (by decide) (Nat.le_of_ble_eq_true rfl) ?_
  intro p e s m args below meth c ls S hr hlocks hnm hK hM hA hS hl
  have hl : lv_has ls 4 [(0, .ref m0), (1, .int k), (2, .int who)] := hl
  have hx := S.1
  have hb := S.2.1
  have hown := S.2.2.2.1
  have hts := S.2.2.2.2
  have hr : meth.sig.returnType = some .int := hr
  refine lv_aload_n hx hb dX3_weed_0 rfl (lv_at hl 0 rfl) ?_
  refine lv_iconst (v := 0) hx hb dX3_weed_1 (by decide) ?_
  refine z_put S kX3 hK hM hS hJ.1 0 (by decide) kw_220 rfl rfl rfl (Nat.le_of_ble_eq_true rfl) dX3_weed_2 (fun H locs hM hS => ?_)
  obtain ⟨M_1, eM_2⟩ : ∃ z : zMap, z = zu M m0 (oM 0 (nI co) ar (nI ac) gr) := ⟨_, rfl⟩
  replace hM : zM A G M_1 H := by rw [eM_2]; exact hM
  have hJ_3 : zJ G M_1 m0 ar 0 (nI co) (nI ac) gr F L := by rw [eM_2]; exact hJ.setO _ _ _ _
  refine lv_aload_n hx hb dX3_weed_5 rfl (lv_at hl 0 rfl) ?_
  refine lv_iload_n hx hb dX3_weed_6 rfl (lv_at hl 1 rfl) ?_
  refine z_callV (As := [.int k]) (rest := []) S (c_X3_isCopy l A G M_1 m0 ar 0 co ac gr F L k hJ_3 hco) ok_X3_isCopy kw_307 kw_309 ks_7 ⟨Nat.le_of_ble_eq_true rfl, Nat.le_of_ble_eq_true rfl⟩ hK hM hS hA hJ_3.1 rfl rfl hl.1 rfl (Nat.le_of_ble_eq_true rfl) dX3_weed_7 ⟨Nat.le_of_ble_eq_true rfl, Nat.le_of_ble_eq_true rfl⟩ (fun r_6 M_4 H locs hp_5 hM hS => ?_)
  obtain ⟨rfl, hM9⟩ := hp_5
  rw [hM9] at hM
  refine W.eq (g2 := F0 m 10 ls [.int (zb ((zIx co k).isSome = true))]) rfl ?_
  refine lv_if_eq (tgt := 23) hx hb dX3_weed_10 (by decide) (fun c_7 => ?_) (fun c_7 => ?_)
  · -- 10 jump
    rw [zb_0] at c_7
    have hz := zisN c_7
    refine lv_iconst (v := -1) hx hb dX3_weed_23 (by decide) ?_
    exact z_iret S hr hlocks hM hS (by unfold zVQ; rw [hz]; exact ⟨rfl, hJ_3⟩) (Nat.le_of_ble_eq_true rfl) (Nat.le_of_ble_eq_true rfl) dX3_weed_24
  · -- 10 on
    rw [zb_0n] at c_7
    obtain ⟨j, hz⟩ := zisS c_7
    obtain ⟨hj, rfl⟩ := zIx_some hco hz
    have hcl : (nI (j + 1)).toNatClampNeg = j + 1 := nI_clamp (by omega)
    refine lv_iload_n hx hb dX3_weed_13 rfl (lv_at hl 2 rfl) ?_
    refine lv_if_lt (tgt := 23) hx hb dX3_weed_14 (by decide) (fun c_8 => ?_) (fun c_8 => ?_)
    · -- 14 jump
      refine lv_iconst (v := -1) hx hb dX3_weed_23 (by decide) ?_
      exact z_iret S hr hlocks hM hS (by unfold zVQ; rw [hz]; dsimp only; rw [if_neg (fun q => q.1 c_8)]; exact ⟨rfl, hJ_3⟩) (Nat.le_of_ble_eq_true rfl) (Nat.le_of_ble_eq_true rfl) dX3_weed_24
    · -- 14 on
      refine lv_iload_n hx hb dX3_weed_17 rfl (lv_at hl 2 rfl) ?_
      refine lv_bipush (v := 99) hx hb dX3_weed_18 (by decide) ?_
      refine lv_icmp_le (tgt := 25) hx hb dX3_weed_20 (by decide) (fun c_9 => ?_) (fun c_9 => ?_)
      · -- 20 jump
        refine lv_aload_n hx hb dX3_weed_25 rfl (lv_at hl 0 rfl) ?_
        refine z_get (v := .ref (ar 5)) S kX3 hK hM hJ_3.1 7 (by decide) kw_227 rfl dX3_weed_26 ?_
        refine lv_iload_n hx hb dX3_weed_29 rfl (lv_at hl 1 rfl) ?_
        refine z_iald S hK hM 0 (show M_1 (ar 5) = some (.inl (G.2.2 0, 81, .inl (F 5))) from hJ_3.2.1 5 (by decide)) rfl (zvp81 hj hco) dX3_weed_30 ?_
        rw [hcl]
        refine lv_istore_n (lv' := [(3, .int (F 5 (j + 1))), (0, .ref m0), (1, .int (nI (j + 1))), (2, .int who)]) hx hb dX3_weed_31 rfl hl (by decide) rfl (fun ls hl => ?_)
        refine lv_iload_n hx hb dX3_weed_32 rfl (lv_at hl 0 rfl) ?_
        refine lv_if_eq (tgt := 47) hx hb dX3_weed_33 (by decide) (fun c_10 => ?_) (fun c_10 => ?_)
        · -- 33 jump
          refine lv_aload_n hx hb dX3_weed_47 rfl (lv_at hl 1 rfl) ?_
          refine z_get (v := .ref (ar 7)) S kX3 hK hM hJ_3.1 9 (by decide) kw_229 rfl dX3_weed_48 ?_
          refine lv_iload_n hx hb dX3_weed_51 rfl (lv_at hl 2 rfl) ?_
          refine z_iald S hK hM 0 (show M_1 (ar 7) = some (.inl (G.2.2 0, 81, .inl (F 7))) from hJ_3.2.1 7 (by decide)) rfl (zvp81 hj hco) dX3_weed_52 ?_
          rw [hcl]
          refine lv_iload_n hx hb dX3_weed_53 rfl (lv_at hl 3 rfl) ?_
          refine lv_icmp_ne (tgt := 60) hx hb dX3_weed_54 (by decide) (fun c_11 => ?_) (fun c_11 => ?_)
          · -- 54 jump
            refine lv_aload_n hx hb dX3_weed_60 rfl (lv_at hl 1 rfl) ?_
            refine z_get (v := .ref (ar 7)) S kX3 hK hM hJ_3.1 9 (by decide) kw_229 rfl dX3_weed_61 ?_
            refine lv_iload_n hx hb dX3_weed_64 rfl (lv_at hl 2 rfl) ?_
            refine z_iald S hK hM 0 (show M_1 (ar 7) = some (.inl (G.2.2 0, 81, .inl (F 7))) from hJ_3.2.1 7 (by decide)) rfl (zvp81 hj hco) dX3_weed_65 ?_
            rw [hcl]
            refine lv_iconst (v := -1) hx hb dX3_weed_66 (by decide) ?_
            refine lv_icmp_ne (tgt := 79) hx hb dX3_weed_67 (by decide) (fun c_12 => ?_) (fun c_12 => ?_)
            · -- 67 jump
              refine lv_aload_n hx hb dX3_weed_79 rfl (lv_at hl 1 rfl) ?_
              refine lv_iload_n hx hb dX3_weed_80 rfl (lv_at hl 2 rfl) ?_
              refine lv_bipush (v := 7) hx hb dX3_weed_81 (by decide) ?_
              refine lv_iconst (v := 0) hx hb dX3_weed_83 (by decide) ?_
              refine lv_aload_n hx hb dX3_weed_84 rfl (lv_at hl 1 rfl) ?_
              refine z_get (v := .long gr) S kX3 hK hM hJ_3.1 18 (by decide) kw_238 rfl dX3_weed_85 ?_
              refine lv_lconst (v := 1) hx hb dX3_weed_88 (by decide) ?_
              refine lv_ladd hx hb dX3_weed_89 ?_
              refine z_callV (As := [.int (nI (j + 1)), .int 7, .int 0, .long (gr + 1)]) (rest := []) S (c_X3_enter l A G M_1 m0 ar 0 co ac gr F L (nI (j + 1)) 7 0 (gr + 1) hJ_3 hco (by omega) (Or.inl rfl) hbl) ok_X3_enter kw_323 kw_325 ks_9 ⟨Nat.le_of_ble_eq_true rfl, Nat.le_of_ble_eq_true rfl⟩ hK hM hS hA hJ_3.1 rfl rfl hl.1 rfl (Nat.le_of_ble_eq_true rfl) dX3_weed_90 ⟨Nat.le_of_ble_eq_true rfl, Nat.le_of_ble_eq_true rfl⟩ (fun r_15 M_13 H locs hp_14 hM hS => ?_)
              obtain ⟨rfl, hJ_16⟩ := hp_14
              refine W.eq (g2 := F0 m 93 ls []) rfl ?_
              refine lv_aload_n hx hb dX3_weed_93 rfl (lv_at hl 1 rfl) ?_
              refine z_get (v := .ref (ar 5)) S kX3 hK hM hJ_16.1 7 (by decide) kw_227 rfl dX3_weed_94 ?_
              refine lv_iload_n hx hb dX3_weed_97 rfl (lv_at hl 2 rfl) ?_
              refine lv_bipush (v := 7) hx hb dX3_weed_98 (by decide) ?_
              refine z_iast S hK hM hS 0 (show M_13 (ar 5) = some (.inl (G.2.2 0, 81, .inl (F 5))) from hJ_16.2.1 5 (by decide)) rfl (zvp81 hj hco) dX3_weed_100 (fun H locs hM hS => ?_)
              rw [hcl] at hM
              obtain ⟨M_17, eM_18⟩ : ∃ z : zMap, z = zu M_13 (ar 5) (.inl ((G.2.2 0), 81, .inl (upd (F 5) (j + 1) 7))) := ⟨_, rfl⟩
              replace hM : zM A G M_17 H := by rw [eM_18]; exact hM
              have hJ_19 : zJ G M_17 m0 ar 0 (nI co) (nI (ac + 1)) (if gr + 1 ≤ gr then gr else gr + 1) (zuf (zEN F (zps (L 14) (gr + 1) ac) ac (nI (j + 1)) 7 0) 5 (upd (F 5) (j + 1) 7)) (zuf L 14 (zpi (L 14) (zps (L 14) (gr + 1) ac) ac (gr + 1))) := by rw [eM_18]; exact hJ_16.setI 5 (by decide) rfl _
              refine lv_iconst (v := 2) hx hb dX3_weed_101 (by decide) ?_
              exact z_iret S hr hlocks hM hS (by unfold zVQ; rw [hz]; dsimp only; rw [if_pos ⟨c_8, c_9⟩, if_pos ⟨Or.inl c_10, c_11⟩, if_neg c_12]; exact ⟨rfl, hJ_19⟩) (Nat.le_of_ble_eq_true rfl) (Nat.le_of_ble_eq_true rfl) dX3_weed_102
            · -- 67 on
              refine lv_aload_n hx hb dX3_weed_70 rfl (lv_at hl 1 rfl) ?_
              refine z_get (v := .ref (ar 7)) S kX3 hK hM hJ_3.1 9 (by decide) kw_229 rfl dX3_weed_71 ?_
              refine lv_iload_n hx hb dX3_weed_74 rfl (lv_at hl 2 rfl) ?_
              refine lv_iload_n hx hb dX3_weed_75 rfl (lv_at hl 3 rfl) ?_
              refine z_iast S hK hM hS 0 (show M_1 (ar 7) = some (.inl (G.2.2 0, 81, .inl (F 7))) from hJ_3.2.1 7 (by decide)) rfl (zvp81 hj hco) dX3_weed_76 (fun H locs hM hS => ?_)
              rw [hcl] at hM
              obtain ⟨M_20, eM_21⟩ : ∃ z : zMap, z = zu M_1 (ar 7) (.inl ((G.2.2 0), 81, .inl (upd (F 7) (j + 1) who))) := ⟨_, rfl⟩
              replace hM : zM A G M_20 H := by rw [eM_21]; exact hM
              have hJ_22 : zJ G M_20 m0 ar 0 (nI co) (nI ac) gr (zuf F 7 (upd (F 7) (j + 1) who)) L := by rw [eM_21]; exact hJ_3.setI 7 (by decide) rfl _
              refine lv_iconst (v := 1) hx hb dX3_weed_77 (by decide) ?_
              exact z_iret S hr hlocks hM hS (by unfold zVQ; rw [hz]; dsimp only; rw [if_pos ⟨c_8, c_9⟩, if_pos ⟨Or.inl c_10, c_11⟩, if_pos c_12]; exact ⟨rfl, hJ_22⟩) (Nat.le_of_ble_eq_true rfl) (Nat.le_of_ble_eq_true rfl) dX3_weed_78
          · -- 54 on
            refine lv_bipush (v := -2) hx hb dX3_weed_57 (by decide) ?_
            exact z_iret S hr hlocks hM hS (by unfold zVQ; rw [hz]; dsimp only; rw [if_pos ⟨c_8, c_9⟩, if_neg (fun q => q.2 c_11)]; exact ⟨rfl, hJ_3⟩) (Nat.le_of_ble_eq_true rfl) (Nat.le_of_ble_eq_true rfl) dX3_weed_59
        · -- 33 on
          refine lv_iload_n hx hb dX3_weed_36 rfl (lv_at hl 0 rfl) ?_
          refine lv_iconst (v := 3) hx hb dX3_weed_37 (by decide) ?_
          refine lv_icmp_eq (tgt := 47) hx hb dX3_weed_38 (by decide) (fun c_23 => ?_) (fun c_23 => ?_)
          · -- 38 jump
            refine lv_aload_n hx hb dX3_weed_47 rfl (lv_at hl 1 rfl) ?_
            refine z_get (v := .ref (ar 7)) S kX3 hK hM hJ_3.1 9 (by decide) kw_229 rfl dX3_weed_48 ?_
            refine lv_iload_n hx hb dX3_weed_51 rfl (lv_at hl 2 rfl) ?_
            refine z_iald S hK hM 0 (show M_1 (ar 7) = some (.inl (G.2.2 0, 81, .inl (F 7))) from hJ_3.2.1 7 (by decide)) rfl (zvp81 hj hco) dX3_weed_52 ?_
            rw [hcl]
            refine lv_iload_n hx hb dX3_weed_53 rfl (lv_at hl 3 rfl) ?_
            refine lv_icmp_ne (tgt := 60) hx hb dX3_weed_54 (by decide) (fun c_24 => ?_) (fun c_24 => ?_)
            · -- 54 jump
              refine lv_aload_n hx hb dX3_weed_60 rfl (lv_at hl 1 rfl) ?_
              refine z_get (v := .ref (ar 7)) S kX3 hK hM hJ_3.1 9 (by decide) kw_229 rfl dX3_weed_61 ?_
              refine lv_iload_n hx hb dX3_weed_64 rfl (lv_at hl 2 rfl) ?_
              refine z_iald S hK hM 0 (show M_1 (ar 7) = some (.inl (G.2.2 0, 81, .inl (F 7))) from hJ_3.2.1 7 (by decide)) rfl (zvp81 hj hco) dX3_weed_65 ?_
              rw [hcl]
              refine lv_iconst (v := -1) hx hb dX3_weed_66 (by decide) ?_
              refine lv_icmp_ne (tgt := 79) hx hb dX3_weed_67 (by decide) (fun c_25 => ?_) (fun c_25 => ?_)
              · -- 67 jump
                refine lv_aload_n hx hb dX3_weed_79 rfl (lv_at hl 1 rfl) ?_
                refine lv_iload_n hx hb dX3_weed_80 rfl (lv_at hl 2 rfl) ?_
                refine lv_bipush (v := 7) hx hb dX3_weed_81 (by decide) ?_
                refine lv_iconst (v := 0) hx hb dX3_weed_83 (by decide) ?_
                refine lv_aload_n hx hb dX3_weed_84 rfl (lv_at hl 1 rfl) ?_
                refine z_get (v := .long gr) S kX3 hK hM hJ_3.1 18 (by decide) kw_238 rfl dX3_weed_85 ?_
                refine lv_lconst (v := 1) hx hb dX3_weed_88 (by decide) ?_
                refine lv_ladd hx hb dX3_weed_89 ?_
                refine z_callV (As := [.int (nI (j + 1)), .int 7, .int 0, .long (gr + 1)]) (rest := []) S (c_X3_enter l A G M_1 m0 ar 0 co ac gr F L (nI (j + 1)) 7 0 (gr + 1) hJ_3 hco (by omega) (Or.inl rfl) hbl) ok_X3_enter kw_323 kw_325 ks_9 ⟨Nat.le_of_ble_eq_true rfl, Nat.le_of_ble_eq_true rfl⟩ hK hM hS hA hJ_3.1 rfl rfl hl.1 rfl (Nat.le_of_ble_eq_true rfl) dX3_weed_90 ⟨Nat.le_of_ble_eq_true rfl, Nat.le_of_ble_eq_true rfl⟩ (fun r_28 M_26 H locs hp_27 hM hS => ?_)
                obtain ⟨rfl, hJ_29⟩ := hp_27
                refine W.eq (g2 := F0 m 93 ls []) rfl ?_
                refine lv_aload_n hx hb dX3_weed_93 rfl (lv_at hl 1 rfl) ?_
                refine z_get (v := .ref (ar 5)) S kX3 hK hM hJ_29.1 7 (by decide) kw_227 rfl dX3_weed_94 ?_
                refine lv_iload_n hx hb dX3_weed_97 rfl (lv_at hl 2 rfl) ?_
                refine lv_bipush (v := 7) hx hb dX3_weed_98 (by decide) ?_
                refine z_iast S hK hM hS 0 (show M_26 (ar 5) = some (.inl (G.2.2 0, 81, .inl (F 5))) from hJ_29.2.1 5 (by decide)) rfl (zvp81 hj hco) dX3_weed_100 (fun H locs hM hS => ?_)
                rw [hcl] at hM
                obtain ⟨M_30, eM_31⟩ : ∃ z : zMap, z = zu M_26 (ar 5) (.inl ((G.2.2 0), 81, .inl (upd (F 5) (j + 1) 7))) := ⟨_, rfl⟩
                replace hM : zM A G M_30 H := by rw [eM_31]; exact hM
                have hJ_32 : zJ G M_30 m0 ar 0 (nI co) (nI (ac + 1)) (if gr + 1 ≤ gr then gr else gr + 1) (zuf (zEN F (zps (L 14) (gr + 1) ac) ac (nI (j + 1)) 7 0) 5 (upd (F 5) (j + 1) 7)) (zuf L 14 (zpi (L 14) (zps (L 14) (gr + 1) ac) ac (gr + 1))) := by rw [eM_31]; exact hJ_29.setI 5 (by decide) rfl _
                refine lv_iconst (v := 2) hx hb dX3_weed_101 (by decide) ?_
                exact z_iret S hr hlocks hM hS (by unfold zVQ; rw [hz]; dsimp only; rw [if_pos ⟨c_8, c_9⟩, if_pos ⟨Or.inr (Or.inl c_23), c_24⟩, if_neg c_25]; exact ⟨rfl, hJ_32⟩) (Nat.le_of_ble_eq_true rfl) (Nat.le_of_ble_eq_true rfl) dX3_weed_102
              · -- 67 on
                refine lv_aload_n hx hb dX3_weed_70 rfl (lv_at hl 1 rfl) ?_
                refine z_get (v := .ref (ar 7)) S kX3 hK hM hJ_3.1 9 (by decide) kw_229 rfl dX3_weed_71 ?_
                refine lv_iload_n hx hb dX3_weed_74 rfl (lv_at hl 2 rfl) ?_
                refine lv_iload_n hx hb dX3_weed_75 rfl (lv_at hl 3 rfl) ?_
                refine z_iast S hK hM hS 0 (show M_1 (ar 7) = some (.inl (G.2.2 0, 81, .inl (F 7))) from hJ_3.2.1 7 (by decide)) rfl (zvp81 hj hco) dX3_weed_76 (fun H locs hM hS => ?_)
                rw [hcl] at hM
                obtain ⟨M_33, eM_34⟩ : ∃ z : zMap, z = zu M_1 (ar 7) (.inl ((G.2.2 0), 81, .inl (upd (F 7) (j + 1) who))) := ⟨_, rfl⟩
                replace hM : zM A G M_33 H := by rw [eM_34]; exact hM
                have hJ_35 : zJ G M_33 m0 ar 0 (nI co) (nI ac) gr (zuf F 7 (upd (F 7) (j + 1) who)) L := by rw [eM_34]; exact hJ_3.setI 7 (by decide) rfl _
                refine lv_iconst (v := 1) hx hb dX3_weed_77 (by decide) ?_
                exact z_iret S hr hlocks hM hS (by unfold zVQ; rw [hz]; dsimp only; rw [if_pos ⟨c_8, c_9⟩, if_pos ⟨Or.inr (Or.inl c_23), c_24⟩, if_pos c_25]; exact ⟨rfl, hJ_35⟩) (Nat.le_of_ble_eq_true rfl) (Nat.le_of_ble_eq_true rfl) dX3_weed_78
            · -- 54 on
              refine lv_bipush (v := -2) hx hb dX3_weed_57 (by decide) ?_
              exact z_iret S hr hlocks hM hS (by unfold zVQ; rw [hz]; dsimp only; rw [if_pos ⟨c_8, c_9⟩, if_neg (fun q => q.2 c_24)]; exact ⟨rfl, hJ_3⟩) (Nat.le_of_ble_eq_true rfl) (Nat.le_of_ble_eq_true rfl) dX3_weed_59
          · -- 38 on
            refine lv_iload_n hx hb dX3_weed_41 rfl (lv_at hl 0 rfl) ?_
            refine lv_bipush (v := 6) hx hb dX3_weed_42 (by decide) ?_
            refine lv_icmp_ne (tgt := 57) hx hb dX3_weed_44 (by decide) (fun c_36 => ?_) (fun c_36 => ?_)
            · -- 44 jump
              refine lv_bipush (v := -2) hx hb dX3_weed_57 (by decide) ?_
              exact z_iret S hr hlocks hM hS (by unfold zVQ; rw [hz]; dsimp only; rw [if_pos ⟨c_8, c_9⟩, if_neg (fun q => q.1.elim c_10 (fun q => q.elim c_23 c_36))]; exact ⟨rfl, hJ_3⟩) (Nat.le_of_ble_eq_true rfl) (Nat.le_of_ble_eq_true rfl) dX3_weed_59
            · -- 44 on
              refine lv_aload_n hx hb dX3_weed_47 rfl (lv_at hl 1 rfl) ?_
              refine z_get (v := .ref (ar 7)) S kX3 hK hM hJ_3.1 9 (by decide) kw_229 rfl dX3_weed_48 ?_
              refine lv_iload_n hx hb dX3_weed_51 rfl (lv_at hl 2 rfl) ?_
              refine z_iald S hK hM 0 (show M_1 (ar 7) = some (.inl (G.2.2 0, 81, .inl (F 7))) from hJ_3.2.1 7 (by decide)) rfl (zvp81 hj hco) dX3_weed_52 ?_
              rw [hcl]
              refine lv_iload_n hx hb dX3_weed_53 rfl (lv_at hl 3 rfl) ?_
              refine lv_icmp_ne (tgt := 60) hx hb dX3_weed_54 (by decide) (fun c_37 => ?_) (fun c_37 => ?_)
              · -- 54 jump
                refine lv_aload_n hx hb dX3_weed_60 rfl (lv_at hl 1 rfl) ?_
                refine z_get (v := .ref (ar 7)) S kX3 hK hM hJ_3.1 9 (by decide) kw_229 rfl dX3_weed_61 ?_
                refine lv_iload_n hx hb dX3_weed_64 rfl (lv_at hl 2 rfl) ?_
                refine z_iald S hK hM 0 (show M_1 (ar 7) = some (.inl (G.2.2 0, 81, .inl (F 7))) from hJ_3.2.1 7 (by decide)) rfl (zvp81 hj hco) dX3_weed_65 ?_
                rw [hcl]
                refine lv_iconst (v := -1) hx hb dX3_weed_66 (by decide) ?_
                refine lv_icmp_ne (tgt := 79) hx hb dX3_weed_67 (by decide) (fun c_38 => ?_) (fun c_38 => ?_)
                · -- 67 jump
                  refine lv_aload_n hx hb dX3_weed_79 rfl (lv_at hl 1 rfl) ?_
                  refine lv_iload_n hx hb dX3_weed_80 rfl (lv_at hl 2 rfl) ?_
                  refine lv_bipush (v := 7) hx hb dX3_weed_81 (by decide) ?_
                  refine lv_iconst (v := 0) hx hb dX3_weed_83 (by decide) ?_
                  refine lv_aload_n hx hb dX3_weed_84 rfl (lv_at hl 1 rfl) ?_
                  refine z_get (v := .long gr) S kX3 hK hM hJ_3.1 18 (by decide) kw_238 rfl dX3_weed_85 ?_
                  refine lv_lconst (v := 1) hx hb dX3_weed_88 (by decide) ?_
                  refine lv_ladd hx hb dX3_weed_89 ?_
                  refine z_callV (As := [.int (nI (j + 1)), .int 7, .int 0, .long (gr + 1)]) (rest := []) S (c_X3_enter l A G M_1 m0 ar 0 co ac gr F L (nI (j + 1)) 7 0 (gr + 1) hJ_3 hco (by omega) (Or.inl rfl) hbl) ok_X3_enter kw_323 kw_325 ks_9 ⟨Nat.le_of_ble_eq_true rfl, Nat.le_of_ble_eq_true rfl⟩ hK hM hS hA hJ_3.1 rfl rfl hl.1 rfl (Nat.le_of_ble_eq_true rfl) dX3_weed_90 ⟨Nat.le_of_ble_eq_true rfl, Nat.le_of_ble_eq_true rfl⟩ (fun r_41 M_39 H locs hp_40 hM hS => ?_)
                  obtain ⟨rfl, hJ_42⟩ := hp_40
                  refine W.eq (g2 := F0 m 93 ls []) rfl ?_
                  refine lv_aload_n hx hb dX3_weed_93 rfl (lv_at hl 1 rfl) ?_
                  refine z_get (v := .ref (ar 5)) S kX3 hK hM hJ_42.1 7 (by decide) kw_227 rfl dX3_weed_94 ?_
                  refine lv_iload_n hx hb dX3_weed_97 rfl (lv_at hl 2 rfl) ?_
                  refine lv_bipush (v := 7) hx hb dX3_weed_98 (by decide) ?_
                  refine z_iast S hK hM hS 0 (show M_39 (ar 5) = some (.inl (G.2.2 0, 81, .inl (F 5))) from hJ_42.2.1 5 (by decide)) rfl (zvp81 hj hco) dX3_weed_100 (fun H locs hM hS => ?_)
                  rw [hcl] at hM
                  obtain ⟨M_43, eM_44⟩ : ∃ z : zMap, z = zu M_39 (ar 5) (.inl ((G.2.2 0), 81, .inl (upd (F 5) (j + 1) 7))) := ⟨_, rfl⟩
                  replace hM : zM A G M_43 H := by rw [eM_44]; exact hM
                  have hJ_45 : zJ G M_43 m0 ar 0 (nI co) (nI (ac + 1)) (if gr + 1 ≤ gr then gr else gr + 1) (zuf (zEN F (zps (L 14) (gr + 1) ac) ac (nI (j + 1)) 7 0) 5 (upd (F 5) (j + 1) 7)) (zuf L 14 (zpi (L 14) (zps (L 14) (gr + 1) ac) ac (gr + 1))) := by rw [eM_44]; exact hJ_42.setI 5 (by decide) rfl _
                  refine lv_iconst (v := 2) hx hb dX3_weed_101 (by decide) ?_
                  exact z_iret S hr hlocks hM hS (by unfold zVQ; rw [hz]; dsimp only; rw [if_pos ⟨c_8, c_9⟩, if_pos ⟨Or.inr (Or.inr c_36), c_37⟩, if_neg c_38]; exact ⟨rfl, hJ_45⟩) (Nat.le_of_ble_eq_true rfl) (Nat.le_of_ble_eq_true rfl) dX3_weed_102
                · -- 67 on
                  refine lv_aload_n hx hb dX3_weed_70 rfl (lv_at hl 1 rfl) ?_
                  refine z_get (v := .ref (ar 7)) S kX3 hK hM hJ_3.1 9 (by decide) kw_229 rfl dX3_weed_71 ?_
                  refine lv_iload_n hx hb dX3_weed_74 rfl (lv_at hl 2 rfl) ?_
                  refine lv_iload_n hx hb dX3_weed_75 rfl (lv_at hl 3 rfl) ?_
                  refine z_iast S hK hM hS 0 (show M_1 (ar 7) = some (.inl (G.2.2 0, 81, .inl (F 7))) from hJ_3.2.1 7 (by decide)) rfl (zvp81 hj hco) dX3_weed_76 (fun H locs hM hS => ?_)
                  rw [hcl] at hM
                  obtain ⟨M_46, eM_47⟩ : ∃ z : zMap, z = zu M_1 (ar 7) (.inl ((G.2.2 0), 81, .inl (upd (F 7) (j + 1) who))) := ⟨_, rfl⟩
                  replace hM : zM A G M_46 H := by rw [eM_47]; exact hM
                  have hJ_48 : zJ G M_46 m0 ar 0 (nI co) (nI ac) gr (zuf F 7 (upd (F 7) (j + 1) who)) L := by rw [eM_47]; exact hJ_3.setI 7 (by decide) rfl _
                  refine lv_iconst (v := 1) hx hb dX3_weed_77 (by decide) ?_
                  exact z_iret S hr hlocks hM hS (by unfold zVQ; rw [hz]; dsimp only; rw [if_pos ⟨c_8, c_9⟩, if_pos ⟨Or.inr (Or.inr c_36), c_37⟩, if_pos c_38]; exact ⟨rfl, hJ_48⟩) (Nat.le_of_ble_eq_true rfl) (Nat.le_of_ble_eq_true rfl) dX3_weed_78
              · -- 54 on
                refine lv_bipush (v := -2) hx hb dX3_weed_57 (by decide) ?_
                exact z_iret S hr hlocks hM hS (by unfold zVQ; rw [hz]; dsimp only; rw [if_pos ⟨c_8, c_9⟩, if_neg (fun q => q.2 c_37)]; exact ⟨rfl, hJ_3⟩) (Nat.le_of_ble_eq_true rfl) (Nat.le_of_ble_eq_true rfl) dX3_weed_59
      · -- 20 on
        refine lv_iconst (v := -1) hx hb dX3_weed_23 (by decide) ?_
        exact z_iret S hr hlocks hM hS (by unfold zVQ; rw [hz]; dsimp only; rw [if_neg (fun q => c_9 q.2)]; exact ⟨rfl, hJ_3⟩) (Nat.le_of_ble_eq_true rfl) (Nat.le_of_ble_eq_true rfl) dX3_weed_24
set_option maxHeartbeats 4000000 in
set_option maxRecDepth 100000 in
theorem c_X3_history (l : Launch) (A : Nat → Prop) (G : zG) (M : zMap) (m0 : Nat) (ar : Nat → Nat) (th : Int32) (co ac : Nat) (gr : Int64) (F : Nat → Nat → Int32) (L : Nat → Nat → Int64) (k i what : Int32) (hJ : zJ G M m0 ar th (nI co) (nI ac) gr F L) (hco : co ≤ 80) (hac : ac < 5000) : zMet l yX3_history cX3_history 6 (some .int) { frames := 1, cells := 0, slots := 0, locals := 40 } [.ref m0, .int k, .int i, .int what] A G M (fun r M1 => r = some (.int (zsel co k (-1) (fun j => vHi (zel (F 11) (F 12) (F 13) (L 14) (nI (j + 1)) ac) i what))) ∧ zJ G M1 m0 ar 0 (nI co) (nI ac) gr F L) := by
  refine zMet.of (by decide) (Nat.le_of_ble_eq_true rfl) ?_
  intro p e s m args below meth c ls S hr hlocks hnm hK hM hA hS hl
  have hl : lv_has ls 6 [(0, .ref m0), (1, .int k), (2, .int i), (3, .int what)] := hl
  have hx := S.1
  have hb := S.2.1
  have hown := S.2.2.2.1
  have hts := S.2.2.2.2
  have hr : meth.sig.returnType = some .int := hr
  refine lv_aload_n hx hb dX3_history_0 rfl (lv_at hl 0 rfl) ?_
  refine lv_iconst (v := 0) hx hb dX3_history_1 (by decide) ?_
  refine z_put S kX3 hK hM hS hJ.1 0 (by decide) kw_220 rfl rfl rfl (Nat.le_of_ble_eq_true rfl) dX3_history_2 (fun H locs hM hS => ?_)
  obtain ⟨M_1, eM_2⟩ : ∃ z : zMap, z = zu M m0 (oM 0 (nI co) ar (nI ac) gr) := ⟨_, rfl⟩
  replace hM : zM A G M_1 H := by rw [eM_2]; exact hM
  have hJ_3 : zJ G M_1 m0 ar 0 (nI co) (nI ac) gr F L := by rw [eM_2]; exact hJ.setO _ _ _ _
  refine lv_iconst (v := 0) hx hb dX3_history_5 (by decide) ?_
  refine lv_istore (lv' := [(4, .int 0), (0, .ref m0), (1, .int k), (2, .int i), (3, .int what)]) hx hb dX3_history_6 hl (by decide) rfl (fun ls hl => ?_)
  refine lv_iconst (v := 0) hx hb dX3_history_8 (by decide) ?_
  refine lv_istore (lv' := [(5, .int 0), (4, .int 0), (0, .ref m0), (1, .int k), (2, .int i), (3, .int what)]) hx hb dX3_history_9 hl (by decide) rfl (fun ls hl => ?_)
  refine z_loop (fun (t : Nat) ls H' locs' => t ≤ ac ∧ (¬ i < 0 → (zel (F 11) (F 12) (F 13) (L 14) k t).length ≤ i.toNatClampNeg) ∧ lv_has ls 6 [(5, .int (nI t)), (4, .int (nI (zel (F 11) (F 12) (F 13) (L 14) k t).length)), (0, .ref m0), (1, .int k), (2, .int i), (3, .int what)] ∧ zM A G M_1 H' ∧ va_S A s.heap H' locs') (fun t => ac - t) 0 ⟨Nat.zero_le _, fun _ => Nat.zero_le _, hl, hM, hS⟩ ?_
  rintro t ls H locs ⟨hta, hlen, hl, hM, hS⟩ ih
  have hct : (nI t).toNatClampNeg = t := nI_clamp (by omega)
  refine lv_iload hx hb dX3_history_11 (lv_at hl 0 rfl) ?_
  refine lv_aload_n hx hb dX3_history_13 rfl (lv_at hl 2 rfl) ?_
  refine z_get (v := .int (nI ac)) S kX3 hK hM hJ_3.1 13 (by decide) kw_233 rfl dX3_history_14 ?_
  refine lv_icmp_ge (tgt := 97) hx hb dX3_history_17 (by decide) (fun c_4 => ?_) (fun c_4 => ?_)
  · -- 17 jump
    have hta2 : t = ac := by have := (nI_leI (by omega) (by omega)).mp c_4; omega
    refine lv_iconst (v := -1) hx hb dX3_history_97 (by decide) ?_
    exact z_iret S hr hlocks hM hS ⟨by rw [zhi_end hlen hta2], hJ_3⟩ (Nat.le_of_ble_eq_true rfl) (Nat.le_of_ble_eq_true rfl) dX3_history_98
  · -- 17 on
    have hta2 : t < ac := Nat.lt_of_not_le (fun q => c_4 (nI_le q (by omega)))
    refine lv_iload_n hx hb dX3_history_20 rfl (lv_at hl 4 rfl) ?_
    refine lv_if_lt (tgt := 97) hx hb dX3_history_21 (by decide) (fun c_5 => ?_) (fun c_5 => ?_)
    · -- 21 jump
      refine lv_iconst (v := -1) hx hb dX3_history_97 (by decide) ?_
      exact z_iret S hr hlocks hM hS ⟨by rw [zhi_neg c_5], hJ_3⟩ (Nat.le_of_ble_eq_true rfl) (Nat.le_of_ble_eq_true rfl) dX3_history_98
    · -- 21 on
      refine lv_aload_n hx hb dX3_history_24 rfl (lv_at hl 2 rfl) ?_
      refine lv_iload_n hx hb dX3_history_25 rfl (lv_at hl 3 rfl) ?_
      refine z_callV (As := [.int k]) (rest := []) S (c_X3_isCopy l A G M_1 m0 ar 0 co ac gr F L k hJ_3 hco) ok_X3_isCopy kw_307 kw_309 ks_7 ⟨Nat.le_of_ble_eq_true rfl, Nat.le_of_ble_eq_true rfl⟩ hK hM hS hA hJ_3.1 rfl rfl hl.1 rfl (Nat.le_of_ble_eq_true rfl) dX3_history_26 ⟨Nat.le_of_ble_eq_true rfl, Nat.le_of_ble_eq_true rfl⟩ (fun r_8 M_6 H locs hp_7 hM hS => ?_)
      obtain ⟨rfl, hM9⟩ := hp_7
      rw [hM9] at hM
      refine W.eq (g2 := F0 m 29 ls [.int (zb ((zIx co k).isSome = true))]) rfl ?_
      refine lv_if_eq (tgt := 97) hx hb dX3_history_29 (by decide) (fun c_9 => ?_) (fun c_9 => ?_)
      · -- 29 jump
        rw [zb_0] at c_9
        have hz := zisN c_9
        refine lv_iconst (v := -1) hx hb dX3_history_97 (by decide) ?_
        exact z_iret S hr hlocks hM hS ⟨by rw [zsel_n hz], hJ_3⟩ (Nat.le_of_ble_eq_true rfl) (Nat.le_of_ble_eq_true rfl) dX3_history_98
      · -- 29 on
        rw [zb_0n] at c_9
        obtain ⟨j, hz⟩ := zisS c_9
        obtain ⟨hj, rfl⟩ := zIx_some hco hz
        refine lv_aload_n hx hb dX3_history_32 rfl (lv_at hl 2 rfl) ?_
        refine z_get (v := .ref (ar 11)) S kX3 hK hM hJ_3.1 14 (by decide) kw_234 rfl dX3_history_33 ?_
        refine lv_iload hx hb dX3_history_36 (lv_at hl 0 rfl) ?_
        refine z_iald S hK hM 0 (show M_1 (ar 11) = some (.inl (G.2.2 0, 5000, .inl (F 11))) from hJ_3.2.1 11 (by decide)) rfl (zvp5 hta2 hac) dX3_history_38 ?_
        rw [hct]
        refine lv_iload_n hx hb dX3_history_39 rfl (lv_at hl 3 rfl) ?_
        refine lv_icmp_ne (tgt := 91) hx hb dX3_history_40 (by decide) (fun c_10 => ?_) (fun c_10 => ?_)
        · -- 40 jump
          refine lv_iinc (v := (nI t) + 1) (lv' := [(5, .int ((nI t) + 1)), (4, .int (nI (zel (F 11) (F 12) (F 13) (L 14) (nI (j + 1)) t).length)), (0, .ref m0), (1, .int (nI (j + 1))), (2, .int i), (3, .int what)]) hx hb dX3_history_91 hl (k := 0) rfl rfl (by decide) rfl (fun ls hl => ?_)
          refine lv_goto (tgt := 11) hx hb dX3_history_94 (by decide) ?_
          exact ih (t + 1) ls _ _ ⟨by omega, fun _ => by rw [zel, if_neg c_10, List.append_nil]; exact hlen c_5, by
            have h7 := lv_sub hl [0, 1, 2, 3, 4, 5] rfl
            rw [← nI_1 t, zel, if_neg c_10, List.append_nil]
            exact h7, hM, hS⟩ (by omega)
        · -- 40 on
          refine lv_iload hx hb dX3_history_43 (lv_at hl 1 rfl) ?_
          refine lv_iload_n hx hb dX3_history_45 rfl (lv_at hl 4 rfl) ?_
          refine lv_icmp_ne (tgt := 88) hx hb dX3_history_46 (by decide) (fun c_11 => ?_) (fun c_11 => ?_)
          · -- 46 jump
            refine lv_iinc (v := (nI (zel (F 11) (F 12) (F 13) (L 14) (nI (j + 1)) t).length) + 1) (lv' := [(4, .int ((nI (zel (F 11) (F 12) (F 13) (L 14) (nI (j + 1)) t).length) + 1)), (5, .int (nI t)), (0, .ref m0), (1, .int (nI (j + 1))), (2, .int i), (3, .int what)]) hx hb dX3_history_88 hl (k := 1) rfl rfl (by decide) rfl (fun ls hl => ?_)
            refine lv_iinc (v := (nI t) + 1) (lv' := [(5, .int ((nI t) + 1)), (4, .int ((nI (zel (F 11) (F 12) (F 13) (L 14) (nI (j + 1)) t).length) + 1)), (0, .ref m0), (1, .int (nI (j + 1))), (2, .int i), (3, .int what)]) hx hb dX3_history_91 hl (k := 1) rfl rfl (by decide) rfl (fun ls hl => ?_)
            refine lv_goto (tgt := 11) hx hb dX3_history_94 (by decide) ?_
            have hlt : (zel (F 11) (F 12) (F 13) (L 14) (nI (j + 1)) t).length ≠ i.toNatClampNeg := fun q => c_11 (by rw [q]; exact nI_of_clamp c_5)
            exact ih (t + 1) ls _ _ ⟨by omega, fun _ => by
              rw [zel, if_pos c_10, List.length_append]
              have h8 := hlen c_5
              simp only [List.length_cons, List.length_nil]
              omega, by
              have h7 := lv_sub hl [0, 1, 2, 3, 4, 5] rfl
              rw [zel, if_pos c_10, List.length_append]
              rw [nI_1 t, nI_1] at h7
              exact h7, hM, hS⟩ (by omega)
          · -- 46 on
            refine lv_iload_n hx hb dX3_history_49 rfl (lv_at hl 5 rfl) ?_
            refine lv_if_ne (tgt := 63) hx hb dX3_history_50 (by decide) (fun c_12 => ?_) (fun c_12 => ?_)
            · -- 50 jump
              refine lv_iload_n hx hb dX3_history_63 rfl (lv_at hl 5 rfl) ?_
              refine lv_iconst (v := 1) hx hb dX3_history_64 (by decide) ?_
              refine lv_icmp_ne (tgt := 86) hx hb dX3_history_65 (by decide) (fun c_13 => ?_) (fun c_13 => ?_)
              · -- 65 jump
                refine lv_iconst (v := -1) hx hb dX3_history_86 (by decide) ?_
                exact z_iret S hr hlocks hM hS ⟨by rw [zsel_s hz, zhi_at c_5 hta2 c_10 (zclamp_of c_11 c_5 (by have h8 := zel_len (F 11) (F 12) (F 13) (L 14) (nI (j + 1)) t; omega))]; rw [zwhN c_12 c_13], hJ_3⟩ (Nat.le_of_ble_eq_true rfl) (Nat.le_of_ble_eq_true rfl) dX3_history_87
              · -- 65 on
                refine lv_aload_n hx hb dX3_history_68 rfl (lv_at hl 2 rfl) ?_
                refine z_get (v := .ref (ar 13)) S kX3 hK hM hJ_3.1 16 (by decide) kw_236 rfl dX3_history_69 ?_
                refine lv_iload hx hb dX3_history_72 (lv_at hl 0 rfl) ?_
                refine z_zald S hK hM 1 (show M_1 (ar 13) = some (.inl (G.2.2 1, 5000, .inl (F 13))) from hJ_3.2.1 13 (by decide)) rfl (zvp5 hta2 hac) dX3_history_74 ?_
                rw [hct]
                refine lv_if_eq (tgt := 82) hx hb dX3_history_75 (by decide) (fun c_14 => ?_) (fun c_14 => ?_)
                · -- 75 jump
                  refine lv_iconst (v := 0) hx hb dX3_history_82 (by decide) ?_
                  refine lv_goto (tgt := 87) hx hb dX3_history_83 (by decide) ?_
                  exact z_iret S hr hlocks hM hS ⟨by rw [zsel_s hz, zhi_at c_5 hta2 c_10 (zclamp_of c_11 c_5 (by have h8 := zel_len (F 11) (F 12) (F 13) (L 14) (nI (j + 1)) t; omega))]; rw [zwh1 c_13, zb_f (fun q => q c_14)], hJ_3⟩ (Nat.le_of_ble_eq_true rfl) (Nat.le_of_ble_eq_true rfl) dX3_history_87
                · -- 75 on
                  refine lv_iconst (v := 1) hx hb dX3_history_78 (by decide) ?_
                  refine lv_goto (tgt := 87) hx hb dX3_history_79 (by decide) ?_
                  exact z_iret S hr hlocks hM hS ⟨by rw [zsel_s hz, zhi_at c_5 hta2 c_10 (zclamp_of c_11 c_5 (by have h8 := zel_len (F 11) (F 12) (F 13) (L 14) (nI (j + 1)) t; omega))]; rw [zwh1 c_13, zb_t c_14], hJ_3⟩ (Nat.le_of_ble_eq_true rfl) (Nat.le_of_ble_eq_true rfl) dX3_history_87
            · -- 50 on
              refine lv_aload_n hx hb dX3_history_53 rfl (lv_at hl 2 rfl) ?_
              refine z_get (v := .ref (ar 12)) S kX3 hK hM hJ_3.1 15 (by decide) kw_235 rfl dX3_history_54 ?_
              refine lv_iload hx hb dX3_history_57 (lv_at hl 0 rfl) ?_
              refine z_iald S hK hM 0 (show M_1 (ar 12) = some (.inl (G.2.2 0, 5000, .inl (F 12))) from hJ_3.2.1 12 (by decide)) rfl (zvp5 hta2 hac) dX3_history_59 ?_
              rw [hct]
              refine lv_goto (tgt := 87) hx hb dX3_history_60 (by decide) ?_
              exact z_iret S hr hlocks hM hS ⟨by rw [zsel_s hz, zhi_at c_5 hta2 c_10 (zclamp_of c_11 c_5 (by have h8 := zel_len (F 11) (F 12) (F 13) (L 14) (nI (j + 1)) t; omega))]; rw [zwh0 c_12], hJ_3⟩ (Nat.le_of_ble_eq_true rfl) (Nat.le_of_ble_eq_true rfl) dX3_history_87
set_option maxHeartbeats 4000000 in
set_option maxRecDepth 100000 in
theorem c_X3_act (l : Launch) (A : Nat → Prop) (G : zG) (M : zMap) (m0 : Nat) (ar : Nat → Nat) (th : Int32) (co ac : Nat) (gr : Int64) (F : Nat → Nat → Int32) (L : Nat → Nat → Int64) (k kind place : Int32) (day : Int64) (hJ : zJ G M m0 ar th (nI co) (nI ac) gr F L) (hco : co ≤ 80) (hac : ac < 4999) (hac5 : ac < 5000) (hbl : ∀ k, zbool (F 13 k)) (hty : ∀ j, j < co → zTy (F 0 (j + 1)) ∧ zPl (F 4 (j + 1))) : zMet l yX3_act cX3_act 9 (some .int) { frames := 1, cells := 0, slots := 0, locals := 40 } [.ref m0, .int k, .int kind, .int place, .long day] A G M (zBQ G m0 ar co ac gr F L k kind place day) := by
  refine zMet.of (by decide) (Nat.le_of_ble_eq_true rfl) ?_
  intro p e s m args below meth c ls S hr hlocks hnm hK hM hA hS hl
  have hl : lv_has ls 9 [(0, .ref m0), (1, .int k), (2, .int kind), (3, .int place), (4, .long day)] := hl
  have hx := S.1
  have hb := S.2.1
  have hown := S.2.2.2.1
  have hts := S.2.2.2.2
  have hr : meth.sig.returnType = some .int := hr
  refine lv_aload_n hx hb dX3_act_0 rfl (lv_at hl 0 rfl) ?_
  refine lv_iconst (v := 0) hx hb dX3_act_1 (by decide) ?_
  refine z_put S kX3 hK hM hS hJ.1 0 (by decide) kw_220 rfl rfl rfl (Nat.le_of_ble_eq_true rfl) dX3_act_2 (fun H locs hM hS => ?_)
  obtain ⟨M_1, eM_2⟩ : ∃ z : zMap, z = zu M m0 (oM 0 (nI co) ar (nI ac) gr) := ⟨_, rfl⟩
  replace hM : zM A G M_1 H := by rw [eM_2]; exact hM
  have hJ_3 : zJ G M_1 m0 ar 0 (nI co) (nI ac) gr F L := by rw [eM_2]; exact hJ.setO _ _ _ _
  refine lv_aload_n hx hb dX3_act_5 rfl (lv_at hl 0 rfl) ?_
  refine lv_iload_n hx hb dX3_act_6 rfl (lv_at hl 1 rfl) ?_
  refine z_callV (As := [.int k]) (rest := []) S (c_X3_isCopy l A G M_1 m0 ar 0 co ac gr F L k hJ_3 hco) ok_X3_isCopy kw_307 kw_309 ks_7 ⟨Nat.le_of_ble_eq_true rfl, Nat.le_of_ble_eq_true rfl⟩ hK hM hS hA hJ_3.1 rfl rfl hl.1 rfl (Nat.le_of_ble_eq_true rfl) dX3_act_7 ⟨Nat.le_of_ble_eq_true rfl, Nat.le_of_ble_eq_true rfl⟩ (fun r_6 M_4 H locs hp_5 hM hS => ?_)
  obtain ⟨rfl, hM9⟩ := hp_5
  rw [hM9] at hM
  refine W.eq (g2 := F0 m 10 ls [.int (zb ((zIx co k).isSome = true))]) rfl ?_
  refine lv_if_eq (tgt := 64) hx hb dX3_act_10 (by decide) (fun c_7 => ?_) (fun c_7 => ?_)
  · -- 10 jump
    rw [zb_0] at c_7
    have hz := zisN c_7
    refine lv_iconst (v := -1) hx hb dX3_act_64 (by decide) ?_
    exact z_iret S hr hlocks hM hS (by unfold zBQ; rw [hz]; exact ⟨rfl, hJ_3⟩) (Nat.le_of_ble_eq_true rfl) (Nat.le_of_ble_eq_true rfl) dX3_act_65
  · -- 10 on
    rw [zb_0n] at c_7
    obtain ⟨j, hz⟩ := zisS c_7
    obtain ⟨hj, rfl⟩ := zIx_some hco hz
    have hcl : (nI (j + 1)).toNatClampNeg = j + 1 := nI_clamp (by omega)
    refine lv_iload_n hx hb dX3_act_13 rfl (lv_at hl 2 rfl) ?_
    refine lv_if_lt (tgt := 64) hx hb dX3_act_14 (by decide) (fun c_8 => ?_) (fun c_8 => ?_)
    · -- 14 jump
      refine lv_iconst (v := -1) hx hb dX3_act_64 (by decide) ?_
      exact z_iret S hr hlocks hM hS (by unfold zBQ; rw [hz]; dsimp only; rw [if_neg (fun q => q.1 c_8)]; exact ⟨rfl, hJ_3⟩) (Nat.le_of_ble_eq_true rfl) (Nat.le_of_ble_eq_true rfl) dX3_act_65
    · -- 14 on
      refine lv_iload_n hx hb dX3_act_17 rfl (lv_at hl 2 rfl) ?_
      refine lv_bipush (v := 6) hx hb dX3_act_18 (by decide) ?_
      refine lv_icmp_gt (tgt := 64) hx hb dX3_act_20 (by decide) (fun c_9 => ?_) (fun c_9 => ?_)
      · -- 20 jump
        refine lv_iconst (v := -1) hx hb dX3_act_64 (by decide) ?_
        exact z_iret S hr hlocks hM hS (by unfold zBQ; rw [hz]; dsimp only; rw [if_neg (fun q => q.2.1 c_9)]; exact ⟨rfl, hJ_3⟩) (Nat.le_of_ble_eq_true rfl) (Nat.le_of_ble_eq_true rfl) dX3_act_65
      · -- 20 on
        refine lv_lload hx hb dX3_act_23 (lv_at hl 4 rfl) ?_
        refine lv_lconst (v := 0) hx hb dX3_act_25 (by decide) ?_
        refine W.lcmp hx hb dX3_act_26 ?_
        refine lv_if_lt (tgt := 64) hx hb dX3_act_27 (by decide) (fun c_10 => ?_) (fun c_10 => ?_)
        · -- 27 jump
          rw [lg_cmp_lt] at c_10
          refine lv_iconst (v := -1) hx hb dX3_act_64 (by decide) ?_
          exact z_iret S hr hlocks hM hS (by unfold zBQ; rw [hz]; dsimp only; rw [if_neg (fun q => q.2.2.1 c_10)]; exact ⟨rfl, hJ_3⟩) (Nat.le_of_ble_eq_true rfl) (Nat.le_of_ble_eq_true rfl) dX3_act_65
        · -- 27 on
          rw [lg_cmp_lt] at c_10
          refine lv_lload hx hb dX3_act_30 (lv_at hl 4 rfl) ?_
          refine lv_ldc2 (v := 1000000000000) hx hb hown (hts _ kw_319) dX3_act_32 ?_
          refine W.lcmp hx hb dX3_act_35 ?_
          refine lv_if_gt (tgt := 64) hx hb dX3_act_36 (by decide) (fun c_11 => ?_) (fun c_11 => ?_)
          · -- 36 jump
            rw [lg_cmp_gt] at c_11
            refine lv_iconst (v := -1) hx hb dX3_act_64 (by decide) ?_
            exact z_iret S hr hlocks hM hS (by unfold zBQ; rw [hz]; dsimp only; rw [if_neg (fun q => q.2.2.2.1 c_11)]; exact ⟨rfl, hJ_3⟩) (Nat.le_of_ble_eq_true rfl) (Nat.le_of_ble_eq_true rfl) dX3_act_65
          · -- 36 on
            rw [lg_cmp_gt] at c_11
            refine lv_iload_n hx hb dX3_act_39 rfl (lv_at hl 2 rfl) ?_
            refine lv_iconst (v := 2) hx hb dX3_act_40 (by decide) ?_
            refine lv_icmp_ne (tgt := 66) hx hb dX3_act_41 (by decide) (fun c_12 => ?_) (fun c_12 => ?_)
            · -- 41 jump
              refine lv_lload hx hb dX3_act_66 (lv_at hl 4 rfl) ?_
              refine lv_aload_n hx hb dX3_act_68 rfl (lv_at hl 0 rfl) ?_
              refine z_get (v := .long gr) S kX3 hK hM hJ_3.1 18 (by decide) kw_238 rfl dX3_act_69 ?_
              refine W.lcmp hx hb dX3_act_72 ?_
              refine lv_if_ge (tgt := 80) hx hb dX3_act_73 (by decide) (fun c_13 => ?_) (fun c_13 => ?_)
              · -- 73 jump
                rw [lg_cmp_ge] at c_13
                refine lv_iconst (v := 0) hx hb dX3_act_80 (by decide) ?_
                refine lv_istore (lv' := [(6, .int 0), (0, .ref m0), (1, .int (nI (j + 1))), (2, .int kind), (3, .int place), (4, .long day)]) hx hb dX3_act_81 hl (by decide) rfl (fun ls hl => ?_)
                refine lv_iload hx hb dX3_act_83 (lv_at hl 0 rfl) ?_
                refine lv_if_eq (tgt := 98) hx hb dX3_act_85 (by decide) (fun c_14 => ?_) (fun c_14 => absurd c_14 (by decide))
                refine lv_iconst (v := -1) hx hb dX3_act_98 (by decide) ?_
                refine lv_istore (lv' := [(7, .int (-1)), (6, .int 0), (0, .ref m0), (1, .int (nI (j + 1))), (2, .int kind), (3, .int place), (4, .long day)]) hx hb dX3_act_99 hl (by decide) rfl (fun ls hl => ?_)
                refine lv_iload hx hb dX3_act_101 (lv_at hl 1 rfl) ?_
                refine lv_if_ne (tgt := 115) hx hb dX3_act_103 (by decide) (fun c_15 => absurd c_15 (by decide)) (fun c_15 => ?_)
                refine lv_aload_n hx hb dX3_act_106 rfl (lv_at hl 2 rfl) ?_
                refine z_get (v := .ref (ar 5)) S kX3 hK hM hJ_3.1 7 (by decide) kw_227 rfl dX3_act_107 ?_
                refine lv_iload_n hx hb dX3_act_110 rfl (lv_at hl 3 rfl) ?_
                refine z_iald S hK hM 0 (show M_1 (ar 5) = some (.inl (G.2.2 0, 81, .inl (F 5))) from hJ_3.2.1 5 (by decide)) rfl (zvp81 hj hco) dX3_act_111 ?_
                rw [hcl]
                refine lv_goto (tgt := 132) hx hb dX3_act_112 (by decide) ?_
                refine lv_istore (lv' := [(8, .int (F 5 (j + 1))), (7, .int (-1)), (6, .int 0), (0, .ref m0), (1, .int (nI (j + 1))), (2, .int kind), (3, .int place), (4, .long day)]) hx hb dX3_act_132 hl (by decide) rfl (fun ls hl => ?_)
                refine lv_iload_n hx hb dX3_act_134 rfl (lv_at hl 5 rfl) ?_
                refine lv_iload hx hb dX3_act_135 (lv_at hl 0 rfl) ?_
                refine z_callS (As := [.int kind, .int (F 5 (j + 1))]) (rest := []) S (c_X3_follows l A G M_1 kind (F 5 (j + 1))) ok_X3_follows kw_320 kw_321 ⟨Nat.le_of_ble_eq_true rfl, Nat.le_of_ble_eq_true rfl⟩ hK hM hS hA rfl hl.1 rfl (Nat.le_of_ble_eq_true rfl) dX3_act_137 ⟨Nat.le_of_ble_eq_true rfl, Nat.le_of_ble_eq_true rfl⟩ (fun r_18 M_16 H locs hp_17 hM hS => ?_)
                obtain ⟨rfl, hM9⟩ := hp_17
                rw [hM9] at hM
                refine W.eq (g2 := F0 m 140 ls [.int (zb (zFm kind (F 5 (j + 1))))]) rfl ?_
                refine lv_if_ne (tgt := 146) hx hb dX3_act_140 (by decide) (fun c_19 => ?_) (fun c_19 => ?_)
                · -- 140 jump
                  rw [zb_0n] at c_19
                  refine lv_iload_n hx hb dX3_act_146 rfl (lv_at hl 5 rfl) ?_
                  refine lv_iconst (v := 2) hx hb dX3_act_147 (by decide) ?_
                  refine lv_icmp_ne (tgt := 170) hx hb dX3_act_148 (by decide) (fun c_20 => ?_) (fun c_20 => ?_)
                  · -- 148 jump
                    refine lv_iload_n hx hb dX3_act_170 rfl (lv_at hl 5 rfl) ?_
                    refine lv_if_ne (tgt := 212) hx hb dX3_act_171 (by decide) (fun c_21 => ?_) (fun c_21 => ?_)
                    · -- 171 jump
                      refine lv_aload_n hx hb dX3_act_212 rfl (lv_at hl 3 rfl) ?_
                      refine lv_iload_n hx hb dX3_act_213 rfl (lv_at hl 4 rfl) ?_
                      refine lv_iload_n hx hb dX3_act_214 rfl (lv_at hl 5 rfl) ?_
                      refine lv_iload hx hb dX3_act_215 (lv_at hl 2 rfl) ?_
                      refine lv_lload hx hb dX3_act_217 (lv_at hl 7 rfl) ?_
                      refine z_callV (As := [.int (nI (j + 1)), .int kind, .int 0, .long day]) (rest := []) S (c_X3_enter l A G M_1 m0 ar 0 co ac gr F L (nI (j + 1)) kind 0 day hJ_3 hco (by omega) (Or.inl rfl) hbl) ok_X3_enter kw_323 kw_325 ks_9 ⟨Nat.le_of_ble_eq_true rfl, Nat.le_of_ble_eq_true rfl⟩ hK hM hS hA hJ_3.1 rfl rfl hl.1 rfl (Nat.le_of_ble_eq_true rfl) dX3_act_219 ⟨Nat.le_of_ble_eq_true rfl, Nat.le_of_ble_eq_true rfl⟩ (fun r_24 M_22 H locs hp_23 hM hS => ?_)
                      obtain ⟨rfl, hJ_25⟩ := hp_23
                      refine W.eq (g2 := F0 m 222 ls []) rfl ?_
                      refine lv_iload hx hb dX3_act_222 (lv_at hl 2 rfl) ?_
                      refine lv_if_eq (tgt := 229) hx hb dX3_act_224 (by decide) (fun c_26 => ?_) (fun c_26 => absurd c_26 (by decide))
                      refine lv_aload_n hx hb dX3_act_229 rfl (lv_at hl 3 rfl) ?_
                      refine z_get (v := .ref (ar 8)) S kX3 hK hM hJ_25.1 10 (by decide) kw_230 rfl dX3_act_230 ?_
                      refine lv_iload_n hx hb dX3_act_233 rfl (lv_at hl 4 rfl) ?_
                      refine lv_dup2_11 hx hb dX3_act_234 rfl rfl ?_
                      refine z_iald S hK hM 0 (show M_22 (ar 8) = some (.inl (G.2.2 0, 81, .inl (F 8))) from hJ_25.2.1 8 (by decide)) rfl (zvp81 hj hco) dX3_act_235 ?_
                      rw [hcl]
                      refine lv_iload_n hx hb dX3_act_236 rfl (lv_at hl 5 rfl) ?_
                      refine lv_bipush (v := 6) hx hb dX3_act_237 (by decide) ?_
                      refine lv_icmp_ne (tgt := 262) hx hb dX3_act_239 (by decide) (fun c_27 => ?_) (fun c_27 => ?_)
                      · -- 239 jump
                        refine lv_iconst (v := 0) hx hb dX3_act_262 (by decide) ?_
                        refine lv_iadd hx hb dX3_act_263 ?_
                        refine z_iast S hK hM hS 0 (show M_22 (ar 8) = some (.inl (G.2.2 0, 81, .inl (F 8))) from hJ_25.2.1 8 (by decide)) rfl (zvp81 hj hco) dX3_act_264 (fun H locs hM hS => ?_)
                        rw [hcl] at hM
                        obtain ⟨M_28, eM_29⟩ : ∃ z : zMap, z = zu M_22 (ar 8) (.inl ((G.2.2 0), 81, .inl (upd (F 8) (j + 1) ((F 8 (j + 1)) + 0)))) := ⟨_, rfl⟩
                        replace hM : zM A G M_28 H := by rw [eM_29]; exact hM
                        have hJ_30 : zJ G M_28 m0 ar 0 (nI co) (nI (ac + 1)) (if day ≤ gr then gr else day) (zuf (zEN F (zps (L 14) day ac) ac (nI (j + 1)) kind 0) 8 (upd (F 8) (j + 1) ((F 8 (j + 1)) + 0))) (zuf L 14 (zpi (L 14) (zps (L 14) day ac) ac day)) := by rw [eM_29]; exact hJ_25.setI 8 (by decide) rfl _
                        refine lv_aload_n hx hb dX3_act_265 rfl (lv_at hl 3 rfl) ?_
                        refine z_get (v := .ref (ar 5)) S kX3 hK hM hJ_30.1 7 (by decide) kw_227 rfl dX3_act_266 ?_
                        refine lv_iload_n hx hb dX3_act_269 rfl (lv_at hl 4 rfl) ?_
                        refine lv_iload_n hx hb dX3_act_270 rfl (lv_at hl 5 rfl) ?_
                        refine z_iast S hK hM hS 0 (show M_28 (ar 5) = some (.inl (G.2.2 0, 81, .inl (F 5))) from hJ_30.2.1 5 (by decide)) rfl (zvp81 hj hco) dX3_act_271 (fun H locs hM hS => ?_)
                        rw [hcl] at hM
                        obtain ⟨M_31, eM_32⟩ : ∃ z : zMap, z = zu M_28 (ar 5) (.inl ((G.2.2 0), 81, .inl (upd (F 5) (j + 1) kind))) := ⟨_, rfl⟩
                        replace hM : zM A G M_31 H := by rw [eM_32]; exact hM
                        have hJ_33 : zJ G M_31 m0 ar 0 (nI co) (nI (ac + 1)) (if day ≤ gr then gr else day) (zuf (zuf (zEN F (zps (L 14) day ac) ac (nI (j + 1)) kind 0) 8 (upd (F 8) (j + 1) ((F 8 (j + 1)) + 0))) 5 (upd (F 5) (j + 1) kind)) (zuf L 14 (zpi (L 14) (zps (L 14) day ac) ac day)) := by rw [eM_32]; exact hJ_30.setI 5 (by decide) rfl _
                        refine lv_aload_n hx hb dX3_act_272 rfl (lv_at hl 3 rfl) ?_
                        refine z_get (v := .ref (ar 4)) S kX3 hK hM hJ_33.1 6 (by decide) kw_226 rfl dX3_act_273 ?_
                        refine lv_iload_n hx hb dX3_act_276 rfl (lv_at hl 4 rfl) ?_
                        refine lv_iload_n hx hb dX3_act_277 rfl (lv_at hl 5 rfl) ?_
                        refine lv_iconst (v := 2) hx hb dX3_act_278 (by decide) ?_
                        refine lv_icmp_ne (tgt := 286) hx hb dX3_act_279 (by decide) (fun c_34 => ?_) (fun c_34 => ?_)
                        · -- 279 jump
                          refine lv_aload_n hx hb dX3_act_286 rfl (lv_at hl 3 rfl) ?_
                          refine z_get (v := .ref (ar 4)) S kX3 hK hM hJ_33.1 6 (by decide) kw_226 rfl dX3_act_287 ?_
                          refine lv_iload_n hx hb dX3_act_290 rfl (lv_at hl 4 rfl) ?_
                          refine z_iald S hK hM 0 (show M_31 (ar 4) = some (.inl (G.2.2 0, 81, .inl (F 4))) from hJ_33.2.1 4 (by decide)) rfl (zvp81 hj hco) dX3_act_291 ?_
                          rw [hcl]
                          refine z_iast S hK hM hS 0 (show M_31 (ar 4) = some (.inl (G.2.2 0, 81, .inl (F 4))) from hJ_33.2.1 4 (by decide)) rfl (zvp81 hj hco) dX3_act_292 (fun H locs hM hS => ?_)
                          rw [hcl] at hM
                          obtain ⟨M_35, eM_36⟩ : ∃ z : zMap, z = zu M_31 (ar 4) (.inl ((G.2.2 0), 81, .inl (upd (F 4) (j + 1) (F 4 (j + 1))))) := ⟨_, rfl⟩
                          replace hM : zM A G M_35 H := by rw [eM_36]; exact hM
                          have hJ_37 : zJ G M_35 m0 ar 0 (nI co) (nI (ac + 1)) (if day ≤ gr then gr else day) (zuf (zuf (zuf (zEN F (zps (L 14) day ac) ac (nI (j + 1)) kind 0) 8 (upd (F 8) (j + 1) ((F 8 (j + 1)) + 0))) 5 (upd (F 5) (j + 1) kind)) 4 (upd (F 4) (j + 1) (F 4 (j + 1)))) (zuf L 14 (zpi (L 14) (zps (L 14) day ac) ac day)) := by rw [eM_36]; exact hJ_33.setI 4 (by decide) rfl _
                          refine lv_aload_n hx hb dX3_act_293 rfl (lv_at hl 3 rfl) ?_
                          refine z_get (v := .ref (ar 3)) S kX3 hK hM hJ_37.1 5 (by decide) kw_225 rfl dX3_act_294 ?_
                          refine lv_iload_n hx hb dX3_act_297 rfl (lv_at hl 4 rfl) ?_
                          refine lv_iload_n hx hb dX3_act_298 rfl (lv_at hl 5 rfl) ?_
                          refine lv_if_ne (tgt := 320) hx hb dX3_act_299 (by decide) (fun c_38 => ?_) (fun c_38 => ?_)
                          · -- 299 jump
                            refine lv_aload_n hx hb dX3_act_320 rfl (lv_at hl 3 rfl) ?_
                            refine z_get (v := .ref (ar 3)) S kX3 hK hM hJ_37.1 5 (by decide) kw_225 rfl dX3_act_321 ?_
                            refine lv_iload_n hx hb dX3_act_324 rfl (lv_at hl 4 rfl) ?_
                            refine z_iald S hK hM 0 (show M_35 (ar 3) = some (.inl (G.2.2 0, 81, .inl (F 3))) from hJ_37.2.1 3 (by decide)) rfl (zvp81 hj hco) dX3_act_325 ?_
                            rw [hcl]
                            refine z_iast S hK hM hS 0 (show M_35 (ar 3) = some (.inl (G.2.2 0, 81, .inl (F 3))) from hJ_37.2.1 3 (by decide)) rfl (zvp81 hj hco) dX3_act_326 (fun H locs hM hS => ?_)
                            rw [hcl] at hM
                            obtain ⟨M_39, eM_40⟩ : ∃ z : zMap, z = zu M_35 (ar 3) (.inl ((G.2.2 0), 81, .inl (upd (F 3) (j + 1) (F 3 (j + 1))))) := ⟨_, rfl⟩
                            replace hM : zM A G M_39 H := by rw [eM_40]; exact hM
                            have hJ_41 : zJ G M_39 m0 ar 0 (nI co) (nI (ac + 1)) (if day ≤ gr then gr else day) (zuf (zuf (zuf (zuf (zEN F (zps (L 14) day ac) ac (nI (j + 1)) kind 0) 8 (upd (F 8) (j + 1) ((F 8 (j + 1)) + 0))) 5 (upd (F 5) (j + 1) kind)) 4 (upd (F 4) (j + 1) (F 4 (j + 1)))) 3 (upd (F 3) (j + 1) (F 3 (j + 1)))) (zuf L 14 (zpi (L 14) (zps (L 14) day ac) ac day)) := by rw [eM_40]; exact hJ_37.setI 3 (by decide) rfl _
                            refine lv_aload_n hx hb dX3_act_327 rfl (lv_at hl 3 rfl) ?_
                            refine z_get (v := .ref (ar 7)) S kX3 hK hM hJ_41.1 9 (by decide) kw_229 rfl dX3_act_328 ?_
                            refine lv_iload_n hx hb dX3_act_331 rfl (lv_at hl 4 rfl) ?_
                            refine lv_iconst (v := -1) hx hb dX3_act_332 (by decide) ?_
                            refine z_iast S hK hM hS 0 (show M_39 (ar 7) = some (.inl (G.2.2 0, 81, .inl (F 7))) from hJ_41.2.1 7 (by decide)) rfl (zvp81 hj hco) dX3_act_333 (fun H locs hM hS => ?_)
                            rw [hcl] at hM
                            obtain ⟨M_42, eM_43⟩ : ∃ z : zMap, z = zu M_39 (ar 7) (.inl ((G.2.2 0), 81, .inl (upd (F 7) (j + 1) (-1)))) := ⟨_, rfl⟩
                            replace hM : zM A G M_42 H := by rw [eM_43]; exact hM
                            have hJ_44 : zJ G M_42 m0 ar 0 (nI co) (nI (ac + 1)) (if day ≤ gr then gr else day) (zuf (zuf (zuf (zuf (zuf (zEN F (zps (L 14) day ac) ac (nI (j + 1)) kind 0) 8 (upd (F 8) (j + 1) ((F 8 (j + 1)) + 0))) 5 (upd (F 5) (j + 1) kind)) 4 (upd (F 4) (j + 1) (F 4 (j + 1)))) 3 (upd (F 3) (j + 1) (F 3 (j + 1)))) 7 (upd (F 7) (j + 1) (-1))) (zuf L 14 (zpi (L 14) (zps (L 14) day ac) ac day)) := by rw [eM_43]; exact hJ_41.setI 7 (by decide) rfl _
                            refine lv_iload_n hx hb dX3_act_334 rfl (lv_at hl 5 rfl) ?_
                            exact z_iret S hr hlocks hM hS (by unfold zBQ; rw [hz]; dsimp only; rw [if_pos ⟨c_8, c_9, c_10, c_11, fun q => absurd q c_12⟩, zBe_n (Int64.not_lt.mpr c_13)]; rw [if_pos c_19]; rw [if_neg (fun q => q.elim (fun q => absurd q.1 c_20) (fun q => absurd q.1 c_21)), if_neg (Int64.not_lt.mpr c_13), zb_f (Int64.not_lt.mpr c_13)]; exact ⟨rfl, by rw [zCF_eq (F0 := zEN F (zps (L 14) day ac) ac (nI (j + 1)) kind 0) (j := j) (kind := kind) (place := place) (fro := F 5 (j + 1)) (if_neg (fun q => c_27 q.1)) (if_neg c_34) (if_neg (fun q => c_38 q.1))]; exact hJ_44⟩) (Nat.le_of_ble_eq_true rfl) (Nat.le_of_ble_eq_true rfl) dX3_act_335
                          · -- 299 on
                            exact absurd c_38 c_21
                        · -- 279 on
                          exact absurd c_34 c_20
                      · -- 239 on
                        refine lv_iload hx hb dX3_act_242 (lv_at hl 0 rfl) ?_
                        refine lv_iconst (v := 1) hx hb dX3_act_244 (by decide) ?_
                        refine lv_icmp_ne (tgt := 262) hx hb dX3_act_245 (by decide) (fun c_45 => ?_) (fun c_45 => ?_)
                        · -- 245 jump
                          refine lv_iconst (v := 0) hx hb dX3_act_262 (by decide) ?_
                          refine lv_iadd hx hb dX3_act_263 ?_
                          refine z_iast S hK hM hS 0 (show M_22 (ar 8) = some (.inl (G.2.2 0, 81, .inl (F 8))) from hJ_25.2.1 8 (by decide)) rfl (zvp81 hj hco) dX3_act_264 (fun H locs hM hS => ?_)
                          rw [hcl] at hM
                          obtain ⟨M_46, eM_47⟩ : ∃ z : zMap, z = zu M_22 (ar 8) (.inl ((G.2.2 0), 81, .inl (upd (F 8) (j + 1) ((F 8 (j + 1)) + 0)))) := ⟨_, rfl⟩
                          replace hM : zM A G M_46 H := by rw [eM_47]; exact hM
                          have hJ_48 : zJ G M_46 m0 ar 0 (nI co) (nI (ac + 1)) (if day ≤ gr then gr else day) (zuf (zEN F (zps (L 14) day ac) ac (nI (j + 1)) kind 0) 8 (upd (F 8) (j + 1) ((F 8 (j + 1)) + 0))) (zuf L 14 (zpi (L 14) (zps (L 14) day ac) ac day)) := by rw [eM_47]; exact hJ_25.setI 8 (by decide) rfl _
                          refine lv_aload_n hx hb dX3_act_265 rfl (lv_at hl 3 rfl) ?_
                          refine z_get (v := .ref (ar 5)) S kX3 hK hM hJ_48.1 7 (by decide) kw_227 rfl dX3_act_266 ?_
                          refine lv_iload_n hx hb dX3_act_269 rfl (lv_at hl 4 rfl) ?_
                          refine lv_iload_n hx hb dX3_act_270 rfl (lv_at hl 5 rfl) ?_
                          refine z_iast S hK hM hS 0 (show M_46 (ar 5) = some (.inl (G.2.2 0, 81, .inl (F 5))) from hJ_48.2.1 5 (by decide)) rfl (zvp81 hj hco) dX3_act_271 (fun H locs hM hS => ?_)
                          rw [hcl] at hM
                          obtain ⟨M_49, eM_50⟩ : ∃ z : zMap, z = zu M_46 (ar 5) (.inl ((G.2.2 0), 81, .inl (upd (F 5) (j + 1) kind))) := ⟨_, rfl⟩
                          replace hM : zM A G M_49 H := by rw [eM_50]; exact hM
                          have hJ_51 : zJ G M_49 m0 ar 0 (nI co) (nI (ac + 1)) (if day ≤ gr then gr else day) (zuf (zuf (zEN F (zps (L 14) day ac) ac (nI (j + 1)) kind 0) 8 (upd (F 8) (j + 1) ((F 8 (j + 1)) + 0))) 5 (upd (F 5) (j + 1) kind)) (zuf L 14 (zpi (L 14) (zps (L 14) day ac) ac day)) := by rw [eM_50]; exact hJ_48.setI 5 (by decide) rfl _
                          refine lv_aload_n hx hb dX3_act_272 rfl (lv_at hl 3 rfl) ?_
                          refine z_get (v := .ref (ar 4)) S kX3 hK hM hJ_51.1 6 (by decide) kw_226 rfl dX3_act_273 ?_
                          refine lv_iload_n hx hb dX3_act_276 rfl (lv_at hl 4 rfl) ?_
                          refine lv_iload_n hx hb dX3_act_277 rfl (lv_at hl 5 rfl) ?_
                          refine lv_iconst (v := 2) hx hb dX3_act_278 (by decide) ?_
                          refine lv_icmp_ne (tgt := 286) hx hb dX3_act_279 (by decide) (fun c_52 => ?_) (fun c_52 => ?_)
                          · -- 279 jump
                            refine lv_aload_n hx hb dX3_act_286 rfl (lv_at hl 3 rfl) ?_
                            refine z_get (v := .ref (ar 4)) S kX3 hK hM hJ_51.1 6 (by decide) kw_226 rfl dX3_act_287 ?_
                            refine lv_iload_n hx hb dX3_act_290 rfl (lv_at hl 4 rfl) ?_
                            refine z_iald S hK hM 0 (show M_49 (ar 4) = some (.inl (G.2.2 0, 81, .inl (F 4))) from hJ_51.2.1 4 (by decide)) rfl (zvp81 hj hco) dX3_act_291 ?_
                            rw [hcl]
                            refine z_iast S hK hM hS 0 (show M_49 (ar 4) = some (.inl (G.2.2 0, 81, .inl (F 4))) from hJ_51.2.1 4 (by decide)) rfl (zvp81 hj hco) dX3_act_292 (fun H locs hM hS => ?_)
                            rw [hcl] at hM
                            obtain ⟨M_53, eM_54⟩ : ∃ z : zMap, z = zu M_49 (ar 4) (.inl ((G.2.2 0), 81, .inl (upd (F 4) (j + 1) (F 4 (j + 1))))) := ⟨_, rfl⟩
                            replace hM : zM A G M_53 H := by rw [eM_54]; exact hM
                            have hJ_55 : zJ G M_53 m0 ar 0 (nI co) (nI (ac + 1)) (if day ≤ gr then gr else day) (zuf (zuf (zuf (zEN F (zps (L 14) day ac) ac (nI (j + 1)) kind 0) 8 (upd (F 8) (j + 1) ((F 8 (j + 1)) + 0))) 5 (upd (F 5) (j + 1) kind)) 4 (upd (F 4) (j + 1) (F 4 (j + 1)))) (zuf L 14 (zpi (L 14) (zps (L 14) day ac) ac day)) := by rw [eM_54]; exact hJ_51.setI 4 (by decide) rfl _
                            refine lv_aload_n hx hb dX3_act_293 rfl (lv_at hl 3 rfl) ?_
                            refine z_get (v := .ref (ar 3)) S kX3 hK hM hJ_55.1 5 (by decide) kw_225 rfl dX3_act_294 ?_
                            refine lv_iload_n hx hb dX3_act_297 rfl (lv_at hl 4 rfl) ?_
                            refine lv_iload_n hx hb dX3_act_298 rfl (lv_at hl 5 rfl) ?_
                            refine lv_if_ne (tgt := 320) hx hb dX3_act_299 (by decide) (fun c_56 => ?_) (fun c_56 => ?_)
                            · -- 299 jump
                              refine lv_aload_n hx hb dX3_act_320 rfl (lv_at hl 3 rfl) ?_
                              refine z_get (v := .ref (ar 3)) S kX3 hK hM hJ_55.1 5 (by decide) kw_225 rfl dX3_act_321 ?_
                              refine lv_iload_n hx hb dX3_act_324 rfl (lv_at hl 4 rfl) ?_
                              refine z_iald S hK hM 0 (show M_53 (ar 3) = some (.inl (G.2.2 0, 81, .inl (F 3))) from hJ_55.2.1 3 (by decide)) rfl (zvp81 hj hco) dX3_act_325 ?_
                              rw [hcl]
                              refine z_iast S hK hM hS 0 (show M_53 (ar 3) = some (.inl (G.2.2 0, 81, .inl (F 3))) from hJ_55.2.1 3 (by decide)) rfl (zvp81 hj hco) dX3_act_326 (fun H locs hM hS => ?_)
                              rw [hcl] at hM
                              obtain ⟨M_57, eM_58⟩ : ∃ z : zMap, z = zu M_53 (ar 3) (.inl ((G.2.2 0), 81, .inl (upd (F 3) (j + 1) (F 3 (j + 1))))) := ⟨_, rfl⟩
                              replace hM : zM A G M_57 H := by rw [eM_58]; exact hM
                              have hJ_59 : zJ G M_57 m0 ar 0 (nI co) (nI (ac + 1)) (if day ≤ gr then gr else day) (zuf (zuf (zuf (zuf (zEN F (zps (L 14) day ac) ac (nI (j + 1)) kind 0) 8 (upd (F 8) (j + 1) ((F 8 (j + 1)) + 0))) 5 (upd (F 5) (j + 1) kind)) 4 (upd (F 4) (j + 1) (F 4 (j + 1)))) 3 (upd (F 3) (j + 1) (F 3 (j + 1)))) (zuf L 14 (zpi (L 14) (zps (L 14) day ac) ac day)) := by rw [eM_58]; exact hJ_55.setI 3 (by decide) rfl _
                              refine lv_aload_n hx hb dX3_act_327 rfl (lv_at hl 3 rfl) ?_
                              refine z_get (v := .ref (ar 7)) S kX3 hK hM hJ_59.1 9 (by decide) kw_229 rfl dX3_act_328 ?_
                              refine lv_iload_n hx hb dX3_act_331 rfl (lv_at hl 4 rfl) ?_
                              refine lv_iconst (v := -1) hx hb dX3_act_332 (by decide) ?_
                              refine z_iast S hK hM hS 0 (show M_57 (ar 7) = some (.inl (G.2.2 0, 81, .inl (F 7))) from hJ_59.2.1 7 (by decide)) rfl (zvp81 hj hco) dX3_act_333 (fun H locs hM hS => ?_)
                              rw [hcl] at hM
                              obtain ⟨M_60, eM_61⟩ : ∃ z : zMap, z = zu M_57 (ar 7) (.inl ((G.2.2 0), 81, .inl (upd (F 7) (j + 1) (-1)))) := ⟨_, rfl⟩
                              replace hM : zM A G M_60 H := by rw [eM_61]; exact hM
                              have hJ_62 : zJ G M_60 m0 ar 0 (nI co) (nI (ac + 1)) (if day ≤ gr then gr else day) (zuf (zuf (zuf (zuf (zuf (zEN F (zps (L 14) day ac) ac (nI (j + 1)) kind 0) 8 (upd (F 8) (j + 1) ((F 8 (j + 1)) + 0))) 5 (upd (F 5) (j + 1) kind)) 4 (upd (F 4) (j + 1) (F 4 (j + 1)))) 3 (upd (F 3) (j + 1) (F 3 (j + 1)))) 7 (upd (F 7) (j + 1) (-1))) (zuf L 14 (zpi (L 14) (zps (L 14) day ac) ac day)) := by rw [eM_61]; exact hJ_59.setI 7 (by decide) rfl _
                              refine lv_iload_n hx hb dX3_act_334 rfl (lv_at hl 5 rfl) ?_
                              exact z_iret S hr hlocks hM hS (by unfold zBQ; rw [hz]; dsimp only; rw [if_pos ⟨c_8, c_9, c_10, c_11, fun q => absurd q c_12⟩, zBe_n (Int64.not_lt.mpr c_13)]; rw [if_pos c_19]; rw [if_neg (fun q => q.elim (fun q => absurd q.1 c_20) (fun q => absurd q.1 c_21)), if_neg (Int64.not_lt.mpr c_13), zb_f (Int64.not_lt.mpr c_13)]; exact ⟨rfl, by rw [zCF_eq (F0 := zEN F (zps (L 14) day ac) ac (nI (j + 1)) kind 0) (j := j) (kind := kind) (place := place) (fro := F 5 (j + 1)) (if_neg (fun q => c_45 q.2)) (if_neg c_52) (if_neg (fun q => c_56 q.1))]; exact hJ_62⟩) (Nat.le_of_ble_eq_true rfl) (Nat.le_of_ble_eq_true rfl) dX3_act_335
                            · -- 299 on
                              exact absurd (c_27.symm.trans c_56) (by decide)
                          · -- 279 on
                            exact absurd (c_27.symm.trans c_52) (by decide)
                        · -- 245 on
                          refine lv_aload_n hx hb dX3_act_248 rfl (lv_at hl 3 rfl) ?_
                          refine z_get (v := .ref (ar 10)) S kX3 hK hM hJ_25.1 12 (by decide) kw_232 rfl dX3_act_249 ?_
                          refine lv_aload_n hx hb dX3_act_252 rfl (lv_at hl 3 rfl) ?_
                          refine z_get (v := .ref (ar 0)) S kX3 hK hM hJ_25.1 2 (by decide) kw_222 rfl dX3_act_253 ?_
                          refine lv_iload_n hx hb dX3_act_256 rfl (lv_at hl 4 rfl) ?_
                          refine z_iald S hK hM 0 (show M_22 (ar 0) = some (.inl (G.2.2 0, 81, .inl (F 0))) from hJ_25.2.1 0 (by decide)) rfl (zvp81 hj hco) dX3_act_257 ?_
                          rw [hcl]
                          refine z_iald S hK hM 0 (show M_22 (ar 10) = some (.inl (G.2.2 0, 6, .inl (F 10))) from hJ_25.2.1 10 (by decide)) rfl (zTy_vp (hty j hj).1) dX3_act_258 ?_
                          refine lv_goto (tgt := 263) hx hb dX3_act_259 (by decide) ?_
                          refine lv_iadd hx hb dX3_act_263 ?_
                          refine z_iast S hK hM hS 0 (show M_22 (ar 8) = some (.inl (G.2.2 0, 81, .inl (F 8))) from hJ_25.2.1 8 (by decide)) rfl (zvp81 hj hco) dX3_act_264 (fun H locs hM hS => ?_)
                          rw [hcl] at hM
                          obtain ⟨M_63, eM_64⟩ : ∃ z : zMap, z = zu M_22 (ar 8) (.inl ((G.2.2 0), 81, .inl (upd (F 8) (j + 1) ((F 8 (j + 1)) + (F 10 (F 0 (j + 1)).toNatClampNeg))))) := ⟨_, rfl⟩
                          replace hM : zM A G M_63 H := by rw [eM_64]; exact hM
                          have hJ_65 : zJ G M_63 m0 ar 0 (nI co) (nI (ac + 1)) (if day ≤ gr then gr else day) (zuf (zEN F (zps (L 14) day ac) ac (nI (j + 1)) kind 0) 8 (upd (F 8) (j + 1) ((F 8 (j + 1)) + (F 10 (F 0 (j + 1)).toNatClampNeg)))) (zuf L 14 (zpi (L 14) (zps (L 14) day ac) ac day)) := by rw [eM_64]; exact hJ_25.setI 8 (by decide) rfl _
                          refine lv_aload_n hx hb dX3_act_265 rfl (lv_at hl 3 rfl) ?_
                          refine z_get (v := .ref (ar 5)) S kX3 hK hM hJ_65.1 7 (by decide) kw_227 rfl dX3_act_266 ?_
                          refine lv_iload_n hx hb dX3_act_269 rfl (lv_at hl 4 rfl) ?_
                          refine lv_iload_n hx hb dX3_act_270 rfl (lv_at hl 5 rfl) ?_
                          refine z_iast S hK hM hS 0 (show M_63 (ar 5) = some (.inl (G.2.2 0, 81, .inl (F 5))) from hJ_65.2.1 5 (by decide)) rfl (zvp81 hj hco) dX3_act_271 (fun H locs hM hS => ?_)
                          rw [hcl] at hM
                          obtain ⟨M_66, eM_67⟩ : ∃ z : zMap, z = zu M_63 (ar 5) (.inl ((G.2.2 0), 81, .inl (upd (F 5) (j + 1) kind))) := ⟨_, rfl⟩
                          replace hM : zM A G M_66 H := by rw [eM_67]; exact hM
                          have hJ_68 : zJ G M_66 m0 ar 0 (nI co) (nI (ac + 1)) (if day ≤ gr then gr else day) (zuf (zuf (zEN F (zps (L 14) day ac) ac (nI (j + 1)) kind 0) 8 (upd (F 8) (j + 1) ((F 8 (j + 1)) + (F 10 (F 0 (j + 1)).toNatClampNeg)))) 5 (upd (F 5) (j + 1) kind)) (zuf L 14 (zpi (L 14) (zps (L 14) day ac) ac day)) := by rw [eM_67]; exact hJ_65.setI 5 (by decide) rfl _
                          refine lv_aload_n hx hb dX3_act_272 rfl (lv_at hl 3 rfl) ?_
                          refine z_get (v := .ref (ar 4)) S kX3 hK hM hJ_68.1 6 (by decide) kw_226 rfl dX3_act_273 ?_
                          refine lv_iload_n hx hb dX3_act_276 rfl (lv_at hl 4 rfl) ?_
                          refine lv_iload_n hx hb dX3_act_277 rfl (lv_at hl 5 rfl) ?_
                          refine lv_iconst (v := 2) hx hb dX3_act_278 (by decide) ?_
                          refine lv_icmp_ne (tgt := 286) hx hb dX3_act_279 (by decide) (fun c_69 => ?_) (fun c_69 => ?_)
                          · -- 279 jump
                            refine lv_aload_n hx hb dX3_act_286 rfl (lv_at hl 3 rfl) ?_
                            refine z_get (v := .ref (ar 4)) S kX3 hK hM hJ_68.1 6 (by decide) kw_226 rfl dX3_act_287 ?_
                            refine lv_iload_n hx hb dX3_act_290 rfl (lv_at hl 4 rfl) ?_
                            refine z_iald S hK hM 0 (show M_66 (ar 4) = some (.inl (G.2.2 0, 81, .inl (F 4))) from hJ_68.2.1 4 (by decide)) rfl (zvp81 hj hco) dX3_act_291 ?_
                            rw [hcl]
                            refine z_iast S hK hM hS 0 (show M_66 (ar 4) = some (.inl (G.2.2 0, 81, .inl (F 4))) from hJ_68.2.1 4 (by decide)) rfl (zvp81 hj hco) dX3_act_292 (fun H locs hM hS => ?_)
                            rw [hcl] at hM
                            obtain ⟨M_70, eM_71⟩ : ∃ z : zMap, z = zu M_66 (ar 4) (.inl ((G.2.2 0), 81, .inl (upd (F 4) (j + 1) (F 4 (j + 1))))) := ⟨_, rfl⟩
                            replace hM : zM A G M_70 H := by rw [eM_71]; exact hM
                            have hJ_72 : zJ G M_70 m0 ar 0 (nI co) (nI (ac + 1)) (if day ≤ gr then gr else day) (zuf (zuf (zuf (zEN F (zps (L 14) day ac) ac (nI (j + 1)) kind 0) 8 (upd (F 8) (j + 1) ((F 8 (j + 1)) + (F 10 (F 0 (j + 1)).toNatClampNeg)))) 5 (upd (F 5) (j + 1) kind)) 4 (upd (F 4) (j + 1) (F 4 (j + 1)))) (zuf L 14 (zpi (L 14) (zps (L 14) day ac) ac day)) := by rw [eM_71]; exact hJ_68.setI 4 (by decide) rfl _
                            refine lv_aload_n hx hb dX3_act_293 rfl (lv_at hl 3 rfl) ?_
                            refine z_get (v := .ref (ar 3)) S kX3 hK hM hJ_72.1 5 (by decide) kw_225 rfl dX3_act_294 ?_
                            refine lv_iload_n hx hb dX3_act_297 rfl (lv_at hl 4 rfl) ?_
                            refine lv_iload_n hx hb dX3_act_298 rfl (lv_at hl 5 rfl) ?_
                            refine lv_if_ne (tgt := 320) hx hb dX3_act_299 (by decide) (fun c_73 => ?_) (fun c_73 => ?_)
                            · -- 299 jump
                              refine lv_aload_n hx hb dX3_act_320 rfl (lv_at hl 3 rfl) ?_
                              refine z_get (v := .ref (ar 3)) S kX3 hK hM hJ_72.1 5 (by decide) kw_225 rfl dX3_act_321 ?_
                              refine lv_iload_n hx hb dX3_act_324 rfl (lv_at hl 4 rfl) ?_
                              refine z_iald S hK hM 0 (show M_70 (ar 3) = some (.inl (G.2.2 0, 81, .inl (F 3))) from hJ_72.2.1 3 (by decide)) rfl (zvp81 hj hco) dX3_act_325 ?_
                              rw [hcl]
                              refine z_iast S hK hM hS 0 (show M_70 (ar 3) = some (.inl (G.2.2 0, 81, .inl (F 3))) from hJ_72.2.1 3 (by decide)) rfl (zvp81 hj hco) dX3_act_326 (fun H locs hM hS => ?_)
                              rw [hcl] at hM
                              obtain ⟨M_74, eM_75⟩ : ∃ z : zMap, z = zu M_70 (ar 3) (.inl ((G.2.2 0), 81, .inl (upd (F 3) (j + 1) (F 3 (j + 1))))) := ⟨_, rfl⟩
                              replace hM : zM A G M_74 H := by rw [eM_75]; exact hM
                              have hJ_76 : zJ G M_74 m0 ar 0 (nI co) (nI (ac + 1)) (if day ≤ gr then gr else day) (zuf (zuf (zuf (zuf (zEN F (zps (L 14) day ac) ac (nI (j + 1)) kind 0) 8 (upd (F 8) (j + 1) ((F 8 (j + 1)) + (F 10 (F 0 (j + 1)).toNatClampNeg)))) 5 (upd (F 5) (j + 1) kind)) 4 (upd (F 4) (j + 1) (F 4 (j + 1)))) 3 (upd (F 3) (j + 1) (F 3 (j + 1)))) (zuf L 14 (zpi (L 14) (zps (L 14) day ac) ac day)) := by rw [eM_75]; exact hJ_72.setI 3 (by decide) rfl _
                              refine lv_aload_n hx hb dX3_act_327 rfl (lv_at hl 3 rfl) ?_
                              refine z_get (v := .ref (ar 7)) S kX3 hK hM hJ_76.1 9 (by decide) kw_229 rfl dX3_act_328 ?_
                              refine lv_iload_n hx hb dX3_act_331 rfl (lv_at hl 4 rfl) ?_
                              refine lv_iconst (v := -1) hx hb dX3_act_332 (by decide) ?_
                              refine z_iast S hK hM hS 0 (show M_74 (ar 7) = some (.inl (G.2.2 0, 81, .inl (F 7))) from hJ_76.2.1 7 (by decide)) rfl (zvp81 hj hco) dX3_act_333 (fun H locs hM hS => ?_)
                              rw [hcl] at hM
                              obtain ⟨M_77, eM_78⟩ : ∃ z : zMap, z = zu M_74 (ar 7) (.inl ((G.2.2 0), 81, .inl (upd (F 7) (j + 1) (-1)))) := ⟨_, rfl⟩
                              replace hM : zM A G M_77 H := by rw [eM_78]; exact hM
                              have hJ_79 : zJ G M_77 m0 ar 0 (nI co) (nI (ac + 1)) (if day ≤ gr then gr else day) (zuf (zuf (zuf (zuf (zuf (zEN F (zps (L 14) day ac) ac (nI (j + 1)) kind 0) 8 (upd (F 8) (j + 1) ((F 8 (j + 1)) + (F 10 (F 0 (j + 1)).toNatClampNeg)))) 5 (upd (F 5) (j + 1) kind)) 4 (upd (F 4) (j + 1) (F 4 (j + 1)))) 3 (upd (F 3) (j + 1) (F 3 (j + 1)))) 7 (upd (F 7) (j + 1) (-1))) (zuf L 14 (zpi (L 14) (zps (L 14) day ac) ac day)) := by rw [eM_78]; exact hJ_76.setI 7 (by decide) rfl _
                              refine lv_iload_n hx hb dX3_act_334 rfl (lv_at hl 5 rfl) ?_
                              exact z_iret S hr hlocks hM hS (by unfold zBQ; rw [hz]; dsimp only; rw [if_pos ⟨c_8, c_9, c_10, c_11, fun q => absurd q c_12⟩, zBe_n (Int64.not_lt.mpr c_13)]; rw [if_pos c_19]; rw [if_neg (fun q => q.elim (fun q => absurd q.1 c_20) (fun q => absurd q.1 c_21)), if_neg (Int64.not_lt.mpr c_13), zb_f (Int64.not_lt.mpr c_13)]; exact ⟨rfl, by rw [zCF_eq (F0 := zEN F (zps (L 14) day ac) ac (nI (j + 1)) kind 0) (j := j) (kind := kind) (place := place) (fro := F 5 (j + 1)) (if_pos (⟨c_27, c_45⟩)) (if_neg c_69) (if_neg (fun q => c_73 q.1))]; exact hJ_79⟩) (Nat.le_of_ble_eq_true rfl) (Nat.le_of_ble_eq_true rfl) dX3_act_335
                            · -- 299 on
                              exact absurd (c_27.symm.trans c_73) (by decide)
                          · -- 279 on
                            exact absurd (c_27.symm.trans c_69) (by decide)
                    · -- 171 on
                      refine lv_iload hx hb dX3_act_174 (lv_at hl 2 rfl) ?_
                      refine lv_if_ne (tgt := 212) hx hb dX3_act_176 (by decide) (fun c_80 => absurd c_80 (by decide)) (fun c_80 => ?_)
                      refine lv_iload hx hb dX3_act_179 (lv_at hl 0 rfl) ?_
                      refine lv_iconst (v := 2) hx hb dX3_act_181 (by decide) ?_
                      refine lv_icmp_ne (tgt := 212) hx hb dX3_act_182 (by decide) (fun c_81 => ?_) (fun c_81 => ?_)
                      · -- 182 jump
                        refine lv_aload_n hx hb dX3_act_212 rfl (lv_at hl 3 rfl) ?_
                        refine lv_iload_n hx hb dX3_act_213 rfl (lv_at hl 4 rfl) ?_
                        refine lv_iload_n hx hb dX3_act_214 rfl (lv_at hl 5 rfl) ?_
                        refine lv_iload hx hb dX3_act_215 (lv_at hl 2 rfl) ?_
                        refine lv_lload hx hb dX3_act_217 (lv_at hl 7 rfl) ?_
                        refine z_callV (As := [.int (nI (j + 1)), .int kind, .int 0, .long day]) (rest := []) S (c_X3_enter l A G M_1 m0 ar 0 co ac gr F L (nI (j + 1)) kind 0 day hJ_3 hco (by omega) (Or.inl rfl) hbl) ok_X3_enter kw_323 kw_325 ks_9 ⟨Nat.le_of_ble_eq_true rfl, Nat.le_of_ble_eq_true rfl⟩ hK hM hS hA hJ_3.1 rfl rfl hl.1 rfl (Nat.le_of_ble_eq_true rfl) dX3_act_219 ⟨Nat.le_of_ble_eq_true rfl, Nat.le_of_ble_eq_true rfl⟩ (fun r_84 M_82 H locs hp_83 hM hS => ?_)
                        obtain ⟨rfl, hJ_85⟩ := hp_83
                        refine W.eq (g2 := F0 m 222 ls []) rfl ?_
                        refine lv_iload hx hb dX3_act_222 (lv_at hl 2 rfl) ?_
                        refine lv_if_eq (tgt := 229) hx hb dX3_act_224 (by decide) (fun c_86 => ?_) (fun c_86 => absurd c_86 (by decide))
                        refine lv_aload_n hx hb dX3_act_229 rfl (lv_at hl 3 rfl) ?_
                        refine z_get (v := .ref (ar 8)) S kX3 hK hM hJ_85.1 10 (by decide) kw_230 rfl dX3_act_230 ?_
                        refine lv_iload_n hx hb dX3_act_233 rfl (lv_at hl 4 rfl) ?_
                        refine lv_dup2_11 hx hb dX3_act_234 rfl rfl ?_
                        refine z_iald S hK hM 0 (show M_82 (ar 8) = some (.inl (G.2.2 0, 81, .inl (F 8))) from hJ_85.2.1 8 (by decide)) rfl (zvp81 hj hco) dX3_act_235 ?_
                        rw [hcl]
                        refine lv_iload_n hx hb dX3_act_236 rfl (lv_at hl 5 rfl) ?_
                        refine lv_bipush (v := 6) hx hb dX3_act_237 (by decide) ?_
                        refine lv_icmp_ne (tgt := 262) hx hb dX3_act_239 (by decide) (fun c_87 => ?_) (fun c_87 => ?_)
                        · -- 239 jump
                          refine lv_iconst (v := 0) hx hb dX3_act_262 (by decide) ?_
                          refine lv_iadd hx hb dX3_act_263 ?_
                          refine z_iast S hK hM hS 0 (show M_82 (ar 8) = some (.inl (G.2.2 0, 81, .inl (F 8))) from hJ_85.2.1 8 (by decide)) rfl (zvp81 hj hco) dX3_act_264 (fun H locs hM hS => ?_)
                          rw [hcl] at hM
                          obtain ⟨M_88, eM_89⟩ : ∃ z : zMap, z = zu M_82 (ar 8) (.inl ((G.2.2 0), 81, .inl (upd (F 8) (j + 1) ((F 8 (j + 1)) + 0)))) := ⟨_, rfl⟩
                          replace hM : zM A G M_88 H := by rw [eM_89]; exact hM
                          have hJ_90 : zJ G M_88 m0 ar 0 (nI co) (nI (ac + 1)) (if day ≤ gr then gr else day) (zuf (zEN F (zps (L 14) day ac) ac (nI (j + 1)) kind 0) 8 (upd (F 8) (j + 1) ((F 8 (j + 1)) + 0))) (zuf L 14 (zpi (L 14) (zps (L 14) day ac) ac day)) := by rw [eM_89]; exact hJ_85.setI 8 (by decide) rfl _
                          refine lv_aload_n hx hb dX3_act_265 rfl (lv_at hl 3 rfl) ?_
                          refine z_get (v := .ref (ar 5)) S kX3 hK hM hJ_90.1 7 (by decide) kw_227 rfl dX3_act_266 ?_
                          refine lv_iload_n hx hb dX3_act_269 rfl (lv_at hl 4 rfl) ?_
                          refine lv_iload_n hx hb dX3_act_270 rfl (lv_at hl 5 rfl) ?_
                          refine z_iast S hK hM hS 0 (show M_88 (ar 5) = some (.inl (G.2.2 0, 81, .inl (F 5))) from hJ_90.2.1 5 (by decide)) rfl (zvp81 hj hco) dX3_act_271 (fun H locs hM hS => ?_)
                          rw [hcl] at hM
                          obtain ⟨M_91, eM_92⟩ : ∃ z : zMap, z = zu M_88 (ar 5) (.inl ((G.2.2 0), 81, .inl (upd (F 5) (j + 1) kind))) := ⟨_, rfl⟩
                          replace hM : zM A G M_91 H := by rw [eM_92]; exact hM
                          have hJ_93 : zJ G M_91 m0 ar 0 (nI co) (nI (ac + 1)) (if day ≤ gr then gr else day) (zuf (zuf (zEN F (zps (L 14) day ac) ac (nI (j + 1)) kind 0) 8 (upd (F 8) (j + 1) ((F 8 (j + 1)) + 0))) 5 (upd (F 5) (j + 1) kind)) (zuf L 14 (zpi (L 14) (zps (L 14) day ac) ac day)) := by rw [eM_92]; exact hJ_90.setI 5 (by decide) rfl _
                          refine lv_aload_n hx hb dX3_act_272 rfl (lv_at hl 3 rfl) ?_
                          refine z_get (v := .ref (ar 4)) S kX3 hK hM hJ_93.1 6 (by decide) kw_226 rfl dX3_act_273 ?_
                          refine lv_iload_n hx hb dX3_act_276 rfl (lv_at hl 4 rfl) ?_
                          refine lv_iload_n hx hb dX3_act_277 rfl (lv_at hl 5 rfl) ?_
                          refine lv_iconst (v := 2) hx hb dX3_act_278 (by decide) ?_
                          refine lv_icmp_ne (tgt := 286) hx hb dX3_act_279 (by decide) (fun c_94 => ?_) (fun c_94 => ?_)
                          · -- 279 jump
                            refine lv_aload_n hx hb dX3_act_286 rfl (lv_at hl 3 rfl) ?_
                            refine z_get (v := .ref (ar 4)) S kX3 hK hM hJ_93.1 6 (by decide) kw_226 rfl dX3_act_287 ?_
                            refine lv_iload_n hx hb dX3_act_290 rfl (lv_at hl 4 rfl) ?_
                            refine z_iald S hK hM 0 (show M_91 (ar 4) = some (.inl (G.2.2 0, 81, .inl (F 4))) from hJ_93.2.1 4 (by decide)) rfl (zvp81 hj hco) dX3_act_291 ?_
                            rw [hcl]
                            refine z_iast S hK hM hS 0 (show M_91 (ar 4) = some (.inl (G.2.2 0, 81, .inl (F 4))) from hJ_93.2.1 4 (by decide)) rfl (zvp81 hj hco) dX3_act_292 (fun H locs hM hS => ?_)
                            rw [hcl] at hM
                            obtain ⟨M_95, eM_96⟩ : ∃ z : zMap, z = zu M_91 (ar 4) (.inl ((G.2.2 0), 81, .inl (upd (F 4) (j + 1) (F 4 (j + 1))))) := ⟨_, rfl⟩
                            replace hM : zM A G M_95 H := by rw [eM_96]; exact hM
                            have hJ_97 : zJ G M_95 m0 ar 0 (nI co) (nI (ac + 1)) (if day ≤ gr then gr else day) (zuf (zuf (zuf (zEN F (zps (L 14) day ac) ac (nI (j + 1)) kind 0) 8 (upd (F 8) (j + 1) ((F 8 (j + 1)) + 0))) 5 (upd (F 5) (j + 1) kind)) 4 (upd (F 4) (j + 1) (F 4 (j + 1)))) (zuf L 14 (zpi (L 14) (zps (L 14) day ac) ac day)) := by rw [eM_96]; exact hJ_93.setI 4 (by decide) rfl _
                            refine lv_aload_n hx hb dX3_act_293 rfl (lv_at hl 3 rfl) ?_
                            refine z_get (v := .ref (ar 3)) S kX3 hK hM hJ_97.1 5 (by decide) kw_225 rfl dX3_act_294 ?_
                            refine lv_iload_n hx hb dX3_act_297 rfl (lv_at hl 4 rfl) ?_
                            refine lv_iload_n hx hb dX3_act_298 rfl (lv_at hl 5 rfl) ?_
                            refine lv_if_ne (tgt := 320) hx hb dX3_act_299 (by decide) (fun c_98 => ?_) (fun c_98 => ?_)
                            · -- 299 jump
                              exact absurd c_21 c_98
                            · -- 299 on
                              refine lv_aload_n hx hb dX3_act_302 rfl (lv_at hl 3 rfl) ?_
                              refine z_get (v := .ref (ar 6)) S kX3 hK hM hJ_97.1 8 (by decide) kw_228 rfl dX3_act_303 ?_
                              refine lv_iload_n hx hb dX3_act_306 rfl (lv_at hl 4 rfl) ?_
                              refine z_zald S hK hM 1 (show M_95 (ar 6) = some (.inl (G.2.2 1, 81, .inl (F 6))) from hJ_97.2.1 6 (by decide)) rfl (zvp81 hj hco) dX3_act_307 ?_
                              rw [hcl]
                              refine lv_if_eq (tgt := 320) hx hb dX3_act_308 (by decide) (fun c_99 => ?_) (fun c_99 => ?_)
                              · -- 308 jump
                                refine lv_aload_n hx hb dX3_act_320 rfl (lv_at hl 3 rfl) ?_
                                refine z_get (v := .ref (ar 3)) S kX3 hK hM hJ_97.1 5 (by decide) kw_225 rfl dX3_act_321 ?_
                                refine lv_iload_n hx hb dX3_act_324 rfl (lv_at hl 4 rfl) ?_
                                refine z_iald S hK hM 0 (show M_95 (ar 3) = some (.inl (G.2.2 0, 81, .inl (F 3))) from hJ_97.2.1 3 (by decide)) rfl (zvp81 hj hco) dX3_act_325 ?_
                                rw [hcl]
                                refine z_iast S hK hM hS 0 (show M_95 (ar 3) = some (.inl (G.2.2 0, 81, .inl (F 3))) from hJ_97.2.1 3 (by decide)) rfl (zvp81 hj hco) dX3_act_326 (fun H locs hM hS => ?_)
                                rw [hcl] at hM
                                obtain ⟨M_100, eM_101⟩ : ∃ z : zMap, z = zu M_95 (ar 3) (.inl ((G.2.2 0), 81, .inl (upd (F 3) (j + 1) (F 3 (j + 1))))) := ⟨_, rfl⟩
                                replace hM : zM A G M_100 H := by rw [eM_101]; exact hM
                                have hJ_102 : zJ G M_100 m0 ar 0 (nI co) (nI (ac + 1)) (if day ≤ gr then gr else day) (zuf (zuf (zuf (zuf (zEN F (zps (L 14) day ac) ac (nI (j + 1)) kind 0) 8 (upd (F 8) (j + 1) ((F 8 (j + 1)) + 0))) 5 (upd (F 5) (j + 1) kind)) 4 (upd (F 4) (j + 1) (F 4 (j + 1)))) 3 (upd (F 3) (j + 1) (F 3 (j + 1)))) (zuf L 14 (zpi (L 14) (zps (L 14) day ac) ac day)) := by rw [eM_101]; exact hJ_97.setI 3 (by decide) rfl _
                                refine lv_aload_n hx hb dX3_act_327 rfl (lv_at hl 3 rfl) ?_
                                refine z_get (v := .ref (ar 7)) S kX3 hK hM hJ_102.1 9 (by decide) kw_229 rfl dX3_act_328 ?_
                                refine lv_iload_n hx hb dX3_act_331 rfl (lv_at hl 4 rfl) ?_
                                refine lv_iconst (v := -1) hx hb dX3_act_332 (by decide) ?_
                                refine z_iast S hK hM hS 0 (show M_100 (ar 7) = some (.inl (G.2.2 0, 81, .inl (F 7))) from hJ_102.2.1 7 (by decide)) rfl (zvp81 hj hco) dX3_act_333 (fun H locs hM hS => ?_)
                                rw [hcl] at hM
                                obtain ⟨M_103, eM_104⟩ : ∃ z : zMap, z = zu M_100 (ar 7) (.inl ((G.2.2 0), 81, .inl (upd (F 7) (j + 1) (-1)))) := ⟨_, rfl⟩
                                replace hM : zM A G M_103 H := by rw [eM_104]; exact hM
                                have hJ_105 : zJ G M_103 m0 ar 0 (nI co) (nI (ac + 1)) (if day ≤ gr then gr else day) (zuf (zuf (zuf (zuf (zuf (zEN F (zps (L 14) day ac) ac (nI (j + 1)) kind 0) 8 (upd (F 8) (j + 1) ((F 8 (j + 1)) + 0))) 5 (upd (F 5) (j + 1) kind)) 4 (upd (F 4) (j + 1) (F 4 (j + 1)))) 3 (upd (F 3) (j + 1) (F 3 (j + 1)))) 7 (upd (F 7) (j + 1) (-1))) (zuf L 14 (zpi (L 14) (zps (L 14) day ac) ac day)) := by rw [eM_104]; exact hJ_102.setI 7 (by decide) rfl _
                                refine lv_iload_n hx hb dX3_act_334 rfl (lv_at hl 5 rfl) ?_
                                exact z_iret S hr hlocks hM hS (by unfold zBQ; rw [hz]; dsimp only; rw [if_pos ⟨c_8, c_9, c_10, c_11, fun q => absurd q c_12⟩, zBe_n (Int64.not_lt.mpr c_13)]; rw [if_pos c_19]; rw [if_neg (fun q => q.elim (fun q => absurd q.1 c_20) (fun q => c_81 q.2.2.1)), if_neg (Int64.not_lt.mpr c_13), zb_f (Int64.not_lt.mpr c_13)]; exact ⟨rfl, by rw [zCF_eq (F0 := zEN F (zps (L 14) day ac) ac (nI (j + 1)) kind 0) (j := j) (kind := kind) (place := place) (fro := F 5 (j + 1)) (if_neg (fun q => c_87 q.1)) (if_neg c_94) (if_neg (fun q => q.2 c_99))]; exact hJ_105⟩) (Nat.le_of_ble_eq_true rfl) (Nat.le_of_ble_eq_true rfl) dX3_act_335
                              · -- 308 on
                                refine lv_aload_n hx hb dX3_act_311 rfl (lv_at hl 3 rfl) ?_
                                refine z_get (v := .ref (ar 4)) S kX3 hK hM hJ_97.1 6 (by decide) kw_226 rfl dX3_act_312 ?_
                                refine lv_iload_n hx hb dX3_act_315 rfl (lv_at hl 4 rfl) ?_
                                refine z_iald S hK hM 0 (show M_95 (ar 4) = some (.inl (G.2.2 0, 81, .inl (upd (F 4) (j + 1) (F 4 (j + 1))))) from hJ_97.2.1 4 (by decide)) rfl (zvp81 hj hco) dX3_act_316 ?_
                                rw [hcl]
                                rw [pk_us]
                                refine lv_goto (tgt := 326) hx hb dX3_act_317 (by decide) ?_
                                refine z_iast S hK hM hS 0 (show M_95 (ar 3) = some (.inl (G.2.2 0, 81, .inl (F 3))) from hJ_97.2.1 3 (by decide)) rfl (zvp81 hj hco) dX3_act_326 (fun H locs hM hS => ?_)
                                rw [hcl] at hM
                                obtain ⟨M_106, eM_107⟩ : ∃ z : zMap, z = zu M_95 (ar 3) (.inl ((G.2.2 0), 81, .inl (upd (F 3) (j + 1) (F 4 (j + 1))))) := ⟨_, rfl⟩
                                replace hM : zM A G M_106 H := by rw [eM_107]; exact hM
                                have hJ_108 : zJ G M_106 m0 ar 0 (nI co) (nI (ac + 1)) (if day ≤ gr then gr else day) (zuf (zuf (zuf (zuf (zEN F (zps (L 14) day ac) ac (nI (j + 1)) kind 0) 8 (upd (F 8) (j + 1) ((F 8 (j + 1)) + 0))) 5 (upd (F 5) (j + 1) kind)) 4 (upd (F 4) (j + 1) (F 4 (j + 1)))) 3 (upd (F 3) (j + 1) (F 4 (j + 1)))) (zuf L 14 (zpi (L 14) (zps (L 14) day ac) ac day)) := by rw [eM_107]; exact hJ_97.setI 3 (by decide) rfl _
                                refine lv_aload_n hx hb dX3_act_327 rfl (lv_at hl 3 rfl) ?_
                                refine z_get (v := .ref (ar 7)) S kX3 hK hM hJ_108.1 9 (by decide) kw_229 rfl dX3_act_328 ?_
                                refine lv_iload_n hx hb dX3_act_331 rfl (lv_at hl 4 rfl) ?_
                                refine lv_iconst (v := -1) hx hb dX3_act_332 (by decide) ?_
                                refine z_iast S hK hM hS 0 (show M_106 (ar 7) = some (.inl (G.2.2 0, 81, .inl (F 7))) from hJ_108.2.1 7 (by decide)) rfl (zvp81 hj hco) dX3_act_333 (fun H locs hM hS => ?_)
                                rw [hcl] at hM
                                obtain ⟨M_109, eM_110⟩ : ∃ z : zMap, z = zu M_106 (ar 7) (.inl ((G.2.2 0), 81, .inl (upd (F 7) (j + 1) (-1)))) := ⟨_, rfl⟩
                                replace hM : zM A G M_109 H := by rw [eM_110]; exact hM
                                have hJ_111 : zJ G M_109 m0 ar 0 (nI co) (nI (ac + 1)) (if day ≤ gr then gr else day) (zuf (zuf (zuf (zuf (zuf (zEN F (zps (L 14) day ac) ac (nI (j + 1)) kind 0) 8 (upd (F 8) (j + 1) ((F 8 (j + 1)) + 0))) 5 (upd (F 5) (j + 1) kind)) 4 (upd (F 4) (j + 1) (F 4 (j + 1)))) 3 (upd (F 3) (j + 1) (F 4 (j + 1)))) 7 (upd (F 7) (j + 1) (-1))) (zuf L 14 (zpi (L 14) (zps (L 14) day ac) ac day)) := by rw [eM_110]; exact hJ_108.setI 7 (by decide) rfl _
                                refine lv_iload_n hx hb dX3_act_334 rfl (lv_at hl 5 rfl) ?_
                                exact z_iret S hr hlocks hM hS (by unfold zBQ; rw [hz]; dsimp only; rw [if_pos ⟨c_8, c_9, c_10, c_11, fun q => absurd q c_12⟩, zBe_n (Int64.not_lt.mpr c_13)]; rw [if_pos c_19]; rw [if_neg (fun q => q.elim (fun q => absurd q.1 c_20) (fun q => c_81 q.2.2.1)), if_neg (Int64.not_lt.mpr c_13), zb_f (Int64.not_lt.mpr c_13)]; exact ⟨rfl, by rw [zCF_eq (F0 := zEN F (zps (L 14) day ac) ac (nI (j + 1)) kind 0) (j := j) (kind := kind) (place := place) (fro := F 5 (j + 1)) (if_neg (fun q => c_87 q.1)) (if_neg c_94) (if_pos ⟨c_98, c_99⟩)]; exact hJ_111⟩) (Nat.le_of_ble_eq_true rfl) (Nat.le_of_ble_eq_true rfl) dX3_act_335
                          · -- 279 on
                            exact absurd (c_21.symm.trans c_94) (by decide)
                        · -- 239 on
                          exact absurd (c_21.symm.trans c_87) (by decide)
                      · -- 182 on
                        refine lv_aload_n hx hb dX3_act_185 rfl (lv_at hl 3 rfl) ?_
                        refine z_get (v := .ref (ar 9)) S kX3 hK hM hJ_3.1 11 (by decide) kw_231 rfl dX3_act_186 ?_
                        refine lv_bipush (v := 6) hx hb dX3_act_189 (by decide) ?_
                        refine lv_aload_n hx hb dX3_act_191 rfl (lv_at hl 3 rfl) ?_
                        refine z_get (v := .ref (ar 4)) S kX3 hK hM hJ_3.1 6 (by decide) kw_226 rfl dX3_act_192 ?_
                        refine lv_iload_n hx hb dX3_act_195 rfl (lv_at hl 4 rfl) ?_
                        refine z_iald S hK hM 0 (show M_1 (ar 4) = some (.inl (G.2.2 0, 81, .inl (F 4))) from hJ_3.2.1 4 (by decide)) rfl (zvp81 hj hco) dX3_act_196 ?_
                        rw [hcl]
                        refine lv_imul hx hb dX3_act_197 ?_
                        refine lv_aload_n hx hb dX3_act_198 rfl (lv_at hl 3 rfl) ?_
                        refine z_get (v := .ref (ar 0)) S kX3 hK hM hJ_3.1 2 (by decide) kw_222 rfl dX3_act_199 ?_
                        refine lv_iload_n hx hb dX3_act_202 rfl (lv_at hl 4 rfl) ?_
                        refine z_iald S hK hM 0 (show M_1 (ar 0) = some (.inl (G.2.2 0, 81, .inl (F 0))) from hJ_3.2.1 0 (by decide)) rfl (zvp81 hj hco) dX3_act_203 ?_
                        rw [hcl]
                        refine lv_iadd hx hb dX3_act_204 ?_
                        refine z_zald S hK hM 1 (show M_1 (ar 9) = some (.inl (G.2.2 1, 60, .inl (F 9))) from hJ_3.2.1 9 (by decide)) rfl (zRi_in6 (hty j hj).2 (hty j hj).1) dX3_act_205 ?_
                        refine lv_if_eq (tgt := 212) hx hb dX3_act_206 (by decide) (fun c_112 => ?_) (fun c_112 => ?_)
                        · -- 206 jump
                          refine lv_aload_n hx hb dX3_act_212 rfl (lv_at hl 3 rfl) ?_
                          refine lv_iload_n hx hb dX3_act_213 rfl (lv_at hl 4 rfl) ?_
                          refine lv_iload_n hx hb dX3_act_214 rfl (lv_at hl 5 rfl) ?_
                          refine lv_iload hx hb dX3_act_215 (lv_at hl 2 rfl) ?_
                          refine lv_lload hx hb dX3_act_217 (lv_at hl 7 rfl) ?_
                          refine z_callV (As := [.int (nI (j + 1)), .int kind, .int 0, .long day]) (rest := []) S (c_X3_enter l A G M_1 m0 ar 0 co ac gr F L (nI (j + 1)) kind 0 day hJ_3 hco (by omega) (Or.inl rfl) hbl) ok_X3_enter kw_323 kw_325 ks_9 ⟨Nat.le_of_ble_eq_true rfl, Nat.le_of_ble_eq_true rfl⟩ hK hM hS hA hJ_3.1 rfl rfl hl.1 rfl (Nat.le_of_ble_eq_true rfl) dX3_act_219 ⟨Nat.le_of_ble_eq_true rfl, Nat.le_of_ble_eq_true rfl⟩ (fun r_115 M_113 H locs hp_114 hM hS => ?_)
                          obtain ⟨rfl, hJ_116⟩ := hp_114
                          refine W.eq (g2 := F0 m 222 ls []) rfl ?_
                          refine lv_iload hx hb dX3_act_222 (lv_at hl 2 rfl) ?_
                          refine lv_if_eq (tgt := 229) hx hb dX3_act_224 (by decide) (fun c_117 => ?_) (fun c_117 => absurd c_117 (by decide))
                          refine lv_aload_n hx hb dX3_act_229 rfl (lv_at hl 3 rfl) ?_
                          refine z_get (v := .ref (ar 8)) S kX3 hK hM hJ_116.1 10 (by decide) kw_230 rfl dX3_act_230 ?_
                          refine lv_iload_n hx hb dX3_act_233 rfl (lv_at hl 4 rfl) ?_
                          refine lv_dup2_11 hx hb dX3_act_234 rfl rfl ?_
                          refine z_iald S hK hM 0 (show M_113 (ar 8) = some (.inl (G.2.2 0, 81, .inl (F 8))) from hJ_116.2.1 8 (by decide)) rfl (zvp81 hj hco) dX3_act_235 ?_
                          rw [hcl]
                          refine lv_iload_n hx hb dX3_act_236 rfl (lv_at hl 5 rfl) ?_
                          refine lv_bipush (v := 6) hx hb dX3_act_237 (by decide) ?_
                          refine lv_icmp_ne (tgt := 262) hx hb dX3_act_239 (by decide) (fun c_118 => ?_) (fun c_118 => ?_)
                          · -- 239 jump
                            refine lv_iconst (v := 0) hx hb dX3_act_262 (by decide) ?_
                            refine lv_iadd hx hb dX3_act_263 ?_
                            refine z_iast S hK hM hS 0 (show M_113 (ar 8) = some (.inl (G.2.2 0, 81, .inl (F 8))) from hJ_116.2.1 8 (by decide)) rfl (zvp81 hj hco) dX3_act_264 (fun H locs hM hS => ?_)
                            rw [hcl] at hM
                            obtain ⟨M_119, eM_120⟩ : ∃ z : zMap, z = zu M_113 (ar 8) (.inl ((G.2.2 0), 81, .inl (upd (F 8) (j + 1) ((F 8 (j + 1)) + 0)))) := ⟨_, rfl⟩
                            replace hM : zM A G M_119 H := by rw [eM_120]; exact hM
                            have hJ_121 : zJ G M_119 m0 ar 0 (nI co) (nI (ac + 1)) (if day ≤ gr then gr else day) (zuf (zEN F (zps (L 14) day ac) ac (nI (j + 1)) kind 0) 8 (upd (F 8) (j + 1) ((F 8 (j + 1)) + 0))) (zuf L 14 (zpi (L 14) (zps (L 14) day ac) ac day)) := by rw [eM_120]; exact hJ_116.setI 8 (by decide) rfl _
                            refine lv_aload_n hx hb dX3_act_265 rfl (lv_at hl 3 rfl) ?_
                            refine z_get (v := .ref (ar 5)) S kX3 hK hM hJ_121.1 7 (by decide) kw_227 rfl dX3_act_266 ?_
                            refine lv_iload_n hx hb dX3_act_269 rfl (lv_at hl 4 rfl) ?_
                            refine lv_iload_n hx hb dX3_act_270 rfl (lv_at hl 5 rfl) ?_
                            refine z_iast S hK hM hS 0 (show M_119 (ar 5) = some (.inl (G.2.2 0, 81, .inl (F 5))) from hJ_121.2.1 5 (by decide)) rfl (zvp81 hj hco) dX3_act_271 (fun H locs hM hS => ?_)
                            rw [hcl] at hM
                            obtain ⟨M_122, eM_123⟩ : ∃ z : zMap, z = zu M_119 (ar 5) (.inl ((G.2.2 0), 81, .inl (upd (F 5) (j + 1) kind))) := ⟨_, rfl⟩
                            replace hM : zM A G M_122 H := by rw [eM_123]; exact hM
                            have hJ_124 : zJ G M_122 m0 ar 0 (nI co) (nI (ac + 1)) (if day ≤ gr then gr else day) (zuf (zuf (zEN F (zps (L 14) day ac) ac (nI (j + 1)) kind 0) 8 (upd (F 8) (j + 1) ((F 8 (j + 1)) + 0))) 5 (upd (F 5) (j + 1) kind)) (zuf L 14 (zpi (L 14) (zps (L 14) day ac) ac day)) := by rw [eM_123]; exact hJ_121.setI 5 (by decide) rfl _
                            refine lv_aload_n hx hb dX3_act_272 rfl (lv_at hl 3 rfl) ?_
                            refine z_get (v := .ref (ar 4)) S kX3 hK hM hJ_124.1 6 (by decide) kw_226 rfl dX3_act_273 ?_
                            refine lv_iload_n hx hb dX3_act_276 rfl (lv_at hl 4 rfl) ?_
                            refine lv_iload_n hx hb dX3_act_277 rfl (lv_at hl 5 rfl) ?_
                            refine lv_iconst (v := 2) hx hb dX3_act_278 (by decide) ?_
                            refine lv_icmp_ne (tgt := 286) hx hb dX3_act_279 (by decide) (fun c_125 => ?_) (fun c_125 => ?_)
                            · -- 279 jump
                              refine lv_aload_n hx hb dX3_act_286 rfl (lv_at hl 3 rfl) ?_
                              refine z_get (v := .ref (ar 4)) S kX3 hK hM hJ_124.1 6 (by decide) kw_226 rfl dX3_act_287 ?_
                              refine lv_iload_n hx hb dX3_act_290 rfl (lv_at hl 4 rfl) ?_
                              refine z_iald S hK hM 0 (show M_122 (ar 4) = some (.inl (G.2.2 0, 81, .inl (F 4))) from hJ_124.2.1 4 (by decide)) rfl (zvp81 hj hco) dX3_act_291 ?_
                              rw [hcl]
                              refine z_iast S hK hM hS 0 (show M_122 (ar 4) = some (.inl (G.2.2 0, 81, .inl (F 4))) from hJ_124.2.1 4 (by decide)) rfl (zvp81 hj hco) dX3_act_292 (fun H locs hM hS => ?_)
                              rw [hcl] at hM
                              obtain ⟨M_126, eM_127⟩ : ∃ z : zMap, z = zu M_122 (ar 4) (.inl ((G.2.2 0), 81, .inl (upd (F 4) (j + 1) (F 4 (j + 1))))) := ⟨_, rfl⟩
                              replace hM : zM A G M_126 H := by rw [eM_127]; exact hM
                              have hJ_128 : zJ G M_126 m0 ar 0 (nI co) (nI (ac + 1)) (if day ≤ gr then gr else day) (zuf (zuf (zuf (zEN F (zps (L 14) day ac) ac (nI (j + 1)) kind 0) 8 (upd (F 8) (j + 1) ((F 8 (j + 1)) + 0))) 5 (upd (F 5) (j + 1) kind)) 4 (upd (F 4) (j + 1) (F 4 (j + 1)))) (zuf L 14 (zpi (L 14) (zps (L 14) day ac) ac day)) := by rw [eM_127]; exact hJ_124.setI 4 (by decide) rfl _
                              refine lv_aload_n hx hb dX3_act_293 rfl (lv_at hl 3 rfl) ?_
                              refine z_get (v := .ref (ar 3)) S kX3 hK hM hJ_128.1 5 (by decide) kw_225 rfl dX3_act_294 ?_
                              refine lv_iload_n hx hb dX3_act_297 rfl (lv_at hl 4 rfl) ?_
                              refine lv_iload_n hx hb dX3_act_298 rfl (lv_at hl 5 rfl) ?_
                              refine lv_if_ne (tgt := 320) hx hb dX3_act_299 (by decide) (fun c_129 => ?_) (fun c_129 => ?_)
                              · -- 299 jump
                                exact absurd c_21 c_129
                              · -- 299 on
                                refine lv_aload_n hx hb dX3_act_302 rfl (lv_at hl 3 rfl) ?_
                                refine z_get (v := .ref (ar 6)) S kX3 hK hM hJ_128.1 8 (by decide) kw_228 rfl dX3_act_303 ?_
                                refine lv_iload_n hx hb dX3_act_306 rfl (lv_at hl 4 rfl) ?_
                                refine z_zald S hK hM 1 (show M_126 (ar 6) = some (.inl (G.2.2 1, 81, .inl (F 6))) from hJ_128.2.1 6 (by decide)) rfl (zvp81 hj hco) dX3_act_307 ?_
                                rw [hcl]
                                refine lv_if_eq (tgt := 320) hx hb dX3_act_308 (by decide) (fun c_130 => ?_) (fun c_130 => ?_)
                                · -- 308 jump
                                  refine lv_aload_n hx hb dX3_act_320 rfl (lv_at hl 3 rfl) ?_
                                  refine z_get (v := .ref (ar 3)) S kX3 hK hM hJ_128.1 5 (by decide) kw_225 rfl dX3_act_321 ?_
                                  refine lv_iload_n hx hb dX3_act_324 rfl (lv_at hl 4 rfl) ?_
                                  refine z_iald S hK hM 0 (show M_126 (ar 3) = some (.inl (G.2.2 0, 81, .inl (F 3))) from hJ_128.2.1 3 (by decide)) rfl (zvp81 hj hco) dX3_act_325 ?_
                                  rw [hcl]
                                  refine z_iast S hK hM hS 0 (show M_126 (ar 3) = some (.inl (G.2.2 0, 81, .inl (F 3))) from hJ_128.2.1 3 (by decide)) rfl (zvp81 hj hco) dX3_act_326 (fun H locs hM hS => ?_)
                                  rw [hcl] at hM
                                  obtain ⟨M_131, eM_132⟩ : ∃ z : zMap, z = zu M_126 (ar 3) (.inl ((G.2.2 0), 81, .inl (upd (F 3) (j + 1) (F 3 (j + 1))))) := ⟨_, rfl⟩
                                  replace hM : zM A G M_131 H := by rw [eM_132]; exact hM
                                  have hJ_133 : zJ G M_131 m0 ar 0 (nI co) (nI (ac + 1)) (if day ≤ gr then gr else day) (zuf (zuf (zuf (zuf (zEN F (zps (L 14) day ac) ac (nI (j + 1)) kind 0) 8 (upd (F 8) (j + 1) ((F 8 (j + 1)) + 0))) 5 (upd (F 5) (j + 1) kind)) 4 (upd (F 4) (j + 1) (F 4 (j + 1)))) 3 (upd (F 3) (j + 1) (F 3 (j + 1)))) (zuf L 14 (zpi (L 14) (zps (L 14) day ac) ac day)) := by rw [eM_132]; exact hJ_128.setI 3 (by decide) rfl _
                                  refine lv_aload_n hx hb dX3_act_327 rfl (lv_at hl 3 rfl) ?_
                                  refine z_get (v := .ref (ar 7)) S kX3 hK hM hJ_133.1 9 (by decide) kw_229 rfl dX3_act_328 ?_
                                  refine lv_iload_n hx hb dX3_act_331 rfl (lv_at hl 4 rfl) ?_
                                  refine lv_iconst (v := -1) hx hb dX3_act_332 (by decide) ?_
                                  refine z_iast S hK hM hS 0 (show M_131 (ar 7) = some (.inl (G.2.2 0, 81, .inl (F 7))) from hJ_133.2.1 7 (by decide)) rfl (zvp81 hj hco) dX3_act_333 (fun H locs hM hS => ?_)
                                  rw [hcl] at hM
                                  obtain ⟨M_134, eM_135⟩ : ∃ z : zMap, z = zu M_131 (ar 7) (.inl ((G.2.2 0), 81, .inl (upd (F 7) (j + 1) (-1)))) := ⟨_, rfl⟩
                                  replace hM : zM A G M_134 H := by rw [eM_135]; exact hM
                                  have hJ_136 : zJ G M_134 m0 ar 0 (nI co) (nI (ac + 1)) (if day ≤ gr then gr else day) (zuf (zuf (zuf (zuf (zuf (zEN F (zps (L 14) day ac) ac (nI (j + 1)) kind 0) 8 (upd (F 8) (j + 1) ((F 8 (j + 1)) + 0))) 5 (upd (F 5) (j + 1) kind)) 4 (upd (F 4) (j + 1) (F 4 (j + 1)))) 3 (upd (F 3) (j + 1) (F 3 (j + 1)))) 7 (upd (F 7) (j + 1) (-1))) (zuf L 14 (zpi (L 14) (zps (L 14) day ac) ac day)) := by rw [eM_135]; exact hJ_133.setI 7 (by decide) rfl _
                                  refine lv_iload_n hx hb dX3_act_334 rfl (lv_at hl 5 rfl) ?_
                                  exact z_iret S hr hlocks hM hS (by unfold zBQ; rw [hz]; dsimp only; rw [if_pos ⟨c_8, c_9, c_10, c_11, fun q => absurd q c_12⟩, zBe_n (Int64.not_lt.mpr c_13)]; rw [if_pos c_19]; rw [if_neg (fun q => q.elim (fun q => absurd q.1 c_20) (fun q => q.2.2.2 c_112)), if_neg (Int64.not_lt.mpr c_13), zb_f (Int64.not_lt.mpr c_13)]; exact ⟨rfl, by rw [zCF_eq (F0 := zEN F (zps (L 14) day ac) ac (nI (j + 1)) kind 0) (j := j) (kind := kind) (place := place) (fro := F 5 (j + 1)) (if_neg (fun q => c_118 q.1)) (if_neg c_125) (if_neg (fun q => q.2 c_130))]; exact hJ_136⟩) (Nat.le_of_ble_eq_true rfl) (Nat.le_of_ble_eq_true rfl) dX3_act_335
                                · -- 308 on
                                  refine lv_aload_n hx hb dX3_act_311 rfl (lv_at hl 3 rfl) ?_
                                  refine z_get (v := .ref (ar 4)) S kX3 hK hM hJ_128.1 6 (by decide) kw_226 rfl dX3_act_312 ?_
                                  refine lv_iload_n hx hb dX3_act_315 rfl (lv_at hl 4 rfl) ?_
                                  refine z_iald S hK hM 0 (show M_126 (ar 4) = some (.inl (G.2.2 0, 81, .inl (upd (F 4) (j + 1) (F 4 (j + 1))))) from hJ_128.2.1 4 (by decide)) rfl (zvp81 hj hco) dX3_act_316 ?_
                                  rw [hcl]
                                  rw [pk_us]
                                  refine lv_goto (tgt := 326) hx hb dX3_act_317 (by decide) ?_
                                  refine z_iast S hK hM hS 0 (show M_126 (ar 3) = some (.inl (G.2.2 0, 81, .inl (F 3))) from hJ_128.2.1 3 (by decide)) rfl (zvp81 hj hco) dX3_act_326 (fun H locs hM hS => ?_)
                                  rw [hcl] at hM
                                  obtain ⟨M_137, eM_138⟩ : ∃ z : zMap, z = zu M_126 (ar 3) (.inl ((G.2.2 0), 81, .inl (upd (F 3) (j + 1) (F 4 (j + 1))))) := ⟨_, rfl⟩
                                  replace hM : zM A G M_137 H := by rw [eM_138]; exact hM
                                  have hJ_139 : zJ G M_137 m0 ar 0 (nI co) (nI (ac + 1)) (if day ≤ gr then gr else day) (zuf (zuf (zuf (zuf (zEN F (zps (L 14) day ac) ac (nI (j + 1)) kind 0) 8 (upd (F 8) (j + 1) ((F 8 (j + 1)) + 0))) 5 (upd (F 5) (j + 1) kind)) 4 (upd (F 4) (j + 1) (F 4 (j + 1)))) 3 (upd (F 3) (j + 1) (F 4 (j + 1)))) (zuf L 14 (zpi (L 14) (zps (L 14) day ac) ac day)) := by rw [eM_138]; exact hJ_128.setI 3 (by decide) rfl _
                                  refine lv_aload_n hx hb dX3_act_327 rfl (lv_at hl 3 rfl) ?_
                                  refine z_get (v := .ref (ar 7)) S kX3 hK hM hJ_139.1 9 (by decide) kw_229 rfl dX3_act_328 ?_
                                  refine lv_iload_n hx hb dX3_act_331 rfl (lv_at hl 4 rfl) ?_
                                  refine lv_iconst (v := -1) hx hb dX3_act_332 (by decide) ?_
                                  refine z_iast S hK hM hS 0 (show M_137 (ar 7) = some (.inl (G.2.2 0, 81, .inl (F 7))) from hJ_139.2.1 7 (by decide)) rfl (zvp81 hj hco) dX3_act_333 (fun H locs hM hS => ?_)
                                  rw [hcl] at hM
                                  obtain ⟨M_140, eM_141⟩ : ∃ z : zMap, z = zu M_137 (ar 7) (.inl ((G.2.2 0), 81, .inl (upd (F 7) (j + 1) (-1)))) := ⟨_, rfl⟩
                                  replace hM : zM A G M_140 H := by rw [eM_141]; exact hM
                                  have hJ_142 : zJ G M_140 m0 ar 0 (nI co) (nI (ac + 1)) (if day ≤ gr then gr else day) (zuf (zuf (zuf (zuf (zuf (zEN F (zps (L 14) day ac) ac (nI (j + 1)) kind 0) 8 (upd (F 8) (j + 1) ((F 8 (j + 1)) + 0))) 5 (upd (F 5) (j + 1) kind)) 4 (upd (F 4) (j + 1) (F 4 (j + 1)))) 3 (upd (F 3) (j + 1) (F 4 (j + 1)))) 7 (upd (F 7) (j + 1) (-1))) (zuf L 14 (zpi (L 14) (zps (L 14) day ac) ac day)) := by rw [eM_141]; exact hJ_139.setI 7 (by decide) rfl _
                                  refine lv_iload_n hx hb dX3_act_334 rfl (lv_at hl 5 rfl) ?_
                                  exact z_iret S hr hlocks hM hS (by unfold zBQ; rw [hz]; dsimp only; rw [if_pos ⟨c_8, c_9, c_10, c_11, fun q => absurd q c_12⟩, zBe_n (Int64.not_lt.mpr c_13)]; rw [if_pos c_19]; rw [if_neg (fun q => q.elim (fun q => absurd q.1 c_20) (fun q => q.2.2.2 c_112)), if_neg (Int64.not_lt.mpr c_13), zb_f (Int64.not_lt.mpr c_13)]; exact ⟨rfl, by rw [zCF_eq (F0 := zEN F (zps (L 14) day ac) ac (nI (j + 1)) kind 0) (j := j) (kind := kind) (place := place) (fro := F 5 (j + 1)) (if_neg (fun q => c_118 q.1)) (if_neg c_125) (if_pos ⟨c_129, c_130⟩)]; exact hJ_142⟩) (Nat.le_of_ble_eq_true rfl) (Nat.le_of_ble_eq_true rfl) dX3_act_335
                            · -- 279 on
                              exact absurd (c_21.symm.trans c_125) (by decide)
                          · -- 239 on
                            exact absurd (c_21.symm.trans c_118) (by decide)
                        · -- 206 on
                          refine lv_bipush (v := -3) hx hb dX3_act_209 (by decide) ?_
                          exact z_iret S hr hlocks hM hS (by unfold zBQ; rw [hz]; dsimp only; rw [if_pos ⟨c_8, c_9, c_10, c_11, fun q => absurd q c_12⟩, zBe_n (Int64.not_lt.mpr c_13)]; rw [if_pos c_19]; rw [if_pos (Or.inr ⟨c_21, (Int64.not_lt.mpr c_13), c_81, c_112⟩)]; exact ⟨rfl, hJ_3⟩) (Nat.le_of_ble_eq_true rfl) (Nat.le_of_ble_eq_true rfl) dX3_act_211
                  · -- 148 on
                    exact absurd c_20 c_12
                · -- 140 on
                  rw [zb_0] at c_19
                  refine lv_bipush (v := -2) hx hb dX3_act_143 (by decide) ?_
                  exact z_iret S hr hlocks hM hS (by unfold zBQ; rw [hz]; dsimp only; rw [if_pos ⟨c_8, c_9, c_10, c_11, fun q => absurd q c_12⟩, zBe_n (Int64.not_lt.mpr c_13)]; rw [if_neg c_19]; exact ⟨rfl, hJ_3⟩) (Nat.le_of_ble_eq_true rfl) (Nat.le_of_ble_eq_true rfl) dX3_act_145
              · -- 73 on
                rw [lg_cmp_ge] at c_13
                refine lv_iconst (v := 1) hx hb dX3_act_76 (by decide) ?_
                refine lv_goto (tgt := 81) hx hb dX3_act_77 (by decide) ?_
                refine lv_istore (lv' := [(6, .int 1), (0, .ref m0), (1, .int (nI (j + 1))), (2, .int kind), (3, .int place), (4, .long day)]) hx hb dX3_act_81 hl (by decide) rfl (fun ls hl => ?_)
                refine lv_iload hx hb dX3_act_83 (lv_at hl 0 rfl) ?_
                refine lv_if_eq (tgt := 98) hx hb dX3_act_85 (by decide) (fun c_143 => absurd c_143 (by decide)) (fun c_143 => ?_)
                refine lv_aload_n hx hb dX3_act_88 rfl (lv_at hl 1 rfl) ?_
                refine lv_iload_n hx hb dX3_act_89 rfl (lv_at hl 2 rfl) ?_
                refine lv_lload hx hb dX3_act_90 (lv_at hl 5 rfl) ?_
                refine z_callV (As := [.int (nI (j + 1)), .long day]) (rest := []) S (c_X3_last l A G M_1 m0 ar 0 co ac gr F L (nI (j + 1)) day hJ_3 hco (by omega)) ok_X3_last kw_311 kw_313 ks_8 ⟨Nat.le_of_ble_eq_true rfl, Nat.le_of_ble_eq_true rfl⟩ hK hM hS hA hJ_3.1 rfl rfl hl.1 rfl (Nat.le_of_ble_eq_true rfl) dX3_act_92 ⟨Nat.le_of_ble_eq_true rfl, Nat.le_of_ble_eq_true rfl⟩ (fun r_146 M_144 H locs hp_145 hM hS => ?_)
                obtain ⟨rfl, hM9⟩ := hp_145
                rw [hM9] at hM
                refine W.eq (g2 := F0 m 95 ls [.int (nI (zlm (F 11) (L 14) (nI (j + 1)) day ac) - 1)]) rfl ?_
                rcases hm : zlm (F 11) (L 14) (nI (j + 1)) day ac with _ | z
                · refine W.eq (g2 := F0 m 95 ls [.int (-1)]) rfl ?_
                  refine lv_goto (tgt := 99) hx hb dX3_act_95 (by decide) ?_
                  refine lv_istore (lv' := [(7, .int (-1)), (6, .int 1), (0, .ref m0), (1, .int (nI (j + 1))), (2, .int kind), (3, .int place), (4, .long day)]) hx hb dX3_act_99 hl (by decide) rfl (fun ls hl => ?_)
                  refine lv_iload hx hb dX3_act_101 (lv_at hl 1 rfl) ?_
                  refine lv_if_ne (tgt := 115) hx hb dX3_act_103 (by decide) (fun c_147 => ?_) (fun c_147 => absurd c_147 (by decide))
                  refine lv_iload hx hb dX3_act_115 (lv_at hl 0 rfl) ?_
                  refine lv_iconst (v := -1) hx hb dX3_act_117 (by decide) ?_
                  refine lv_icmp_ne (tgt := 125) hx hb dX3_act_118 (by decide) (fun c_148 => absurd c_148 (by decide)) (fun c_148 => ?_)
                  refine lv_iconst (v := 3) hx hb dX3_act_121 (by decide) ?_
                  refine lv_goto (tgt := 132) hx hb dX3_act_122 (by decide) ?_
                  refine lv_istore (lv' := [(8, .int 3), (7, .int (-1)), (6, .int 1), (0, .ref m0), (1, .int (nI (j + 1))), (2, .int kind), (3, .int place), (4, .long day)]) hx hb dX3_act_132 hl (by decide) rfl (fun ls hl => ?_)
                  refine lv_iload_n hx hb dX3_act_134 rfl (lv_at hl 5 rfl) ?_
                  refine lv_iload hx hb dX3_act_135 (lv_at hl 0 rfl) ?_
                  refine z_callS (As := [.int kind, .int 3]) (rest := []) S (c_X3_follows l A G M_1 kind 3) ok_X3_follows kw_320 kw_321 ⟨Nat.le_of_ble_eq_true rfl, Nat.le_of_ble_eq_true rfl⟩ hK hM hS hA rfl hl.1 rfl (Nat.le_of_ble_eq_true rfl) dX3_act_137 ⟨Nat.le_of_ble_eq_true rfl, Nat.le_of_ble_eq_true rfl⟩ (fun r_151 M_149 H locs hp_150 hM hS => ?_)
                  obtain ⟨rfl, hM9⟩ := hp_150
                  rw [hM9] at hM
                  refine W.eq (g2 := F0 m 140 ls [.int (zb (zFm kind 3))]) rfl ?_
                  refine lv_if_ne (tgt := 146) hx hb dX3_act_140 (by decide) (fun c_152 => ?_) (fun c_152 => ?_)
                  · -- 140 jump
                    rw [zb_0n] at c_152
                    refine lv_iload_n hx hb dX3_act_146 rfl (lv_at hl 5 rfl) ?_
                    refine lv_iconst (v := 2) hx hb dX3_act_147 (by decide) ?_
                    refine lv_icmp_ne (tgt := 170) hx hb dX3_act_148 (by decide) (fun c_153 => ?_) (fun c_153 => ?_)
                    · -- 148 jump
                      refine lv_iload_n hx hb dX3_act_170 rfl (lv_at hl 5 rfl) ?_
                      refine lv_if_ne (tgt := 212) hx hb dX3_act_171 (by decide) (fun c_154 => ?_) (fun c_154 => ?_)
                      · -- 171 jump
                        refine lv_aload_n hx hb dX3_act_212 rfl (lv_at hl 3 rfl) ?_
                        refine lv_iload_n hx hb dX3_act_213 rfl (lv_at hl 4 rfl) ?_
                        refine lv_iload_n hx hb dX3_act_214 rfl (lv_at hl 5 rfl) ?_
                        refine lv_iload hx hb dX3_act_215 (lv_at hl 2 rfl) ?_
                        refine lv_lload hx hb dX3_act_217 (lv_at hl 7 rfl) ?_
                        refine z_callV (As := [.int (nI (j + 1)), .int kind, .int 1, .long day]) (rest := []) S (c_X3_enter l A G M_1 m0 ar 0 co ac gr F L (nI (j + 1)) kind 1 day hJ_3 hco (by omega) (Or.inr rfl) hbl) ok_X3_enter kw_323 kw_325 ks_9 ⟨Nat.le_of_ble_eq_true rfl, Nat.le_of_ble_eq_true rfl⟩ hK hM hS hA hJ_3.1 rfl rfl hl.1 rfl (Nat.le_of_ble_eq_true rfl) dX3_act_219 ⟨Nat.le_of_ble_eq_true rfl, Nat.le_of_ble_eq_true rfl⟩ (fun r_157 M_155 H locs hp_156 hM hS => ?_)
                        obtain ⟨rfl, hJ_158⟩ := hp_156
                        refine W.eq (g2 := F0 m 222 ls []) rfl ?_
                        refine lv_iload hx hb dX3_act_222 (lv_at hl 2 rfl) ?_
                        refine lv_if_eq (tgt := 229) hx hb dX3_act_224 (by decide) (fun c_159 => absurd c_159 (by decide)) (fun c_159 => ?_)
                        refine lv_iload_n hx hb dX3_act_227 rfl (lv_at hl 5 rfl) ?_
                        exact z_iret S hr hlocks hM hS (by unfold zBQ; rw [hz]; dsimp only; rw [if_pos ⟨c_8, c_9, c_10, c_11, fun q => absurd q c_12⟩, zBe_l (Int64.not_le.mp c_13), zms_z hm]; rw [if_pos c_152]; rw [if_neg (fun q => q.elim (fun q => absurd q.1 c_153) (fun q => absurd q.1 c_154)), if_pos (Int64.not_le.mp c_13), zb_t (Int64.not_le.mp c_13)]; exact ⟨rfl, hJ_158⟩) (Nat.le_of_ble_eq_true rfl) (Nat.le_of_ble_eq_true rfl) dX3_act_228
                      · -- 171 on
                        refine lv_iload hx hb dX3_act_174 (lv_at hl 2 rfl) ?_
                        refine lv_if_ne (tgt := 212) hx hb dX3_act_176 (by decide) (fun c_160 => ?_) (fun c_160 => absurd c_160 (by decide))
                        refine lv_aload_n hx hb dX3_act_212 rfl (lv_at hl 3 rfl) ?_
                        refine lv_iload_n hx hb dX3_act_213 rfl (lv_at hl 4 rfl) ?_
                        refine lv_iload_n hx hb dX3_act_214 rfl (lv_at hl 5 rfl) ?_
                        refine lv_iload hx hb dX3_act_215 (lv_at hl 2 rfl) ?_
                        refine lv_lload hx hb dX3_act_217 (lv_at hl 7 rfl) ?_
                        refine z_callV (As := [.int (nI (j + 1)), .int kind, .int 1, .long day]) (rest := []) S (c_X3_enter l A G M_1 m0 ar 0 co ac gr F L (nI (j + 1)) kind 1 day hJ_3 hco (by omega) (Or.inr rfl) hbl) ok_X3_enter kw_323 kw_325 ks_9 ⟨Nat.le_of_ble_eq_true rfl, Nat.le_of_ble_eq_true rfl⟩ hK hM hS hA hJ_3.1 rfl rfl hl.1 rfl (Nat.le_of_ble_eq_true rfl) dX3_act_219 ⟨Nat.le_of_ble_eq_true rfl, Nat.le_of_ble_eq_true rfl⟩ (fun r_163 M_161 H locs hp_162 hM hS => ?_)
                        obtain ⟨rfl, hJ_164⟩ := hp_162
                        refine W.eq (g2 := F0 m 222 ls []) rfl ?_
                        refine lv_iload hx hb dX3_act_222 (lv_at hl 2 rfl) ?_
                        refine lv_if_eq (tgt := 229) hx hb dX3_act_224 (by decide) (fun c_165 => absurd c_165 (by decide)) (fun c_165 => ?_)
                        refine lv_iload_n hx hb dX3_act_227 rfl (lv_at hl 5 rfl) ?_
                        exact z_iret S hr hlocks hM hS (by unfold zBQ; rw [hz]; dsimp only; rw [if_pos ⟨c_8, c_9, c_10, c_11, fun q => absurd q c_12⟩, zBe_l (Int64.not_le.mp c_13), zms_z hm]; rw [if_pos c_152]; rw [if_neg (fun q => q.elim (fun q => absurd q.1 c_153) (fun q => q.2.1 (Int64.not_le.mp c_13))), if_pos (Int64.not_le.mp c_13), zb_t (Int64.not_le.mp c_13)]; exact ⟨rfl, hJ_164⟩) (Nat.le_of_ble_eq_true rfl) (Nat.le_of_ble_eq_true rfl) dX3_act_228
                    · -- 148 on
                      exact absurd c_153 c_12
                  · -- 140 on
                    rw [zb_0] at c_152
                    refine lv_bipush (v := -2) hx hb dX3_act_143 (by decide) ?_
                    exact z_iret S hr hlocks hM hS (by unfold zBQ; rw [hz]; dsimp only; rw [if_pos ⟨c_8, c_9, c_10, c_11, fun q => absurd q c_12⟩, zBe_l (Int64.not_le.mp c_13), zms_z hm]; rw [if_neg c_152]; exact ⟨rfl, hJ_3⟩) (Nat.le_of_ble_eq_true rfl) (Nat.le_of_ble_eq_true rfl) dX3_act_145
                · rw [nI_pred]
                  have hza : z < ac := by have h5 := zlm_le (F 11) (L 14) (nI (j + 1)) day ac; omega
                  have hcz : (nI z).toNatClampNeg = z := nI_clamp (by omega)
                  refine lv_goto (tgt := 99) hx hb dX3_act_95 (by decide) ?_
                  refine lv_istore (lv' := [(7, .int (nI z)), (6, .int 1), (0, .ref m0), (1, .int (nI (j + 1))), (2, .int kind), (3, .int place), (4, .long day)]) hx hb dX3_act_99 hl (by decide) rfl (fun ls hl => ?_)
                  refine lv_iload hx hb dX3_act_101 (lv_at hl 1 rfl) ?_
                  refine lv_if_ne (tgt := 115) hx hb dX3_act_103 (by decide) (fun c_166 => ?_) (fun c_166 => absurd c_166 (by decide))
                  refine lv_iload hx hb dX3_act_115 (lv_at hl 0 rfl) ?_
                  refine lv_iconst (v := -1) hx hb dX3_act_117 (by decide) ?_
                  refine lv_icmp_ne (tgt := 125) hx hb dX3_act_118 (by decide) (fun c_167 => ?_) (fun c_167 => ?_)
                  · -- 118 jump
                    refine lv_aload_n hx hb dX3_act_125 rfl (lv_at hl 2 rfl) ?_
                    refine z_get (v := .ref (ar 12)) S kX3 hK hM hJ_3.1 15 (by decide) kw_235 rfl dX3_act_126 ?_
                    refine lv_iload hx hb dX3_act_129 (lv_at hl 0 rfl) ?_
                    refine z_iald S hK hM 0 (show M_1 (ar 12) = some (.inl (G.2.2 0, 5000, .inl (F 12))) from hJ_3.2.1 12 (by decide)) rfl (zvp5 hza hac5) dX3_act_131 ?_
                    rw [hcz]
                    refine lv_istore (lv' := [(8, .int (F 12 z)), (7, .int (nI z)), (6, .int 1), (0, .ref m0), (1, .int (nI (j + 1))), (2, .int kind), (3, .int place), (4, .long day)]) hx hb dX3_act_132 hl (by decide) rfl (fun ls hl => ?_)
                    refine lv_iload_n hx hb dX3_act_134 rfl (lv_at hl 5 rfl) ?_
                    refine lv_iload hx hb dX3_act_135 (lv_at hl 0 rfl) ?_
                    refine z_callS (As := [.int kind, .int (F 12 z)]) (rest := []) S (c_X3_follows l A G M_1 kind (F 12 z)) ok_X3_follows kw_320 kw_321 ⟨Nat.le_of_ble_eq_true rfl, Nat.le_of_ble_eq_true rfl⟩ hK hM hS hA rfl hl.1 rfl (Nat.le_of_ble_eq_true rfl) dX3_act_137 ⟨Nat.le_of_ble_eq_true rfl, Nat.le_of_ble_eq_true rfl⟩ (fun r_170 M_168 H locs hp_169 hM hS => ?_)
                    obtain ⟨rfl, hM9⟩ := hp_169
                    rw [hM9] at hM
                    refine W.eq (g2 := F0 m 140 ls [.int (zb (zFm kind (F 12 z)))]) rfl ?_
                    refine lv_if_ne (tgt := 146) hx hb dX3_act_140 (by decide) (fun c_171 => ?_) (fun c_171 => ?_)
                    · -- 140 jump
                      rw [zb_0n] at c_171
                      refine lv_iload_n hx hb dX3_act_146 rfl (lv_at hl 5 rfl) ?_
                      refine lv_iconst (v := 2) hx hb dX3_act_147 (by decide) ?_
                      refine lv_icmp_ne (tgt := 170) hx hb dX3_act_148 (by decide) (fun c_172 => ?_) (fun c_172 => ?_)
                      · -- 148 jump
                        refine lv_iload_n hx hb dX3_act_170 rfl (lv_at hl 5 rfl) ?_
                        refine lv_if_ne (tgt := 212) hx hb dX3_act_171 (by decide) (fun c_173 => ?_) (fun c_173 => ?_)
                        · -- 171 jump
                          refine lv_aload_n hx hb dX3_act_212 rfl (lv_at hl 3 rfl) ?_
                          refine lv_iload_n hx hb dX3_act_213 rfl (lv_at hl 4 rfl) ?_
                          refine lv_iload_n hx hb dX3_act_214 rfl (lv_at hl 5 rfl) ?_
                          refine lv_iload hx hb dX3_act_215 (lv_at hl 2 rfl) ?_
                          refine lv_lload hx hb dX3_act_217 (lv_at hl 7 rfl) ?_
                          refine z_callV (As := [.int (nI (j + 1)), .int kind, .int 1, .long day]) (rest := []) S (c_X3_enter l A G M_1 m0 ar 0 co ac gr F L (nI (j + 1)) kind 1 day hJ_3 hco (by omega) (Or.inr rfl) hbl) ok_X3_enter kw_323 kw_325 ks_9 ⟨Nat.le_of_ble_eq_true rfl, Nat.le_of_ble_eq_true rfl⟩ hK hM hS hA hJ_3.1 rfl rfl hl.1 rfl (Nat.le_of_ble_eq_true rfl) dX3_act_219 ⟨Nat.le_of_ble_eq_true rfl, Nat.le_of_ble_eq_true rfl⟩ (fun r_176 M_174 H locs hp_175 hM hS => ?_)
                          obtain ⟨rfl, hJ_177⟩ := hp_175
                          refine W.eq (g2 := F0 m 222 ls []) rfl ?_
                          refine lv_iload hx hb dX3_act_222 (lv_at hl 2 rfl) ?_
                          refine lv_if_eq (tgt := 229) hx hb dX3_act_224 (by decide) (fun c_178 => absurd c_178 (by decide)) (fun c_178 => ?_)
                          refine lv_iload_n hx hb dX3_act_227 rfl (lv_at hl 5 rfl) ?_
                          exact z_iret S hr hlocks hM hS (by unfold zBQ; rw [hz]; dsimp only; rw [if_pos ⟨c_8, c_9, c_10, c_11, fun q => absurd q c_12⟩, zBe_l (Int64.not_le.mp c_13), zms_s hm]; rw [if_pos c_171]; rw [if_neg (fun q => q.elim (fun q => absurd q.1 c_172) (fun q => absurd q.1 c_173)), if_pos (Int64.not_le.mp c_13), zb_t (Int64.not_le.mp c_13)]; exact ⟨rfl, hJ_177⟩) (Nat.le_of_ble_eq_true rfl) (Nat.le_of_ble_eq_true rfl) dX3_act_228
                        · -- 171 on
                          refine lv_iload hx hb dX3_act_174 (lv_at hl 2 rfl) ?_
                          refine lv_if_ne (tgt := 212) hx hb dX3_act_176 (by decide) (fun c_179 => ?_) (fun c_179 => absurd c_179 (by decide))
                          refine lv_aload_n hx hb dX3_act_212 rfl (lv_at hl 3 rfl) ?_
                          refine lv_iload_n hx hb dX3_act_213 rfl (lv_at hl 4 rfl) ?_
                          refine lv_iload_n hx hb dX3_act_214 rfl (lv_at hl 5 rfl) ?_
                          refine lv_iload hx hb dX3_act_215 (lv_at hl 2 rfl) ?_
                          refine lv_lload hx hb dX3_act_217 (lv_at hl 7 rfl) ?_
                          refine z_callV (As := [.int (nI (j + 1)), .int kind, .int 1, .long day]) (rest := []) S (c_X3_enter l A G M_1 m0 ar 0 co ac gr F L (nI (j + 1)) kind 1 day hJ_3 hco (by omega) (Or.inr rfl) hbl) ok_X3_enter kw_323 kw_325 ks_9 ⟨Nat.le_of_ble_eq_true rfl, Nat.le_of_ble_eq_true rfl⟩ hK hM hS hA hJ_3.1 rfl rfl hl.1 rfl (Nat.le_of_ble_eq_true rfl) dX3_act_219 ⟨Nat.le_of_ble_eq_true rfl, Nat.le_of_ble_eq_true rfl⟩ (fun r_182 M_180 H locs hp_181 hM hS => ?_)
                          obtain ⟨rfl, hJ_183⟩ := hp_181
                          refine W.eq (g2 := F0 m 222 ls []) rfl ?_
                          refine lv_iload hx hb dX3_act_222 (lv_at hl 2 rfl) ?_
                          refine lv_if_eq (tgt := 229) hx hb dX3_act_224 (by decide) (fun c_184 => absurd c_184 (by decide)) (fun c_184 => ?_)
                          refine lv_iload_n hx hb dX3_act_227 rfl (lv_at hl 5 rfl) ?_
                          exact z_iret S hr hlocks hM hS (by unfold zBQ; rw [hz]; dsimp only; rw [if_pos ⟨c_8, c_9, c_10, c_11, fun q => absurd q c_12⟩, zBe_l (Int64.not_le.mp c_13), zms_s hm]; rw [if_pos c_171]; rw [if_neg (fun q => q.elim (fun q => absurd q.1 c_172) (fun q => q.2.1 (Int64.not_le.mp c_13))), if_pos (Int64.not_le.mp c_13), zb_t (Int64.not_le.mp c_13)]; exact ⟨rfl, hJ_183⟩) (Nat.le_of_ble_eq_true rfl) (Nat.le_of_ble_eq_true rfl) dX3_act_228
                      · -- 148 on
                        exact absurd c_172 c_12
                    · -- 140 on
                      rw [zb_0] at c_171
                      refine lv_bipush (v := -2) hx hb dX3_act_143 (by decide) ?_
                      exact z_iret S hr hlocks hM hS (by unfold zBQ; rw [hz]; dsimp only; rw [if_pos ⟨c_8, c_9, c_10, c_11, fun q => absurd q c_12⟩, zBe_l (Int64.not_le.mp c_13), zms_s hm]; rw [if_neg c_171]; exact ⟨rfl, hJ_3⟩) (Nat.le_of_ble_eq_true rfl) (Nat.le_of_ble_eq_true rfl) dX3_act_145
                  · -- 118 on
                    exact absurd c_167 (zne1 (by omega))
            · -- 41 on
              have hk2 := c_12
              refine lv_iload_n hx hb dX3_act_44 rfl (lv_at hl 3 rfl) ?_
              refine lv_if_lt (tgt := 64) hx hb dX3_act_45 (by decide) (fun c_185 => ?_) (fun c_185 => ?_)
              · -- 45 jump
                refine lv_iconst (v := -1) hx hb dX3_act_64 (by decide) ?_
                exact z_iret S hr hlocks hM hS (by unfold zBQ; rw [hz]; dsimp only; rw [if_neg (fun q => (q.2.2.2.2 hk2).1.1 c_185)]; exact ⟨rfl, hJ_3⟩) (Nat.le_of_ble_eq_true rfl) (Nat.le_of_ble_eq_true rfl) dX3_act_65
              · -- 45 on
                refine lv_iload_n hx hb dX3_act_48 rfl (lv_at hl 3 rfl) ?_
                refine lv_bipush (v := 9) hx hb dX3_act_49 (by decide) ?_
                refine lv_icmp_gt (tgt := 64) hx hb dX3_act_51 (by decide) (fun c_186 => ?_) (fun c_186 => ?_)
                · -- 51 jump
                  refine lv_iconst (v := -1) hx hb dX3_act_64 (by decide) ?_
                  exact z_iret S hr hlocks hM hS (by unfold zBQ; rw [hz]; dsimp only; rw [if_neg (fun q => (q.2.2.2.2 hk2).1.2 (gt9 c_186))]; exact ⟨rfl, hJ_3⟩) (Nat.le_of_ble_eq_true rfl) (Nat.le_of_ble_eq_true rfl) dX3_act_65
                · -- 51 on
                  refine lv_iload_n hx hb dX3_act_54 rfl (lv_at hl 3 rfl) ?_
                  refine lv_aload_n hx hb dX3_act_55 rfl (lv_at hl 0 rfl) ?_
                  refine z_get (v := .ref (ar 4)) S kX3 hK hM hJ_3.1 6 (by decide) kw_226 rfl dX3_act_56 ?_
                  refine lv_iload_n hx hb dX3_act_59 rfl (lv_at hl 1 rfl) ?_
                  refine z_iald S hK hM 0 (show M_1 (ar 4) = some (.inl (G.2.2 0, 81, .inl (F 4))) from hJ_3.2.1 4 (by decide)) rfl (zvp81 hj hco) dX3_act_60 ?_
                  rw [hcl]
                  refine lv_icmp_ne (tgt := 66) hx hb dX3_act_61 (by decide) (fun c_187 => ?_) (fun c_187 => ?_)
                  · -- 61 jump
                    refine lv_lload hx hb dX3_act_66 (lv_at hl 4 rfl) ?_
                    refine lv_aload_n hx hb dX3_act_68 rfl (lv_at hl 0 rfl) ?_
                    refine z_get (v := .long gr) S kX3 hK hM hJ_3.1 18 (by decide) kw_238 rfl dX3_act_69 ?_
                    refine W.lcmp hx hb dX3_act_72 ?_
                    refine lv_if_ge (tgt := 80) hx hb dX3_act_73 (by decide) (fun c_188 => ?_) (fun c_188 => ?_)
                    · -- 73 jump
                      rw [lg_cmp_ge] at c_188
                      refine lv_iconst (v := 0) hx hb dX3_act_80 (by decide) ?_
                      refine lv_istore (lv' := [(6, .int 0), (0, .ref m0), (1, .int (nI (j + 1))), (2, .int kind), (3, .int place), (4, .long day)]) hx hb dX3_act_81 hl (by decide) rfl (fun ls hl => ?_)
                      refine lv_iload hx hb dX3_act_83 (lv_at hl 0 rfl) ?_
                      refine lv_if_eq (tgt := 98) hx hb dX3_act_85 (by decide) (fun c_189 => ?_) (fun c_189 => absurd c_189 (by decide))
                      refine lv_iconst (v := -1) hx hb dX3_act_98 (by decide) ?_
                      refine lv_istore (lv' := [(7, .int (-1)), (6, .int 0), (0, .ref m0), (1, .int (nI (j + 1))), (2, .int kind), (3, .int place), (4, .long day)]) hx hb dX3_act_99 hl (by decide) rfl (fun ls hl => ?_)
                      refine lv_iload hx hb dX3_act_101 (lv_at hl 1 rfl) ?_
                      refine lv_if_ne (tgt := 115) hx hb dX3_act_103 (by decide) (fun c_190 => absurd c_190 (by decide)) (fun c_190 => ?_)
                      refine lv_aload_n hx hb dX3_act_106 rfl (lv_at hl 2 rfl) ?_
                      refine z_get (v := .ref (ar 5)) S kX3 hK hM hJ_3.1 7 (by decide) kw_227 rfl dX3_act_107 ?_
                      refine lv_iload_n hx hb dX3_act_110 rfl (lv_at hl 3 rfl) ?_
                      refine z_iald S hK hM 0 (show M_1 (ar 5) = some (.inl (G.2.2 0, 81, .inl (F 5))) from hJ_3.2.1 5 (by decide)) rfl (zvp81 hj hco) dX3_act_111 ?_
                      rw [hcl]
                      refine lv_goto (tgt := 132) hx hb dX3_act_112 (by decide) ?_
                      refine lv_istore (lv' := [(8, .int (F 5 (j + 1))), (7, .int (-1)), (6, .int 0), (0, .ref m0), (1, .int (nI (j + 1))), (2, .int kind), (3, .int place), (4, .long day)]) hx hb dX3_act_132 hl (by decide) rfl (fun ls hl => ?_)
                      refine lv_iload_n hx hb dX3_act_134 rfl (lv_at hl 5 rfl) ?_
                      refine lv_iload hx hb dX3_act_135 (lv_at hl 0 rfl) ?_
                      refine z_callS (As := [.int kind, .int (F 5 (j + 1))]) (rest := []) S (c_X3_follows l A G M_1 kind (F 5 (j + 1))) ok_X3_follows kw_320 kw_321 ⟨Nat.le_of_ble_eq_true rfl, Nat.le_of_ble_eq_true rfl⟩ hK hM hS hA rfl hl.1 rfl (Nat.le_of_ble_eq_true rfl) dX3_act_137 ⟨Nat.le_of_ble_eq_true rfl, Nat.le_of_ble_eq_true rfl⟩ (fun r_193 M_191 H locs hp_192 hM hS => ?_)
                      obtain ⟨rfl, hM9⟩ := hp_192
                      rw [hM9] at hM
                      refine W.eq (g2 := F0 m 140 ls [.int (zb (zFm kind (F 5 (j + 1))))]) rfl ?_
                      refine lv_if_ne (tgt := 146) hx hb dX3_act_140 (by decide) (fun c_194 => ?_) (fun c_194 => ?_)
                      · -- 140 jump
                        rw [zb_0n] at c_194
                        refine lv_iload_n hx hb dX3_act_146 rfl (lv_at hl 5 rfl) ?_
                        refine lv_iconst (v := 2) hx hb dX3_act_147 (by decide) ?_
                        refine lv_icmp_ne (tgt := 170) hx hb dX3_act_148 (by decide) (fun c_195 => ?_) (fun c_195 => ?_)
                        · -- 148 jump
                          exact absurd c_12 c_195
                        · -- 148 on
                          refine lv_aload_n hx hb dX3_act_151 rfl (lv_at hl 3 rfl) ?_
                          refine z_get (v := .ref (ar 9)) S kX3 hK hM hJ_3.1 11 (by decide) kw_231 rfl dX3_act_152 ?_
                          refine lv_bipush (v := 6) hx hb dX3_act_155 (by decide) ?_
                          refine lv_iload_n hx hb dX3_act_157 rfl (lv_at hl 6 rfl) ?_
                          refine lv_imul hx hb dX3_act_158 ?_
                          refine lv_aload_n hx hb dX3_act_159 rfl (lv_at hl 3 rfl) ?_
                          refine z_get (v := .ref (ar 0)) S kX3 hK hM hJ_3.1 2 (by decide) kw_222 rfl dX3_act_160 ?_
                          refine lv_iload_n hx hb dX3_act_163 rfl (lv_at hl 4 rfl) ?_
                          refine z_iald S hK hM 0 (show M_1 (ar 0) = some (.inl (G.2.2 0, 81, .inl (F 0))) from hJ_3.2.1 0 (by decide)) rfl (zvp81 hj hco) dX3_act_164 ?_
                          rw [hcl]
                          refine lv_iadd hx hb dX3_act_165 ?_
                          refine z_zald S hK hM 1 (show M_1 (ar 9) = some (.inl (G.2.2 1, 60, .inl (F 9))) from hJ_3.2.1 9 (by decide)) rfl (zRi_in6 (zPl_9 c_185 c_186) (hty j hj).1) dX3_act_166 ?_
                          refine lv_if_ne (tgt := 209) hx hb dX3_act_167 (by decide) (fun c_196 => ?_) (fun c_196 => ?_)
                          · -- 167 jump
                            refine lv_bipush (v := -3) hx hb dX3_act_209 (by decide) ?_
                            exact z_iret S hr hlocks hM hS (by unfold zBQ; rw [hz]; dsimp only; rw [if_pos ⟨c_8, c_9, c_10, c_11, fun _ => ⟨zPl_9 c_185 c_186, c_187⟩⟩, zBe_n (Int64.not_lt.mpr c_188)]; rw [if_pos c_194]; rw [if_pos (Or.inl ⟨hk2, c_196⟩)]; exact ⟨rfl, hJ_3⟩) (Nat.le_of_ble_eq_true rfl) (Nat.le_of_ble_eq_true rfl) dX3_act_211
                          · -- 167 on
                            refine lv_iload_n hx hb dX3_act_170 rfl (lv_at hl 5 rfl) ?_
                            refine lv_if_ne (tgt := 212) hx hb dX3_act_171 (by decide) (fun c_197 => ?_) (fun c_197 => ?_)
                            · -- 171 jump
                              refine lv_aload_n hx hb dX3_act_212 rfl (lv_at hl 3 rfl) ?_
                              refine lv_iload_n hx hb dX3_act_213 rfl (lv_at hl 4 rfl) ?_
                              refine lv_iload_n hx hb dX3_act_214 rfl (lv_at hl 5 rfl) ?_
                              refine lv_iload hx hb dX3_act_215 (lv_at hl 2 rfl) ?_
                              refine lv_lload hx hb dX3_act_217 (lv_at hl 7 rfl) ?_
                              refine z_callV (As := [.int (nI (j + 1)), .int kind, .int 0, .long day]) (rest := []) S (c_X3_enter l A G M_1 m0 ar 0 co ac gr F L (nI (j + 1)) kind 0 day hJ_3 hco (by omega) (Or.inl rfl) hbl) ok_X3_enter kw_323 kw_325 ks_9 ⟨Nat.le_of_ble_eq_true rfl, Nat.le_of_ble_eq_true rfl⟩ hK hM hS hA hJ_3.1 rfl rfl hl.1 rfl (Nat.le_of_ble_eq_true rfl) dX3_act_219 ⟨Nat.le_of_ble_eq_true rfl, Nat.le_of_ble_eq_true rfl⟩ (fun r_200 M_198 H locs hp_199 hM hS => ?_)
                              obtain ⟨rfl, hJ_201⟩ := hp_199
                              refine W.eq (g2 := F0 m 222 ls []) rfl ?_
                              refine lv_iload hx hb dX3_act_222 (lv_at hl 2 rfl) ?_
                              refine lv_if_eq (tgt := 229) hx hb dX3_act_224 (by decide) (fun c_202 => ?_) (fun c_202 => absurd c_202 (by decide))
                              refine lv_aload_n hx hb dX3_act_229 rfl (lv_at hl 3 rfl) ?_
                              refine z_get (v := .ref (ar 8)) S kX3 hK hM hJ_201.1 10 (by decide) kw_230 rfl dX3_act_230 ?_
                              refine lv_iload_n hx hb dX3_act_233 rfl (lv_at hl 4 rfl) ?_
                              refine lv_dup2_11 hx hb dX3_act_234 rfl rfl ?_
                              refine z_iald S hK hM 0 (show M_198 (ar 8) = some (.inl (G.2.2 0, 81, .inl (F 8))) from hJ_201.2.1 8 (by decide)) rfl (zvp81 hj hco) dX3_act_235 ?_
                              rw [hcl]
                              refine lv_iload_n hx hb dX3_act_236 rfl (lv_at hl 5 rfl) ?_
                              refine lv_bipush (v := 6) hx hb dX3_act_237 (by decide) ?_
                              refine lv_icmp_ne (tgt := 262) hx hb dX3_act_239 (by decide) (fun c_203 => ?_) (fun c_203 => ?_)
                              · -- 239 jump
                                refine lv_iconst (v := 0) hx hb dX3_act_262 (by decide) ?_
                                refine lv_iadd hx hb dX3_act_263 ?_
                                refine z_iast S hK hM hS 0 (show M_198 (ar 8) = some (.inl (G.2.2 0, 81, .inl (F 8))) from hJ_201.2.1 8 (by decide)) rfl (zvp81 hj hco) dX3_act_264 (fun H locs hM hS => ?_)
                                rw [hcl] at hM
                                obtain ⟨M_204, eM_205⟩ : ∃ z : zMap, z = zu M_198 (ar 8) (.inl ((G.2.2 0), 81, .inl (upd (F 8) (j + 1) ((F 8 (j + 1)) + 0)))) := ⟨_, rfl⟩
                                replace hM : zM A G M_204 H := by rw [eM_205]; exact hM
                                have hJ_206 : zJ G M_204 m0 ar 0 (nI co) (nI (ac + 1)) (if day ≤ gr then gr else day) (zuf (zEN F (zps (L 14) day ac) ac (nI (j + 1)) kind 0) 8 (upd (F 8) (j + 1) ((F 8 (j + 1)) + 0))) (zuf L 14 (zpi (L 14) (zps (L 14) day ac) ac day)) := by rw [eM_205]; exact hJ_201.setI 8 (by decide) rfl _
                                refine lv_aload_n hx hb dX3_act_265 rfl (lv_at hl 3 rfl) ?_
                                refine z_get (v := .ref (ar 5)) S kX3 hK hM hJ_206.1 7 (by decide) kw_227 rfl dX3_act_266 ?_
                                refine lv_iload_n hx hb dX3_act_269 rfl (lv_at hl 4 rfl) ?_
                                refine lv_iload_n hx hb dX3_act_270 rfl (lv_at hl 5 rfl) ?_
                                refine z_iast S hK hM hS 0 (show M_204 (ar 5) = some (.inl (G.2.2 0, 81, .inl (F 5))) from hJ_206.2.1 5 (by decide)) rfl (zvp81 hj hco) dX3_act_271 (fun H locs hM hS => ?_)
                                rw [hcl] at hM
                                obtain ⟨M_207, eM_208⟩ : ∃ z : zMap, z = zu M_204 (ar 5) (.inl ((G.2.2 0), 81, .inl (upd (F 5) (j + 1) kind))) := ⟨_, rfl⟩
                                replace hM : zM A G M_207 H := by rw [eM_208]; exact hM
                                have hJ_209 : zJ G M_207 m0 ar 0 (nI co) (nI (ac + 1)) (if day ≤ gr then gr else day) (zuf (zuf (zEN F (zps (L 14) day ac) ac (nI (j + 1)) kind 0) 8 (upd (F 8) (j + 1) ((F 8 (j + 1)) + 0))) 5 (upd (F 5) (j + 1) kind)) (zuf L 14 (zpi (L 14) (zps (L 14) day ac) ac day)) := by rw [eM_208]; exact hJ_206.setI 5 (by decide) rfl _
                                refine lv_aload_n hx hb dX3_act_272 rfl (lv_at hl 3 rfl) ?_
                                refine z_get (v := .ref (ar 4)) S kX3 hK hM hJ_209.1 6 (by decide) kw_226 rfl dX3_act_273 ?_
                                refine lv_iload_n hx hb dX3_act_276 rfl (lv_at hl 4 rfl) ?_
                                refine lv_iload_n hx hb dX3_act_277 rfl (lv_at hl 5 rfl) ?_
                                refine lv_iconst (v := 2) hx hb dX3_act_278 (by decide) ?_
                                refine lv_icmp_ne (tgt := 286) hx hb dX3_act_279 (by decide) (fun c_210 => ?_) (fun c_210 => ?_)
                                · -- 279 jump
                                  exact absurd c_195 c_210
                                · -- 279 on
                                  refine lv_iload_n hx hb dX3_act_282 rfl (lv_at hl 6 rfl) ?_
                                  refine lv_goto (tgt := 292) hx hb dX3_act_283 (by decide) ?_
                                  refine z_iast S hK hM hS 0 (show M_207 (ar 4) = some (.inl (G.2.2 0, 81, .inl (F 4))) from hJ_209.2.1 4 (by decide)) rfl (zvp81 hj hco) dX3_act_292 (fun H locs hM hS => ?_)
                                  rw [hcl] at hM
                                  obtain ⟨M_211, eM_212⟩ : ∃ z : zMap, z = zu M_207 (ar 4) (.inl ((G.2.2 0), 81, .inl (upd (F 4) (j + 1) place))) := ⟨_, rfl⟩
                                  replace hM : zM A G M_211 H := by rw [eM_212]; exact hM
                                  have hJ_213 : zJ G M_211 m0 ar 0 (nI co) (nI (ac + 1)) (if day ≤ gr then gr else day) (zuf (zuf (zuf (zEN F (zps (L 14) day ac) ac (nI (j + 1)) kind 0) 8 (upd (F 8) (j + 1) ((F 8 (j + 1)) + 0))) 5 (upd (F 5) (j + 1) kind)) 4 (upd (F 4) (j + 1) place)) (zuf L 14 (zpi (L 14) (zps (L 14) day ac) ac day)) := by rw [eM_212]; exact hJ_209.setI 4 (by decide) rfl _
                                  refine lv_aload_n hx hb dX3_act_293 rfl (lv_at hl 3 rfl) ?_
                                  refine z_get (v := .ref (ar 3)) S kX3 hK hM hJ_213.1 5 (by decide) kw_225 rfl dX3_act_294 ?_
                                  refine lv_iload_n hx hb dX3_act_297 rfl (lv_at hl 4 rfl) ?_
                                  refine lv_iload_n hx hb dX3_act_298 rfl (lv_at hl 5 rfl) ?_
                                  refine lv_if_ne (tgt := 320) hx hb dX3_act_299 (by decide) (fun c_214 => ?_) (fun c_214 => ?_)
                                  · -- 299 jump
                                    refine lv_aload_n hx hb dX3_act_320 rfl (lv_at hl 3 rfl) ?_
                                    refine z_get (v := .ref (ar 3)) S kX3 hK hM hJ_213.1 5 (by decide) kw_225 rfl dX3_act_321 ?_
                                    refine lv_iload_n hx hb dX3_act_324 rfl (lv_at hl 4 rfl) ?_
                                    refine z_iald S hK hM 0 (show M_211 (ar 3) = some (.inl (G.2.2 0, 81, .inl (F 3))) from hJ_213.2.1 3 (by decide)) rfl (zvp81 hj hco) dX3_act_325 ?_
                                    rw [hcl]
                                    refine z_iast S hK hM hS 0 (show M_211 (ar 3) = some (.inl (G.2.2 0, 81, .inl (F 3))) from hJ_213.2.1 3 (by decide)) rfl (zvp81 hj hco) dX3_act_326 (fun H locs hM hS => ?_)
                                    rw [hcl] at hM
                                    obtain ⟨M_215, eM_216⟩ : ∃ z : zMap, z = zu M_211 (ar 3) (.inl ((G.2.2 0), 81, .inl (upd (F 3) (j + 1) (F 3 (j + 1))))) := ⟨_, rfl⟩
                                    replace hM : zM A G M_215 H := by rw [eM_216]; exact hM
                                    have hJ_217 : zJ G M_215 m0 ar 0 (nI co) (nI (ac + 1)) (if day ≤ gr then gr else day) (zuf (zuf (zuf (zuf (zEN F (zps (L 14) day ac) ac (nI (j + 1)) kind 0) 8 (upd (F 8) (j + 1) ((F 8 (j + 1)) + 0))) 5 (upd (F 5) (j + 1) kind)) 4 (upd (F 4) (j + 1) place)) 3 (upd (F 3) (j + 1) (F 3 (j + 1)))) (zuf L 14 (zpi (L 14) (zps (L 14) day ac) ac day)) := by rw [eM_216]; exact hJ_213.setI 3 (by decide) rfl _
                                    refine lv_aload_n hx hb dX3_act_327 rfl (lv_at hl 3 rfl) ?_
                                    refine z_get (v := .ref (ar 7)) S kX3 hK hM hJ_217.1 9 (by decide) kw_229 rfl dX3_act_328 ?_
                                    refine lv_iload_n hx hb dX3_act_331 rfl (lv_at hl 4 rfl) ?_
                                    refine lv_iconst (v := -1) hx hb dX3_act_332 (by decide) ?_
                                    refine z_iast S hK hM hS 0 (show M_215 (ar 7) = some (.inl (G.2.2 0, 81, .inl (F 7))) from hJ_217.2.1 7 (by decide)) rfl (zvp81 hj hco) dX3_act_333 (fun H locs hM hS => ?_)
                                    rw [hcl] at hM
                                    obtain ⟨M_218, eM_219⟩ : ∃ z : zMap, z = zu M_215 (ar 7) (.inl ((G.2.2 0), 81, .inl (upd (F 7) (j + 1) (-1)))) := ⟨_, rfl⟩
                                    replace hM : zM A G M_218 H := by rw [eM_219]; exact hM
                                    have hJ_220 : zJ G M_218 m0 ar 0 (nI co) (nI (ac + 1)) (if day ≤ gr then gr else day) (zuf (zuf (zuf (zuf (zuf (zEN F (zps (L 14) day ac) ac (nI (j + 1)) kind 0) 8 (upd (F 8) (j + 1) ((F 8 (j + 1)) + 0))) 5 (upd (F 5) (j + 1) kind)) 4 (upd (F 4) (j + 1) place)) 3 (upd (F 3) (j + 1) (F 3 (j + 1)))) 7 (upd (F 7) (j + 1) (-1))) (zuf L 14 (zpi (L 14) (zps (L 14) day ac) ac day)) := by rw [eM_219]; exact hJ_217.setI 7 (by decide) rfl _
                                    refine lv_iload_n hx hb dX3_act_334 rfl (lv_at hl 5 rfl) ?_
                                    exact z_iret S hr hlocks hM hS (by unfold zBQ; rw [hz]; dsimp only; rw [if_pos ⟨c_8, c_9, c_10, c_11, fun _ => ⟨zPl_9 c_185 c_186, c_187⟩⟩, zBe_n (Int64.not_lt.mpr c_188)]; rw [if_pos c_194]; rw [if_neg (fun q => q.elim (fun q => q.2 c_196) (fun q => absurd (hk2.symm.trans q.1) (by decide))), if_neg (Int64.not_lt.mpr c_188), zb_f (Int64.not_lt.mpr c_188)]; exact ⟨rfl, by rw [zCF_eq (F0 := zEN F (zps (L 14) day ac) ac (nI (j + 1)) kind 0) (j := j) (kind := kind) (place := place) (fro := F 5 (j + 1)) (if_neg (fun q => c_203 q.1)) (if_pos c_210) (if_neg (fun q => c_214 q.1))]; exact hJ_220⟩) (Nat.le_of_ble_eq_true rfl) (Nat.le_of_ble_eq_true rfl) dX3_act_335
                                  · -- 299 on
                                    exact absurd (c_210.symm.trans c_214) (by decide)
                              · -- 239 on
                                exact absurd (c_195.symm.trans c_203) (by decide)
                            · -- 171 on
                              exact absurd (c_195.symm.trans c_197) (by decide)
                      · -- 140 on
                        rw [zb_0] at c_194
                        refine lv_bipush (v := -2) hx hb dX3_act_143 (by decide) ?_
                        exact z_iret S hr hlocks hM hS (by unfold zBQ; rw [hz]; dsimp only; rw [if_pos ⟨c_8, c_9, c_10, c_11, fun _ => ⟨zPl_9 c_185 c_186, c_187⟩⟩, zBe_n (Int64.not_lt.mpr c_188)]; rw [if_neg c_194]; exact ⟨rfl, hJ_3⟩) (Nat.le_of_ble_eq_true rfl) (Nat.le_of_ble_eq_true rfl) dX3_act_145
                    · -- 73 on
                      rw [lg_cmp_ge] at c_188
                      refine lv_iconst (v := 1) hx hb dX3_act_76 (by decide) ?_
                      refine lv_goto (tgt := 81) hx hb dX3_act_77 (by decide) ?_
                      refine lv_istore (lv' := [(6, .int 1), (0, .ref m0), (1, .int (nI (j + 1))), (2, .int kind), (3, .int place), (4, .long day)]) hx hb dX3_act_81 hl (by decide) rfl (fun ls hl => ?_)
                      refine lv_iload hx hb dX3_act_83 (lv_at hl 0 rfl) ?_
                      refine lv_if_eq (tgt := 98) hx hb dX3_act_85 (by decide) (fun c_221 => absurd c_221 (by decide)) (fun c_221 => ?_)
                      refine lv_aload_n hx hb dX3_act_88 rfl (lv_at hl 1 rfl) ?_
                      refine lv_iload_n hx hb dX3_act_89 rfl (lv_at hl 2 rfl) ?_
                      refine lv_lload hx hb dX3_act_90 (lv_at hl 5 rfl) ?_
                      refine z_callV (As := [.int (nI (j + 1)), .long day]) (rest := []) S (c_X3_last l A G M_1 m0 ar 0 co ac gr F L (nI (j + 1)) day hJ_3 hco (by omega)) ok_X3_last kw_311 kw_313 ks_8 ⟨Nat.le_of_ble_eq_true rfl, Nat.le_of_ble_eq_true rfl⟩ hK hM hS hA hJ_3.1 rfl rfl hl.1 rfl (Nat.le_of_ble_eq_true rfl) dX3_act_92 ⟨Nat.le_of_ble_eq_true rfl, Nat.le_of_ble_eq_true rfl⟩ (fun r_224 M_222 H locs hp_223 hM hS => ?_)
                      obtain ⟨rfl, hM9⟩ := hp_223
                      rw [hM9] at hM
                      refine W.eq (g2 := F0 m 95 ls [.int (nI (zlm (F 11) (L 14) (nI (j + 1)) day ac) - 1)]) rfl ?_
                      rcases hm : zlm (F 11) (L 14) (nI (j + 1)) day ac with _ | z
                      · refine W.eq (g2 := F0 m 95 ls [.int (-1)]) rfl ?_
                        refine lv_goto (tgt := 99) hx hb dX3_act_95 (by decide) ?_
                        refine lv_istore (lv' := [(7, .int (-1)), (6, .int 1), (0, .ref m0), (1, .int (nI (j + 1))), (2, .int kind), (3, .int place), (4, .long day)]) hx hb dX3_act_99 hl (by decide) rfl (fun ls hl => ?_)
                        refine lv_iload hx hb dX3_act_101 (lv_at hl 1 rfl) ?_
                        refine lv_if_ne (tgt := 115) hx hb dX3_act_103 (by decide) (fun c_225 => ?_) (fun c_225 => absurd c_225 (by decide))
                        refine lv_iload hx hb dX3_act_115 (lv_at hl 0 rfl) ?_
                        refine lv_iconst (v := -1) hx hb dX3_act_117 (by decide) ?_
                        refine lv_icmp_ne (tgt := 125) hx hb dX3_act_118 (by decide) (fun c_226 => absurd c_226 (by decide)) (fun c_226 => ?_)
                        refine lv_iconst (v := 3) hx hb dX3_act_121 (by decide) ?_
                        refine lv_goto (tgt := 132) hx hb dX3_act_122 (by decide) ?_
                        refine lv_istore (lv' := [(8, .int 3), (7, .int (-1)), (6, .int 1), (0, .ref m0), (1, .int (nI (j + 1))), (2, .int kind), (3, .int place), (4, .long day)]) hx hb dX3_act_132 hl (by decide) rfl (fun ls hl => ?_)
                        refine lv_iload_n hx hb dX3_act_134 rfl (lv_at hl 5 rfl) ?_
                        refine lv_iload hx hb dX3_act_135 (lv_at hl 0 rfl) ?_
                        refine z_callS (As := [.int kind, .int 3]) (rest := []) S (c_X3_follows l A G M_1 kind 3) ok_X3_follows kw_320 kw_321 ⟨Nat.le_of_ble_eq_true rfl, Nat.le_of_ble_eq_true rfl⟩ hK hM hS hA rfl hl.1 rfl (Nat.le_of_ble_eq_true rfl) dX3_act_137 ⟨Nat.le_of_ble_eq_true rfl, Nat.le_of_ble_eq_true rfl⟩ (fun r_229 M_227 H locs hp_228 hM hS => ?_)
                        obtain ⟨rfl, hM9⟩ := hp_228
                        rw [hM9] at hM
                        refine W.eq (g2 := F0 m 140 ls [.int (zb (zFm kind 3))]) rfl ?_
                        refine lv_if_ne (tgt := 146) hx hb dX3_act_140 (by decide) (fun c_230 => ?_) (fun c_230 => ?_)
                        · -- 140 jump
                          rw [zb_0n] at c_230
                          refine lv_iload_n hx hb dX3_act_146 rfl (lv_at hl 5 rfl) ?_
                          refine lv_iconst (v := 2) hx hb dX3_act_147 (by decide) ?_
                          refine lv_icmp_ne (tgt := 170) hx hb dX3_act_148 (by decide) (fun c_231 => ?_) (fun c_231 => ?_)
                          · -- 148 jump
                            exact absurd c_12 c_231
                          · -- 148 on
                            refine lv_aload_n hx hb dX3_act_151 rfl (lv_at hl 3 rfl) ?_
                            refine z_get (v := .ref (ar 9)) S kX3 hK hM hJ_3.1 11 (by decide) kw_231 rfl dX3_act_152 ?_
                            refine lv_bipush (v := 6) hx hb dX3_act_155 (by decide) ?_
                            refine lv_iload_n hx hb dX3_act_157 rfl (lv_at hl 6 rfl) ?_
                            refine lv_imul hx hb dX3_act_158 ?_
                            refine lv_aload_n hx hb dX3_act_159 rfl (lv_at hl 3 rfl) ?_
                            refine z_get (v := .ref (ar 0)) S kX3 hK hM hJ_3.1 2 (by decide) kw_222 rfl dX3_act_160 ?_
                            refine lv_iload_n hx hb dX3_act_163 rfl (lv_at hl 4 rfl) ?_
                            refine z_iald S hK hM 0 (show M_1 (ar 0) = some (.inl (G.2.2 0, 81, .inl (F 0))) from hJ_3.2.1 0 (by decide)) rfl (zvp81 hj hco) dX3_act_164 ?_
                            rw [hcl]
                            refine lv_iadd hx hb dX3_act_165 ?_
                            refine z_zald S hK hM 1 (show M_1 (ar 9) = some (.inl (G.2.2 1, 60, .inl (F 9))) from hJ_3.2.1 9 (by decide)) rfl (zRi_in6 (zPl_9 c_185 c_186) (hty j hj).1) dX3_act_166 ?_
                            refine lv_if_ne (tgt := 209) hx hb dX3_act_167 (by decide) (fun c_232 => ?_) (fun c_232 => ?_)
                            · -- 167 jump
                              refine lv_bipush (v := -3) hx hb dX3_act_209 (by decide) ?_
                              exact z_iret S hr hlocks hM hS (by unfold zBQ; rw [hz]; dsimp only; rw [if_pos ⟨c_8, c_9, c_10, c_11, fun _ => ⟨zPl_9 c_185 c_186, c_187⟩⟩, zBe_l (Int64.not_le.mp c_188), zms_z hm]; rw [if_pos c_230]; rw [if_pos (Or.inl ⟨hk2, c_232⟩)]; exact ⟨rfl, hJ_3⟩) (Nat.le_of_ble_eq_true rfl) (Nat.le_of_ble_eq_true rfl) dX3_act_211
                            · -- 167 on
                              refine lv_iload_n hx hb dX3_act_170 rfl (lv_at hl 5 rfl) ?_
                              refine lv_if_ne (tgt := 212) hx hb dX3_act_171 (by decide) (fun c_233 => ?_) (fun c_233 => ?_)
                              · -- 171 jump
                                refine lv_aload_n hx hb dX3_act_212 rfl (lv_at hl 3 rfl) ?_
                                refine lv_iload_n hx hb dX3_act_213 rfl (lv_at hl 4 rfl) ?_
                                refine lv_iload_n hx hb dX3_act_214 rfl (lv_at hl 5 rfl) ?_
                                refine lv_iload hx hb dX3_act_215 (lv_at hl 2 rfl) ?_
                                refine lv_lload hx hb dX3_act_217 (lv_at hl 7 rfl) ?_
                                refine z_callV (As := [.int (nI (j + 1)), .int kind, .int 1, .long day]) (rest := []) S (c_X3_enter l A G M_1 m0 ar 0 co ac gr F L (nI (j + 1)) kind 1 day hJ_3 hco (by omega) (Or.inr rfl) hbl) ok_X3_enter kw_323 kw_325 ks_9 ⟨Nat.le_of_ble_eq_true rfl, Nat.le_of_ble_eq_true rfl⟩ hK hM hS hA hJ_3.1 rfl rfl hl.1 rfl (Nat.le_of_ble_eq_true rfl) dX3_act_219 ⟨Nat.le_of_ble_eq_true rfl, Nat.le_of_ble_eq_true rfl⟩ (fun r_236 M_234 H locs hp_235 hM hS => ?_)
                                obtain ⟨rfl, hJ_237⟩ := hp_235
                                refine W.eq (g2 := F0 m 222 ls []) rfl ?_
                                refine lv_iload hx hb dX3_act_222 (lv_at hl 2 rfl) ?_
                                refine lv_if_eq (tgt := 229) hx hb dX3_act_224 (by decide) (fun c_238 => absurd c_238 (by decide)) (fun c_238 => ?_)
                                refine lv_iload_n hx hb dX3_act_227 rfl (lv_at hl 5 rfl) ?_
                                exact z_iret S hr hlocks hM hS (by unfold zBQ; rw [hz]; dsimp only; rw [if_pos ⟨c_8, c_9, c_10, c_11, fun _ => ⟨zPl_9 c_185 c_186, c_187⟩⟩, zBe_l (Int64.not_le.mp c_188), zms_z hm]; rw [if_pos c_230]; rw [if_neg (fun q => q.elim (fun q => q.2 c_232) (fun q => absurd (hk2.symm.trans q.1) (by decide))), if_pos (Int64.not_le.mp c_188), zb_t (Int64.not_le.mp c_188)]; exact ⟨rfl, hJ_237⟩) (Nat.le_of_ble_eq_true rfl) (Nat.le_of_ble_eq_true rfl) dX3_act_228
                              · -- 171 on
                                exact absurd (c_231.symm.trans c_233) (by decide)
                        · -- 140 on
                          rw [zb_0] at c_230
                          refine lv_bipush (v := -2) hx hb dX3_act_143 (by decide) ?_
                          exact z_iret S hr hlocks hM hS (by unfold zBQ; rw [hz]; dsimp only; rw [if_pos ⟨c_8, c_9, c_10, c_11, fun _ => ⟨zPl_9 c_185 c_186, c_187⟩⟩, zBe_l (Int64.not_le.mp c_188), zms_z hm]; rw [if_neg c_230]; exact ⟨rfl, hJ_3⟩) (Nat.le_of_ble_eq_true rfl) (Nat.le_of_ble_eq_true rfl) dX3_act_145
                      · rw [nI_pred]
                        have hza : z < ac := by have h5 := zlm_le (F 11) (L 14) (nI (j + 1)) day ac; omega
                        have hcz : (nI z).toNatClampNeg = z := nI_clamp (by omega)
                        refine lv_goto (tgt := 99) hx hb dX3_act_95 (by decide) ?_
                        refine lv_istore (lv' := [(7, .int (nI z)), (6, .int 1), (0, .ref m0), (1, .int (nI (j + 1))), (2, .int kind), (3, .int place), (4, .long day)]) hx hb dX3_act_99 hl (by decide) rfl (fun ls hl => ?_)
                        refine lv_iload hx hb dX3_act_101 (lv_at hl 1 rfl) ?_
                        refine lv_if_ne (tgt := 115) hx hb dX3_act_103 (by decide) (fun c_239 => ?_) (fun c_239 => absurd c_239 (by decide))
                        refine lv_iload hx hb dX3_act_115 (lv_at hl 0 rfl) ?_
                        refine lv_iconst (v := -1) hx hb dX3_act_117 (by decide) ?_
                        refine lv_icmp_ne (tgt := 125) hx hb dX3_act_118 (by decide) (fun c_240 => ?_) (fun c_240 => ?_)
                        · -- 118 jump
                          refine lv_aload_n hx hb dX3_act_125 rfl (lv_at hl 2 rfl) ?_
                          refine z_get (v := .ref (ar 12)) S kX3 hK hM hJ_3.1 15 (by decide) kw_235 rfl dX3_act_126 ?_
                          refine lv_iload hx hb dX3_act_129 (lv_at hl 0 rfl) ?_
                          refine z_iald S hK hM 0 (show M_1 (ar 12) = some (.inl (G.2.2 0, 5000, .inl (F 12))) from hJ_3.2.1 12 (by decide)) rfl (zvp5 hza hac5) dX3_act_131 ?_
                          rw [hcz]
                          refine lv_istore (lv' := [(8, .int (F 12 z)), (7, .int (nI z)), (6, .int 1), (0, .ref m0), (1, .int (nI (j + 1))), (2, .int kind), (3, .int place), (4, .long day)]) hx hb dX3_act_132 hl (by decide) rfl (fun ls hl => ?_)
                          refine lv_iload_n hx hb dX3_act_134 rfl (lv_at hl 5 rfl) ?_
                          refine lv_iload hx hb dX3_act_135 (lv_at hl 0 rfl) ?_
                          refine z_callS (As := [.int kind, .int (F 12 z)]) (rest := []) S (c_X3_follows l A G M_1 kind (F 12 z)) ok_X3_follows kw_320 kw_321 ⟨Nat.le_of_ble_eq_true rfl, Nat.le_of_ble_eq_true rfl⟩ hK hM hS hA rfl hl.1 rfl (Nat.le_of_ble_eq_true rfl) dX3_act_137 ⟨Nat.le_of_ble_eq_true rfl, Nat.le_of_ble_eq_true rfl⟩ (fun r_243 M_241 H locs hp_242 hM hS => ?_)
                          obtain ⟨rfl, hM9⟩ := hp_242
                          rw [hM9] at hM
                          refine W.eq (g2 := F0 m 140 ls [.int (zb (zFm kind (F 12 z)))]) rfl ?_
                          refine lv_if_ne (tgt := 146) hx hb dX3_act_140 (by decide) (fun c_244 => ?_) (fun c_244 => ?_)
                          · -- 140 jump
                            rw [zb_0n] at c_244
                            refine lv_iload_n hx hb dX3_act_146 rfl (lv_at hl 5 rfl) ?_
                            refine lv_iconst (v := 2) hx hb dX3_act_147 (by decide) ?_
                            refine lv_icmp_ne (tgt := 170) hx hb dX3_act_148 (by decide) (fun c_245 => ?_) (fun c_245 => ?_)
                            · -- 148 jump
                              exact absurd c_12 c_245
                            · -- 148 on
                              refine lv_aload_n hx hb dX3_act_151 rfl (lv_at hl 3 rfl) ?_
                              refine z_get (v := .ref (ar 9)) S kX3 hK hM hJ_3.1 11 (by decide) kw_231 rfl dX3_act_152 ?_
                              refine lv_bipush (v := 6) hx hb dX3_act_155 (by decide) ?_
                              refine lv_iload_n hx hb dX3_act_157 rfl (lv_at hl 6 rfl) ?_
                              refine lv_imul hx hb dX3_act_158 ?_
                              refine lv_aload_n hx hb dX3_act_159 rfl (lv_at hl 3 rfl) ?_
                              refine z_get (v := .ref (ar 0)) S kX3 hK hM hJ_3.1 2 (by decide) kw_222 rfl dX3_act_160 ?_
                              refine lv_iload_n hx hb dX3_act_163 rfl (lv_at hl 4 rfl) ?_
                              refine z_iald S hK hM 0 (show M_1 (ar 0) = some (.inl (G.2.2 0, 81, .inl (F 0))) from hJ_3.2.1 0 (by decide)) rfl (zvp81 hj hco) dX3_act_164 ?_
                              rw [hcl]
                              refine lv_iadd hx hb dX3_act_165 ?_
                              refine z_zald S hK hM 1 (show M_1 (ar 9) = some (.inl (G.2.2 1, 60, .inl (F 9))) from hJ_3.2.1 9 (by decide)) rfl (zRi_in6 (zPl_9 c_185 c_186) (hty j hj).1) dX3_act_166 ?_
                              refine lv_if_ne (tgt := 209) hx hb dX3_act_167 (by decide) (fun c_246 => ?_) (fun c_246 => ?_)
                              · -- 167 jump
                                refine lv_bipush (v := -3) hx hb dX3_act_209 (by decide) ?_
                                exact z_iret S hr hlocks hM hS (by unfold zBQ; rw [hz]; dsimp only; rw [if_pos ⟨c_8, c_9, c_10, c_11, fun _ => ⟨zPl_9 c_185 c_186, c_187⟩⟩, zBe_l (Int64.not_le.mp c_188), zms_s hm]; rw [if_pos c_244]; rw [if_pos (Or.inl ⟨hk2, c_246⟩)]; exact ⟨rfl, hJ_3⟩) (Nat.le_of_ble_eq_true rfl) (Nat.le_of_ble_eq_true rfl) dX3_act_211
                              · -- 167 on
                                refine lv_iload_n hx hb dX3_act_170 rfl (lv_at hl 5 rfl) ?_
                                refine lv_if_ne (tgt := 212) hx hb dX3_act_171 (by decide) (fun c_247 => ?_) (fun c_247 => ?_)
                                · -- 171 jump
                                  refine lv_aload_n hx hb dX3_act_212 rfl (lv_at hl 3 rfl) ?_
                                  refine lv_iload_n hx hb dX3_act_213 rfl (lv_at hl 4 rfl) ?_
                                  refine lv_iload_n hx hb dX3_act_214 rfl (lv_at hl 5 rfl) ?_
                                  refine lv_iload hx hb dX3_act_215 (lv_at hl 2 rfl) ?_
                                  refine lv_lload hx hb dX3_act_217 (lv_at hl 7 rfl) ?_
                                  refine z_callV (As := [.int (nI (j + 1)), .int kind, .int 1, .long day]) (rest := []) S (c_X3_enter l A G M_1 m0 ar 0 co ac gr F L (nI (j + 1)) kind 1 day hJ_3 hco (by omega) (Or.inr rfl) hbl) ok_X3_enter kw_323 kw_325 ks_9 ⟨Nat.le_of_ble_eq_true rfl, Nat.le_of_ble_eq_true rfl⟩ hK hM hS hA hJ_3.1 rfl rfl hl.1 rfl (Nat.le_of_ble_eq_true rfl) dX3_act_219 ⟨Nat.le_of_ble_eq_true rfl, Nat.le_of_ble_eq_true rfl⟩ (fun r_250 M_248 H locs hp_249 hM hS => ?_)
                                  obtain ⟨rfl, hJ_251⟩ := hp_249
                                  refine W.eq (g2 := F0 m 222 ls []) rfl ?_
                                  refine lv_iload hx hb dX3_act_222 (lv_at hl 2 rfl) ?_
                                  refine lv_if_eq (tgt := 229) hx hb dX3_act_224 (by decide) (fun c_252 => absurd c_252 (by decide)) (fun c_252 => ?_)
                                  refine lv_iload_n hx hb dX3_act_227 rfl (lv_at hl 5 rfl) ?_
                                  exact z_iret S hr hlocks hM hS (by unfold zBQ; rw [hz]; dsimp only; rw [if_pos ⟨c_8, c_9, c_10, c_11, fun _ => ⟨zPl_9 c_185 c_186, c_187⟩⟩, zBe_l (Int64.not_le.mp c_188), zms_s hm]; rw [if_pos c_244]; rw [if_neg (fun q => q.elim (fun q => q.2 c_246) (fun q => absurd (hk2.symm.trans q.1) (by decide))), if_pos (Int64.not_le.mp c_188), zb_t (Int64.not_le.mp c_188)]; exact ⟨rfl, hJ_251⟩) (Nat.le_of_ble_eq_true rfl) (Nat.le_of_ble_eq_true rfl) dX3_act_228
                                · -- 171 on
                                  exact absurd (c_245.symm.trans c_247) (by decide)
                          · -- 140 on
                            rw [zb_0] at c_244
                            refine lv_bipush (v := -2) hx hb dX3_act_143 (by decide) ?_
                            exact z_iret S hr hlocks hM hS (by unfold zBQ; rw [hz]; dsimp only; rw [if_pos ⟨c_8, c_9, c_10, c_11, fun _ => ⟨zPl_9 c_185 c_186, c_187⟩⟩, zBe_l (Int64.not_le.mp c_188), zms_s hm]; rw [if_neg c_244]; exact ⟨rfl, hJ_3⟩) (Nat.le_of_ble_eq_true rfl) (Nat.le_of_ble_eq_true rfl) dX3_act_145
                        · -- 118 on
                          exact absurd c_240 (zne1 (by omega))
                  · -- 61 on
                    refine lv_iconst (v := -1) hx hb dX3_act_64 (by decide) ?_
                    exact z_iret S hr hlocks hM hS (by unfold zBQ; rw [hz]; dsimp only; rw [if_neg (fun q => (q.2.2.2.2 hk2).2 c_187)]; exact ⟨rfl, hJ_3⟩) (Nat.le_of_ble_eq_true rfl) (Nat.le_of_ble_eq_true rfl) dX3_act_65
end
section
set_option maxHeartbeats 4000000 in
set_option maxRecDepth 100000 in
theorem c_X3_copy (l : Launch) (A : Nat → Prop) (G : zG) (M : zMap) (m0 : Nat) (ar : Nat → Nat) (th : Int32) (co ac : Nat) (gr : Int64) (F : Nat → Nat → Int32) (L : Nat → Nat → Int64) (ty : Int32) (bc : Int64) (dg hm : Int32) (hJ : zJ G M m0 ar th (nI co) (nI ac) gr F L) (hco : co ≤ 80) : zMet l yX3_copy cX3_copy 7 (some .int) { frames := 1, cells := 0, slots := 0, locals := 40 } [.ref m0, .int ty, .long bc, .int dg, .int hm] A G M (fun r M1 => r = some (.int (zCpr co (cvm F L) (F 9) ty bc dg hm)) ∧ ((¬ (zCk co (cvm F L) ty bc dg hm ∧ zRi (F 9) hm ty) ∧ zJ G M1 m0 ar 0 (nI co) (nI ac) gr F L) ∨ ((zCk co (cvm F L) ty bc dg hm ∧ zRi (F 9) hm ty) ∧ zJ G M1 m0 ar 0 (nI (co + 1)) (nI ac) gr (zNF F co ty dg hm) (zuf L 1 (vp_updL (L 1) (co + 1) bc))))) := by
  refine zMet.of (by decide) (Nat.le_of_ble_eq_true rfl) ?_
  intro p e s m args below meth c ls S hr hlocks hnm hK hM hA hS hl
  have hl : lv_has ls 7 [(0, .ref m0), (1, .int ty), (2, .long bc), (4, .int dg), (5, .int hm)] := hl
  have hx := S.1
  have hb := S.2.1
  have hown := S.2.2.2.1
  have hts := S.2.2.2.2
  have hr : meth.sig.returnType = some .int := hr
  refine lv_aload_n hx hb dX3_copy_0 rfl (lv_at hl 0 rfl) ?_
  refine lv_iconst (v := 0) hx hb dX3_copy_1 (by decide) ?_
  refine z_put S kX3 hK hM hS hJ.1 0 (by decide) kw_220 rfl rfl rfl (Nat.le_of_ble_eq_true rfl) dX3_copy_2 (fun H locs hM hS => ?_)
  obtain ⟨M_1, eM_2⟩ : ∃ z : zMap, z = zu M m0 (oM 0 (nI co) ar (nI ac) gr) := ⟨_, rfl⟩
  replace hM : zM A G M_1 H := by rw [eM_2]; exact hM
  have hJ_3 : zJ G M_1 m0 ar 0 (nI co) (nI ac) gr F L := by rw [eM_2]; exact hJ.setO _ _ _ _
  refine lv_iload_n hx hb dX3_copy_5 rfl (lv_at hl 1 rfl) ?_
  refine lv_if_lt (tgt := 75) hx hb dX3_copy_6 (by decide) (fun c_4 => ?_) (fun c_4 => ?_)
  · -- 6 jump
    refine lv_iconst (v := -1) hx hb dX3_copy_75 (by decide) ?_
    exact z_iret S hr hlocks hM hS ⟨by unfold zCpr; rw [if_neg (fun q => q.1.1.1 c_4)], Or.inl ⟨fun q => (fun q => q.1.1.1 c_4) q.1, hJ_3⟩⟩ (Nat.le_of_ble_eq_true rfl) (Nat.le_of_ble_eq_true rfl) dX3_copy_76
  · -- 6 on
    refine lv_iload_n hx hb dX3_copy_9 rfl (lv_at hl 1 rfl) ?_
    refine lv_iconst (v := 5) hx hb dX3_copy_10 (by decide) ?_
    refine lv_icmp_gt (tgt := 75) hx hb dX3_copy_11 (by decide) (fun c_5 => ?_) (fun c_5 => ?_)
    · -- 11 jump
      refine lv_iconst (v := -1) hx hb dX3_copy_75 (by decide) ?_
      exact z_iret S hr hlocks hM hS ⟨by unfold zCpr; rw [if_neg (fun q => q.1.1.2 (gt5 c_5))], Or.inl ⟨fun q => (fun q => q.1.1.2 (gt5 c_5)) q.1, hJ_3⟩⟩ (Nat.le_of_ble_eq_true rfl) (Nat.le_of_ble_eq_true rfl) dX3_copy_76
    · -- 11 on
      refine lv_iload hx hb dX3_copy_14 (lv_at hl 4 rfl) ?_
      refine lv_if_lt (tgt := 75) hx hb dX3_copy_16 (by decide) (fun c_6 => ?_) (fun c_6 => ?_)
      · -- 16 jump
        refine lv_iconst (v := -1) hx hb dX3_copy_75 (by decide) ?_
        exact z_iret S hr hlocks hM hS ⟨by unfold zCpr; rw [if_neg (fun q => q.1.2.1.1 c_6)], Or.inl ⟨fun q => (fun q => q.1.2.1.1 c_6) q.1, hJ_3⟩⟩ (Nat.le_of_ble_eq_true rfl) (Nat.le_of_ble_eq_true rfl) dX3_copy_76
      · -- 16 on
        refine lv_iload hx hb dX3_copy_19 (lv_at hl 4 rfl) ?_
        refine lv_bipush (v := 9) hx hb dX3_copy_21 (by decide) ?_
        refine lv_icmp_gt (tgt := 75) hx hb dX3_copy_23 (by decide) (fun c_7 => ?_) (fun c_7 => ?_)
        · -- 23 jump
          refine lv_iconst (v := -1) hx hb dX3_copy_75 (by decide) ?_
          exact z_iret S hr hlocks hM hS ⟨by unfold zCpr; rw [if_neg (fun q => q.1.2.1.2 (gt9 c_7))], Or.inl ⟨fun q => (fun q => q.1.2.1.2 (gt9 c_7)) q.1, hJ_3⟩⟩ (Nat.le_of_ble_eq_true rfl) (Nat.le_of_ble_eq_true rfl) dX3_copy_76
        · -- 23 on
          refine lv_iload hx hb dX3_copy_26 (lv_at hl 3 rfl) ?_
          refine lv_iconst (v := 1) hx hb dX3_copy_28 (by decide) ?_
          refine lv_icmp_lt (tgt := 75) hx hb dX3_copy_29 (by decide) (fun c_8 => ?_) (fun c_8 => ?_)
          · -- 29 jump
            refine lv_iconst (v := -1) hx hb dX3_copy_75 (by decide) ?_
            exact z_iret S hr hlocks hM hS ⟨by unfold zCpr; rw [if_neg (fun q => zBc_dig (Or.inl c_8) q.2.1)], Or.inl ⟨fun q => (fun q => zBc_dig (Or.inl c_8) q.2.1) q.1, hJ_3⟩⟩ (Nat.le_of_ble_eq_true rfl) (Nat.le_of_ble_eq_true rfl) dX3_copy_76
          · -- 29 on
            refine lv_iload hx hb dX3_copy_32 (lv_at hl 3 rfl) ?_
            refine lv_bipush (v := 12) hx hb dX3_copy_34 (by decide) ?_
            refine lv_icmp_gt (tgt := 75) hx hb dX3_copy_36 (by decide) (fun c_9 => ?_) (fun c_9 => ?_)
            · -- 36 jump
              refine lv_iconst (v := -1) hx hb dX3_copy_75 (by decide) ?_
              exact z_iret S hr hlocks hM hS ⟨by unfold zCpr; rw [if_neg (fun q => zBc_dig (Or.inr c_9) q.2.1)], Or.inl ⟨fun q => (fun q => zBc_dig (Or.inr c_9) q.2.1) q.1, hJ_3⟩⟩ (Nat.le_of_ble_eq_true rfl) (Nat.le_of_ble_eq_true rfl) dX3_copy_76
            · -- 36 on
              refine lv_lload_n hx hb dX3_copy_39 rfl (lv_at hl 2 rfl) ?_
              refine lv_lconst (v := 0) hx hb dX3_copy_40 (by decide) ?_
              refine W.lcmp hx hb dX3_copy_41 ?_
              refine lv_if_lt (tgt := 75) hx hb dX3_copy_42 (by decide) (fun c_10 => ?_) (fun c_10 => ?_)
              · -- 42 jump
                rw [lg_cmp_lt] at c_10
                refine lv_iconst (v := -1) hx hb dX3_copy_75 (by decide) ?_
                exact z_iret S hr hlocks hM hS ⟨by unfold zCpr; rw [if_neg (fun q => q.2.1.1 c_10)], Or.inl ⟨fun q => (fun q => q.2.1.1 c_10) q.1, hJ_3⟩⟩ (Nat.le_of_ble_eq_true rfl) (Nat.le_of_ble_eq_true rfl) dX3_copy_76
              · -- 42 on
                rw [lg_cmp_lt] at c_10
                obtain ⟨K, hK1, hK2, rfl⟩ := z112 c_8 (Int32.not_lt.mp c_9)
                obtain ⟨a, ha, rfl⟩ := pk_lOf c_10
                have ha10 : a / 10 < 2 ^ 63 := Nat.lt_of_le_of_lt (Nat.div_le_self _ _) ha
                refine lv_lload_n hx hb dX3_copy_45 rfl (lv_at hl 2 rfl) ?_
                refine lv_iload hx hb dX3_copy_46 (lv_at hl 3 rfl) ?_
                refine lv_iconst (v := 1) hx hb dX3_copy_48 (by decide) ?_
                refine lv_iadd hx hb dX3_copy_49 ?_
                rw [nI_1]
                refine z_callS (As := [.int (nI (K + 1))]) (rest := [.long (lN a)]) S (c_X3_ten l A G M_1 (K + 1) (by omega)) ok_X3_ten kw_283 kw_284 ⟨Nat.le_of_ble_eq_true rfl, Nat.le_of_ble_eq_true rfl⟩ hK hM hS hA rfl hl.1 rfl (Nat.le_of_ble_eq_true rfl) dX3_copy_50 ⟨Nat.le_of_ble_eq_true rfl, Nat.le_of_ble_eq_true rfl⟩ (fun r_13 M_11 H locs hp_12 hM hS => ?_)
                obtain ⟨rfl, hM9⟩ := hp_12
                rw [hM9] at hM
                refine W.eq (g2 := F0 m 53 ls [.long (zten (K + 1)), .long (lN a)]) rfl ?_
                refine W.lcmp hx hb dX3_copy_53 ?_
                refine lv_if_ge (tgt := 75) hx hb dX3_copy_54 (by decide) (fun c_14 => ?_) (fun c_14 => ?_)
                · -- 54 jump
                  rw [lg_cmp_ge] at c_14
                  refine lv_iconst (v := -1) hx hb dX3_copy_75 (by decide) ?_
                  exact z_iret S hr hlocks hM hS ⟨by unfold zCpr; rw [if_neg (fun q => zBc_big ha hK1 hK2 c_14 q.2.1)], Or.inl ⟨fun q => (fun q => zBc_big ha hK1 hK2 c_14 q.2.1) q.1, hJ_3⟩⟩ (Nat.le_of_ble_eq_true rfl) (Nat.le_of_ble_eq_true rfl) dX3_copy_76
                · -- 54 on
                  rw [lg_cmp_ge] at c_14
                  refine lv_lload_n hx hb dX3_copy_57 rfl (lv_at hl 2 rfl) ?_
                  refine lv_ldc2 (v := 10) hx hb hown (hts _ kw_286) dX3_copy_58 ?_
                  refine lv_ldiv hx hb dX3_copy_61 (by decide) ?_
                  rw [zdiv10 ha]
                  refine z_callS (As := [.long (lN (a / 10))]) (rest := []) S (c_X3_sign l A G M_1 (a / 10) ha10) ok_X3_sign kw_287 kw_288 ⟨Nat.le_of_ble_eq_true rfl, Nat.le_of_ble_eq_true rfl⟩ hK hM hS hA rfl hl.1 rfl (Nat.le_of_ble_eq_true rfl) dX3_copy_62 ⟨Nat.le_of_ble_eq_true rfl, Nat.le_of_ble_eq_true rfl⟩ (fun r_17 M_15 H locs hp_16 hM hS => ?_)
                  obtain ⟨K0, hK0, rfl, hM9⟩ := hp_16
                  rw [hM9] at hM
                  refine W.eq (g2 := F0 m 65 ls [.int (zrm (10 - zrm (zsS (lN (a / 10)) K0) 10) 10)]) rfl ?_
                  refine lv_i2l (v := (zrm (10 - zrm (zsS (lN (a / 10)) K0) 10) 10).toInt64) hx hb dX3_copy_65 rfl ?_
                  refine lv_lload_n hx hb dX3_copy_66 rfl (lv_at hl 2 rfl) ?_
                  refine lv_ldc2 (v := 10) hx hb hown (hts _ kw_286) dX3_copy_67 ?_
                  refine lv_lrem hx hb dX3_copy_70 (by decide) ?_
                  refine W.lcmp hx hb dX3_copy_71 ?_
                  refine lv_if_eq (tgt := 77) hx hb dX3_copy_72 (by decide) (fun c_18 => ?_) (fun c_18 => ?_)
                  · -- 72 jump
                    rw [lg_cmp_eq] at c_18
                    refine lv_iconst (v := 1) hx hb dX3_copy_77 (by decide) ?_
                    refine lv_istore (lv' := [(6, .int 1), (0, .ref m0), (1, .int ty), (2, .long (lN a)), (4, .int (nI K)), (5, .int hm)]) hx hb dX3_copy_78 hl (by decide) rfl (fun ls hl => ?_)
                    refine z_loop (fun (t : Nat) ls H' locs' => t ≤ co ∧ lv_has ls 7 [(6, .int (nI (t + 1))), (0, .ref m0), (1, .int ty), (2, .long (lN a)), (4, .int (nI K)), (5, .int hm)] ∧ (∀ i, i < t → ¬ (L 1 (i + 1) = lN a ∧ F 2 (i + 1) = nI K)) ∧ zM A G M_1 H' ∧ va_S A s.heap H' locs') (fun t => co - t) 0 ⟨Nat.zero_le _, hl, fun i hi => absurd hi (Nat.not_lt_zero i), hM, hS⟩ ?_
                    rintro t ls H locs ⟨htN0, hl, hno, hM, hS⟩ ih
                    have hct : (nI (t + 1)).toNatClampNeg = t + 1 := nI_clamp (by omega)
                    refine lv_iload hx hb dX3_copy_80 (lv_at hl 0 rfl) ?_
                    refine lv_aload_n hx hb dX3_copy_82 rfl (lv_at hl 1 rfl) ?_
                    refine z_get (v := .int (nI co)) S kX3 hK hM hJ_3.1 1 (by decide) kw_221 rfl dX3_copy_83 ?_
                    refine lv_icmp_gt (tgt := 121) hx hb dX3_copy_86 (by decide) (fun c_19 => ?_) (fun c_19 => ?_)
                    · -- 86 jump
                      have htN : t = co := by have := (nI_ltI (by omega) (by omega)).mp c_19; omega
                      refine lv_aload_n hx hb dX3_copy_121 rfl (lv_at hl 1 rfl) ?_
                      refine z_get (v := .int (nI co)) S kX3 hK hM hJ_3.1 1 (by decide) kw_221 rfl dX3_copy_122 ?_
                      refine lv_bipush (v := 80) hx hb dX3_copy_125 (by decide) ?_
                      refine lv_icmp_ne (tgt := 132) hx hb dX3_copy_127 (by decide) (fun c_20 => ?_) (fun c_20 => ?_)
                      · -- 127 jump
                        have hc80 : co < 80 := Nat.lt_of_le_of_ne hco (fun q => c_20 (by rw [q]; rfl))
                        have hcc : (nI co + 1).toNatClampNeg = co + 1 := by rw [nI_1]; exact nI_clamp (by omega)
                        have hvc : vp_in (nI co + 1) 81 := by rw [nI_1]; exact vp_in_nI (by omega) (by decide)
                        have hn80 : nI co < (80 : Int32) := nI_lt (a := co) (b := 80) hc80 (by decide)
                        refine lv_aload_n hx hb dX3_copy_132 rfl (lv_at hl 1 rfl) ?_
                        refine z_get (v := .ref (ar 9)) S kX3 hK hM hJ_3.1 11 (by decide) kw_231 rfl dX3_copy_133 ?_
                        refine lv_bipush (v := 6) hx hb dX3_copy_136 (by decide) ?_
                        refine lv_iload hx hb dX3_copy_138 (lv_at hl 5 rfl) ?_
                        refine lv_imul hx hb dX3_copy_140 ?_
                        refine lv_iload_n hx hb dX3_copy_141 rfl (lv_at hl 2 rfl) ?_
                        refine lv_iadd hx hb dX3_copy_142 ?_
                        refine z_zald S hK hM 1 (show M_1 (ar 9) = some (.inl (G.2.2 1, 60, .inl (F 9))) from hJ_3.2.1 9 (by decide)) rfl (zRi_in6 (zPl_9 c_6 c_7) (zTy_g5 c_4 c_5)) dX3_copy_143 ?_
                        refine lv_if_eq (tgt := 150) hx hb dX3_copy_144 (by decide) (fun c_21 => ?_) (fun c_21 => ?_)
                        · -- 144 jump
                          refine lv_aload_n hx hb dX3_copy_150 rfl (lv_at hl 1 rfl) ?_
                          refine lv_dup hx hb dX3_copy_151 rfl ?_
                          refine z_get (v := .int (nI co)) S kX3 hK hM hJ_3.1 1 (by decide) kw_221 rfl dX3_copy_152 ?_
                          refine lv_iconst (v := 1) hx hb dX3_copy_155 (by decide) ?_
                          refine lv_iadd hx hb dX3_copy_156 ?_
                          refine z_put S kX3 hK hM hS hJ_3.1 1 (by decide) kw_221 rfl rfl rfl (Nat.le_of_ble_eq_true rfl) dX3_copy_157 (fun H locs hM hS => ?_)
                          obtain ⟨M_22, eM_23⟩ : ∃ z : zMap, z = zu M_1 m0 (oM 0 ((nI co) + 1) ar (nI ac) gr) := ⟨_, rfl⟩
                          replace hM : zM A G M_22 H := by rw [eM_23]; exact hM
                          have hJ_24 : zJ G M_22 m0 ar 0 ((nI co) + 1) (nI ac) gr F L := by rw [eM_23]; exact hJ_3.setO _ _ _ _
                          refine lv_aload_n hx hb dX3_copy_160 rfl (lv_at hl 1 rfl) ?_
                          refine z_get (v := .ref (ar 0)) S kX3 hK hM hJ_24.1 2 (by decide) kw_222 rfl dX3_copy_161 ?_
                          refine lv_aload_n hx hb dX3_copy_164 rfl (lv_at hl 1 rfl) ?_
                          refine z_get (v := .int ((nI co) + 1)) S kX3 hK hM hJ_24.1 1 (by decide) kw_221 rfl dX3_copy_165 ?_
                          refine lv_iload_n hx hb dX3_copy_168 rfl (lv_at hl 2 rfl) ?_
                          refine z_iast S hK hM hS 0 (show M_22 (ar 0) = some (.inl (G.2.2 0, 81, .inl (F 0))) from hJ_24.2.1 0 (by decide)) rfl hvc dX3_copy_169 (fun H locs hM hS => ?_)
                          rw [hcc] at hM
                          obtain ⟨M_25, eM_26⟩ : ∃ z : zMap, z = zu M_22 (ar 0) (.inl ((G.2.2 0), 81, .inl (upd (F 0) (co + 1) ty))) := ⟨_, rfl⟩
                          replace hM : zM A G M_25 H := by rw [eM_26]; exact hM
                          have hJ_27 : zJ G M_25 m0 ar 0 ((nI co) + 1) (nI ac) gr (zuf F 0 (upd (F 0) (co + 1) ty)) L := by rw [eM_26]; exact hJ_24.setI 0 (by decide) rfl _
                          refine lv_aload_n hx hb dX3_copy_170 rfl (lv_at hl 1 rfl) ?_
                          refine z_get (v := .ref (ar 1)) S kX3 hK hM hJ_27.1 3 (by decide) kw_223 rfl dX3_copy_171 ?_
                          refine lv_aload_n hx hb dX3_copy_174 rfl (lv_at hl 1 rfl) ?_
                          refine z_get (v := .int ((nI co) + 1)) S kX3 hK hM hJ_27.1 1 (by decide) kw_221 rfl dX3_copy_175 ?_
                          refine lv_lload_n hx hb dX3_copy_178 rfl (lv_at hl 3 rfl) ?_
                          refine z_last S hK hM hS 3 (show M_25 (ar 1) = some (.inl (G.2.2 3, 81, .inr (.inl (L 1)))) from hJ_27.2.1 1 (by decide)) rfl hvc dX3_copy_179 (fun H locs hM hS => ?_)
                          rw [hcc] at hM
                          obtain ⟨M_28, eM_29⟩ : ∃ z : zMap, z = zu M_25 (ar 1) (.inl ((G.2.2 3), 81, .inr (.inl (vp_updL (L 1) (co + 1) (lN a))))) := ⟨_, rfl⟩
                          replace hM : zM A G M_28 H := by rw [eM_29]; exact hM
                          have hJ_30 : zJ G M_28 m0 ar 0 ((nI co) + 1) (nI ac) gr (zuf F 0 (upd (F 0) (co + 1) ty)) (zuf L 1 (vp_updL (L 1) (co + 1) (lN a))) := by rw [eM_29]; exact hJ_27.setL 1 (by decide) rfl _
                          refine lv_aload_n hx hb dX3_copy_180 rfl (lv_at hl 1 rfl) ?_
                          refine z_get (v := .ref (ar 2)) S kX3 hK hM hJ_30.1 4 (by decide) kw_224 rfl dX3_copy_181 ?_
                          refine lv_aload_n hx hb dX3_copy_184 rfl (lv_at hl 1 rfl) ?_
                          refine z_get (v := .int ((nI co) + 1)) S kX3 hK hM hJ_30.1 1 (by decide) kw_221 rfl dX3_copy_185 ?_
                          refine lv_iload hx hb dX3_copy_188 (lv_at hl 4 rfl) ?_
                          refine z_iast S hK hM hS 0 (show M_28 (ar 2) = some (.inl (G.2.2 0, 81, .inl (F 2))) from hJ_30.2.1 2 (by decide)) rfl hvc dX3_copy_190 (fun H locs hM hS => ?_)
                          rw [hcc] at hM
                          obtain ⟨M_31, eM_32⟩ : ∃ z : zMap, z = zu M_28 (ar 2) (.inl ((G.2.2 0), 81, .inl (upd (F 2) (co + 1) (nI K)))) := ⟨_, rfl⟩
                          replace hM : zM A G M_31 H := by rw [eM_32]; exact hM
                          have hJ_33 : zJ G M_31 m0 ar 0 ((nI co) + 1) (nI ac) gr (zuf (zuf F 0 (upd (F 0) (co + 1) ty)) 2 (upd (F 2) (co + 1) (nI K))) (zuf L 1 (vp_updL (L 1) (co + 1) (lN a))) := by rw [eM_32]; exact hJ_30.setI 2 (by decide) rfl _
                          refine lv_aload_n hx hb dX3_copy_191 rfl (lv_at hl 1 rfl) ?_
                          refine z_get (v := .ref (ar 3)) S kX3 hK hM hJ_33.1 5 (by decide) kw_225 rfl dX3_copy_192 ?_
                          refine lv_aload_n hx hb dX3_copy_195 rfl (lv_at hl 1 rfl) ?_
                          refine z_get (v := .int ((nI co) + 1)) S kX3 hK hM hJ_33.1 1 (by decide) kw_221 rfl dX3_copy_196 ?_
                          refine lv_iload hx hb dX3_copy_199 (lv_at hl 5 rfl) ?_
                          refine z_iast S hK hM hS 0 (show M_31 (ar 3) = some (.inl (G.2.2 0, 81, .inl (F 3))) from hJ_33.2.1 3 (by decide)) rfl hvc dX3_copy_201 (fun H locs hM hS => ?_)
                          rw [hcc] at hM
                          obtain ⟨M_34, eM_35⟩ : ∃ z : zMap, z = zu M_31 (ar 3) (.inl ((G.2.2 0), 81, .inl (upd (F 3) (co + 1) hm))) := ⟨_, rfl⟩
                          replace hM : zM A G M_34 H := by rw [eM_35]; exact hM
                          have hJ_36 : zJ G M_34 m0 ar 0 ((nI co) + 1) (nI ac) gr (zuf (zuf (zuf F 0 (upd (F 0) (co + 1) ty)) 2 (upd (F 2) (co + 1) (nI K))) 3 (upd (F 3) (co + 1) hm)) (zuf L 1 (vp_updL (L 1) (co + 1) (lN a))) := by rw [eM_35]; exact hJ_33.setI 3 (by decide) rfl _
                          refine lv_aload_n hx hb dX3_copy_202 rfl (lv_at hl 1 rfl) ?_
                          refine z_get (v := .ref (ar 4)) S kX3 hK hM hJ_36.1 6 (by decide) kw_226 rfl dX3_copy_203 ?_
                          refine lv_aload_n hx hb dX3_copy_206 rfl (lv_at hl 1 rfl) ?_
                          refine z_get (v := .int ((nI co) + 1)) S kX3 hK hM hJ_36.1 1 (by decide) kw_221 rfl dX3_copy_207 ?_
                          refine lv_iload hx hb dX3_copy_210 (lv_at hl 5 rfl) ?_
                          refine z_iast S hK hM hS 0 (show M_34 (ar 4) = some (.inl (G.2.2 0, 81, .inl (F 4))) from hJ_36.2.1 4 (by decide)) rfl hvc dX3_copy_212 (fun H locs hM hS => ?_)
                          rw [hcc] at hM
                          obtain ⟨M_37, eM_38⟩ : ∃ z : zMap, z = zu M_34 (ar 4) (.inl ((G.2.2 0), 81, .inl (upd (F 4) (co + 1) hm))) := ⟨_, rfl⟩
                          replace hM : zM A G M_37 H := by rw [eM_38]; exact hM
                          have hJ_39 : zJ G M_37 m0 ar 0 ((nI co) + 1) (nI ac) gr (zuf (zuf (zuf (zuf F 0 (upd (F 0) (co + 1) ty)) 2 (upd (F 2) (co + 1) (nI K))) 3 (upd (F 3) (co + 1) hm)) 4 (upd (F 4) (co + 1) hm)) (zuf L 1 (vp_updL (L 1) (co + 1) (lN a))) := by rw [eM_38]; exact hJ_36.setI 4 (by decide) rfl _
                          refine lv_aload_n hx hb dX3_copy_213 rfl (lv_at hl 1 rfl) ?_
                          refine z_get (v := .ref (ar 5)) S kX3 hK hM hJ_39.1 7 (by decide) kw_227 rfl dX3_copy_214 ?_
                          refine lv_aload_n hx hb dX3_copy_217 rfl (lv_at hl 1 rfl) ?_
                          refine z_get (v := .int ((nI co) + 1)) S kX3 hK hM hJ_39.1 1 (by decide) kw_221 rfl dX3_copy_218 ?_
                          refine lv_iconst (v := 3) hx hb dX3_copy_221 (by decide) ?_
                          refine z_iast S hK hM hS 0 (show M_37 (ar 5) = some (.inl (G.2.2 0, 81, .inl (F 5))) from hJ_39.2.1 5 (by decide)) rfl hvc dX3_copy_222 (fun H locs hM hS => ?_)
                          rw [hcc] at hM
                          obtain ⟨M_40, eM_41⟩ : ∃ z : zMap, z = zu M_37 (ar 5) (.inl ((G.2.2 0), 81, .inl (upd (F 5) (co + 1) 3))) := ⟨_, rfl⟩
                          replace hM : zM A G M_40 H := by rw [eM_41]; exact hM
                          have hJ_42 : zJ G M_40 m0 ar 0 ((nI co) + 1) (nI ac) gr (zuf (zuf (zuf (zuf (zuf F 0 (upd (F 0) (co + 1) ty)) 2 (upd (F 2) (co + 1) (nI K))) 3 (upd (F 3) (co + 1) hm)) 4 (upd (F 4) (co + 1) hm)) 5 (upd (F 5) (co + 1) 3)) (zuf L 1 (vp_updL (L 1) (co + 1) (lN a))) := by rw [eM_41]; exact hJ_39.setI 5 (by decide) rfl _
                          refine lv_aload_n hx hb dX3_copy_223 rfl (lv_at hl 1 rfl) ?_
                          refine z_get (v := .ref (ar 7)) S kX3 hK hM hJ_42.1 9 (by decide) kw_229 rfl dX3_copy_224 ?_
                          refine lv_aload_n hx hb dX3_copy_227 rfl (lv_at hl 1 rfl) ?_
                          refine z_get (v := .int ((nI co) + 1)) S kX3 hK hM hJ_42.1 1 (by decide) kw_221 rfl dX3_copy_228 ?_
                          refine lv_iconst (v := -1) hx hb dX3_copy_231 (by decide) ?_
                          refine z_iast S hK hM hS 0 (show M_40 (ar 7) = some (.inl (G.2.2 0, 81, .inl (F 7))) from hJ_42.2.1 7 (by decide)) rfl hvc dX3_copy_232 (fun H locs hM hS => ?_)
                          rw [hcc] at hM
                          obtain ⟨M_43, eM_44⟩ : ∃ z : zMap, z = zu M_40 (ar 7) (.inl ((G.2.2 0), 81, .inl (upd (F 7) (co + 1) (-1)))) := ⟨_, rfl⟩
                          replace hM : zM A G M_43 H := by rw [eM_44]; exact hM
                          have hJ_45 : zJ G M_43 m0 ar 0 ((nI co) + 1) (nI ac) gr (zuf (zuf (zuf (zuf (zuf (zuf F 0 (upd (F 0) (co + 1) ty)) 2 (upd (F 2) (co + 1) (nI K))) 3 (upd (F 3) (co + 1) hm)) 4 (upd (F 4) (co + 1) hm)) 5 (upd (F 5) (co + 1) 3)) 7 (upd (F 7) (co + 1) (-1))) (zuf L 1 (vp_updL (L 1) (co + 1) (lN a))) := by rw [eM_44]; exact hJ_42.setI 7 (by decide) rfl _
                          refine lv_aload_n hx hb dX3_copy_233 rfl (lv_at hl 1 rfl) ?_
                          refine z_get (v := .int ((nI co) + 1)) S kX3 hK hM hJ_45.1 1 (by decide) kw_221 rfl dX3_copy_234 ?_
                          exact z_iret S hr hlocks hM hS ⟨by unfold zCpr; rw [if_pos ⟨⟨zTy_g5 c_4 c_5, zPl_9 c_6 c_7, hn80⟩, (zBc_sg ha hK1 hK2 c_14 hK0).mp c_18, fun q => by obtain ⟨i, hi, hm⟩ := q; exact hno i (by omega) hm⟩, if_pos ⟨zPl_9 c_6 c_7, zTy_g5 c_4 c_5, by rw [zix6]; exact c_21⟩, nI_1], Or.inr ⟨⟨⟨⟨zTy_g5 c_4 c_5, zPl_9 c_6 c_7, hn80⟩, (zBc_sg ha hK1 hK2 c_14 hK0).mp c_18, fun q => by obtain ⟨i, hi, hm⟩ := q; exact hno i (by omega) hm⟩, ⟨zPl_9 c_6 c_7, zTy_g5 c_4 c_5, by rw [zix6]; exact c_21⟩⟩, by have h8 := hJ_45; rw [nI_1] at h8; exact h8⟩⟩ (Nat.le_of_ble_eq_true rfl) (Nat.le_of_ble_eq_true rfl) dX3_copy_237
                        · -- 144 on
                          refine lv_bipush (v := -3) hx hb dX3_copy_147 (by decide) ?_
                          exact z_iret S hr hlocks hM hS ⟨by unfold zCpr; rw [if_pos ⟨⟨zTy_g5 c_4 c_5, zPl_9 c_6 c_7, hn80⟩, (zBc_sg ha hK1 hK2 c_14 hK0).mp c_18, fun q => by obtain ⟨i, hi, hm⟩ := q; exact hno i (by omega) hm⟩, if_neg (fun q => c_21 (by have h8 := q.2.2; rw [zix6] at h8; exact h8))], Or.inl ⟨fun q => c_21 (by have h8 := q.2.2.2; rw [zix6] at h8; exact h8), hJ_3⟩⟩ (Nat.le_of_ble_eq_true rfl) (Nat.le_of_ble_eq_true rfl) dX3_copy_149
                      · -- 127 on
                        refine lv_iconst (v := -1) hx hb dX3_copy_130 (by decide) ?_
                        exact z_iret S hr hlocks hM hS ⟨by unfold zCpr; rw [if_neg (fun q => absurd (show nI co = 80 from c_20) (fun z => by have h8 := q.1.2.2; rw [z] at h8; exact absurd h8 (by decide)))], Or.inl ⟨fun q => (fun q => absurd (show nI co = 80 from c_20) (fun z => by have h8 := q.1.2.2; rw [z] at h8; exact absurd h8 (by decide))) q.1, hJ_3⟩⟩ (Nat.le_of_ble_eq_true rfl) (Nat.le_of_ble_eq_true rfl) dX3_copy_131
                    · -- 86 on
                      have ht : t < co := Nat.lt_of_not_le (fun q => c_19 ((nI_ltI (by omega) (by omega)).mpr (by omega)))
                      refine lv_aload_n hx hb dX3_copy_89 rfl (lv_at hl 1 rfl) ?_
                      refine z_get (v := .ref (ar 1)) S kX3 hK hM hJ_3.1 3 (by decide) kw_223 rfl dX3_copy_90 ?_
                      refine lv_iload hx hb dX3_copy_93 (lv_at hl 0 rfl) ?_
                      refine z_lald S hK hM 3 (show M_1 (ar 1) = some (.inl (G.2.2 3, 81, .inr (.inl (L 1)))) from hJ_3.2.1 1 (by decide)) rfl (zvp81 ht hco) dX3_copy_95 ?_
                      rw [hct]
                      refine lv_lload_n hx hb dX3_copy_96 rfl (lv_at hl 3 rfl) ?_
                      refine W.lcmp hx hb dX3_copy_97 ?_
                      refine lv_if_ne (tgt := 115) hx hb dX3_copy_98 (by decide) (fun c_46 => ?_) (fun c_46 => ?_)
                      · -- 98 jump
                        rw [lg_cmp_eq] at c_46
                        refine lv_iinc (v := (nI (t + 1)) + 1) (lv' := [(6, .int ((nI (t + 1)) + 1)), (0, .ref m0), (1, .int ty), (2, .long (lN a)), (4, .int (nI K)), (5, .int hm)]) hx hb dX3_copy_115 hl (k := 0) rfl rfl (by decide) rfl (fun ls hl => ?_)
                        refine lv_goto (tgt := 80) hx hb dX3_copy_118 (by decide) ?_
                        exact ih (t + 1) ls _ _ ⟨by omega, by
                          have h7 := lv_sub hl [0, 1, 2, 3, 4, 5] rfl
                          rw [nI_1] at h7
                          exact h7, fun i hi hm => by
                            rcases Nat.lt_succ_iff_lt_or_eq.mp hi with h6 | h6
                            · exact hno i h6 hm
                            · subst h6; exact c_46 hm.1, hM, hS⟩ (by omega)
                      · -- 98 on
                        rw [lg_cmp_eq] at c_46
                        refine lv_aload_n hx hb dX3_copy_101 rfl (lv_at hl 1 rfl) ?_
                        refine z_get (v := .ref (ar 2)) S kX3 hK hM hJ_3.1 4 (by decide) kw_224 rfl dX3_copy_102 ?_
                        refine lv_iload hx hb dX3_copy_105 (lv_at hl 0 rfl) ?_
                        refine z_iald S hK hM 0 (show M_1 (ar 2) = some (.inl (G.2.2 0, 81, .inl (F 2))) from hJ_3.2.1 2 (by decide)) rfl (zvp81 ht hco) dX3_copy_107 ?_
                        rw [hct]
                        refine lv_iload hx hb dX3_copy_108 (lv_at hl 4 rfl) ?_
                        refine lv_icmp_ne (tgt := 115) hx hb dX3_copy_110 (by decide) (fun c_47 => ?_) (fun c_47 => ?_)
                        · -- 110 jump
                          refine lv_iinc (v := (nI (t + 1)) + 1) (lv' := [(6, .int ((nI (t + 1)) + 1)), (0, .ref m0), (1, .int ty), (2, .long (lN a)), (4, .int (nI K)), (5, .int hm)]) hx hb dX3_copy_115 hl (k := 0) rfl rfl (by decide) rfl (fun ls hl => ?_)
                          refine lv_goto (tgt := 80) hx hb dX3_copy_118 (by decide) ?_
                          exact ih (t + 1) ls _ _ ⟨by omega, by
                            have h7 := lv_sub hl [0, 1, 2, 3, 4, 5] rfl
                            rw [nI_1] at h7
                            exact h7, fun i hi hm => by
                              rcases Nat.lt_succ_iff_lt_or_eq.mp hi with h6 | h6
                              · exact hno i h6 hm
                              · subst h6; exact c_47 hm.2, hM, hS⟩ (by omega)
                        · -- 110 on
                          refine lv_iconst (v := -1) hx hb dX3_copy_113 (by decide) ?_
                          exact z_iret S hr hlocks hM hS ⟨by unfold zCpr; rw [if_neg (fun q => q.2.2 ⟨t, ht, c_46, c_47⟩)], Or.inl ⟨fun q => (fun q => q.2.2 ⟨t, ht, c_46, c_47⟩) q.1, hJ_3⟩⟩ (Nat.le_of_ble_eq_true rfl) (Nat.le_of_ble_eq_true rfl) dX3_copy_114
                  · -- 72 on
                    rw [lg_cmp_eq] at c_18
                    refine lv_iconst (v := -1) hx hb dX3_copy_75 (by decide) ?_
                    exact z_iret S hr hlocks hM hS ⟨by unfold zCpr; rw [if_neg (fun q => c_18 ((zBc_sg ha hK1 hK2 c_14 hK0).mpr q.2.1))], Or.inl ⟨fun q => (fun q => c_18 ((zBc_sg ha hK1 hK2 c_14 hK0).mpr q.2.1)) q.1, hJ_3⟩⟩ (Nat.le_of_ble_eq_true rfl) (Nat.le_of_ble_eq_true rfl) dX3_copy_76
end
section
set_option maxHeartbeats 4000000 in
set_option maxRecDepth 100000 in
theorem c_X3_init (l : Launch) (A : Nat → Prop) (G : zG) (M : zMap) (m0 : Nat) (v0 v1 v2 v3 v4 v5 v6 v7 v8 v9 v10 v11 v12 v13 v14 : Option Nat) (h : M m0 = some (.inr (3, [.int 0, .int 0, va_rf v0, va_rf v1, va_rf v2, va_rf v3, va_rf v4, va_rf v5, va_rf v6, va_rf v7, va_rf v8, va_rf v9, va_rf v10, .int 0, va_rf v11, va_rf v12, va_rf v13, va_rf v14, .long 0]))) : zMet l yX3_init cX3_init 1 none { frames := 1, cells := 15, slots := 20795, locals := 40 } [.ref m0] A G M (fun r M1 => r = none ∧ ∃ ar : Nat → Nat, zJ G M1 m0 ar 0 0 0 0 (fun _ _ => 0) (fun _ _ => 0)) := by
  refine zMet.of (by decide) (Nat.le_of_ble_eq_true rfl) ?_
  intro p e s m args below meth c ls S hr hlocks hnm hK hM hA hS hl
  have hl : lv_has ls 1 [(0, .ref m0)] := hl
  have hx := S.1
  have hb := S.2.1
  have hown := S.2.2.2.1
  have hts := S.2.2.2.2
  have hr : meth.sig.returnType = none := hr
  have hnm : meth.name = "<init>" := hnm
  refine lv_aload_n hx hb dX3_init_0 rfl (lv_at hl 0 rfl) ?_
  refine z_objInit S hl.1 kw_219 kw_12 kw_13 dX3_init_1 (Nat.le_of_ble_eq_true rfl) (Nat.le_of_ble_eq_true rfl) ?_
  refine lv_aload_n hx hb dX3_init_4 rfl (lv_at hl 0 rfl) ?_
  refine lv_bipush (v := 81) hx hb dX3_init_5 (by decide) ?_
  refine z_newa (atype := .int) (N' := 81) (a0 := (81, .inl (fun _ => 0))) S hK hM hS hA kw_36 rfl 0 rfl (fun C h9 => by cases h9) (fun _ => rfl) (by decide) (by decide) (by decide) (Nat.le_of_ble_eq_true rfl) (Nat.le_of_ble_eq_true rfl) dX3_init_7 (fun q0 H hq0 hAq0 hM hS => ?_)
  obtain ⟨M_1, eM_2⟩ : ∃ z : zMap, z = zu M q0 (.inl (G.2.2 0, 81, .inl (fun _ => 0))) := ⟨_, rfl⟩
  replace hM : zM A G M_1 H := by rw [eM_2]; exact hM
  have he_3 : M_1 q0 = some (.inl (G.2.2 0, 81, .inl (fun _ => 0))) := by rw [eM_2]; exact zu_s _ _ _
  have he_4 := (show M_1 m0 = M m0 by rw [eM_2]; exact zu_n (znf h hq0)).trans h
  refine z_putF S kX3 hK hM hS he_4 2 (by decide) kw_222 rfl hnm rfl rfl rfl (Nat.le_of_ble_eq_true rfl) dX3_init_9 (fun H locs hM hS => ?_)
  obtain ⟨M_5, eM_6⟩ : ∃ z : zMap, z = zu M_1 m0 (.inr (3, [.int 0, .int 0, .ref q0, va_rf v1, va_rf v2, va_rf v3, va_rf v4, va_rf v5, va_rf v6, va_rf v7, va_rf v8, va_rf v9, va_rf v10, .int 0, va_rf v11, va_rf v12, va_rf v13, va_rf v14, .long 0])) := ⟨_, rfl⟩
  replace hM : zM A G M_5 H := by rw [eM_6]; exact hM
  have he_7 : M_5 m0 = some (.inr (3, [.int 0, .int 0, .ref q0, va_rf v1, va_rf v2, va_rf v3, va_rf v4, va_rf v5, va_rf v6, va_rf v7, va_rf v8, va_rf v9, va_rf v10, .int 0, va_rf v11, va_rf v12, va_rf v13, va_rf v14, .long 0])) := by rw [eM_6]; exact zu_s _ _ _
  have he_8 := (show M_5 q0 = M_1 q0 by rw [eM_6]; exact zu_n (zne he_3 he_4 (by simp))).trans he_3
  refine lv_aload_n hx hb dX3_init_12 rfl (lv_at hl 0 rfl) ?_
  refine lv_bipush (v := 81) hx hb dX3_init_13 (by decide) ?_
  refine z_newa (atype := .long) (N' := 81) (a0 := (81, .inr (.inl (fun _ => 0)))) S hK hM hS hA kw_278 rfl 3 rfl (fun C h9 => by cases h9) (fun _ => rfl) (by decide) (by decide) (by decide) (Nat.le_of_ble_eq_true rfl) (Nat.le_of_ble_eq_true rfl) dX3_init_15 (fun q1 H hq1 hAq1 hM hS => ?_)
  obtain ⟨M_9, eM_10⟩ : ∃ z : zMap, z = zu M_5 q1 (.inl (G.2.2 3, 81, .inr (.inl (fun _ => 0)))) := ⟨_, rfl⟩
  replace hM : zM A G M_9 H := by rw [eM_10]; exact hM
  have hn_q0_q1 : q0 ≠ q1 := znf he_8 hq1
  have he_11 : M_9 q1 = some (.inl (G.2.2 3, 81, .inr (.inl (fun _ => 0)))) := by rw [eM_10]; exact zu_s _ _ _
  have he_12 := (show M_9 m0 = M_5 m0 by rw [eM_10]; exact zu_n (znf he_7 hq1)).trans he_7
  have he_13 := (show M_9 q0 = M_5 q0 by rw [eM_10]; exact zu_n (znf he_8 hq1)).trans he_8
  refine z_putF S kX3 hK hM hS he_12 3 (by decide) kw_223 rfl hnm rfl rfl rfl (Nat.le_of_ble_eq_true rfl) dX3_init_17 (fun H locs hM hS => ?_)
  obtain ⟨M_14, eM_15⟩ : ∃ z : zMap, z = zu M_9 m0 (.inr (3, [.int 0, .int 0, .ref q0, .ref q1, va_rf v2, va_rf v3, va_rf v4, va_rf v5, va_rf v6, va_rf v7, va_rf v8, va_rf v9, va_rf v10, .int 0, va_rf v11, va_rf v12, va_rf v13, va_rf v14, .long 0])) := ⟨_, rfl⟩
  replace hM : zM A G M_14 H := by rw [eM_15]; exact hM
  have he_16 : M_14 m0 = some (.inr (3, [.int 0, .int 0, .ref q0, .ref q1, va_rf v2, va_rf v3, va_rf v4, va_rf v5, va_rf v6, va_rf v7, va_rf v8, va_rf v9, va_rf v10, .int 0, va_rf v11, va_rf v12, va_rf v13, va_rf v14, .long 0])) := by rw [eM_15]; exact zu_s _ _ _
  have he_17 := (show M_14 q0 = M_9 q0 by rw [eM_15]; exact zu_n (zne he_13 he_12 (by simp))).trans he_13
  have he_18 := (show M_14 q1 = M_9 q1 by rw [eM_15]; exact zu_n (zne he_11 he_12 (by simp))).trans he_11
  refine lv_aload_n hx hb dX3_init_20 rfl (lv_at hl 0 rfl) ?_
  refine lv_bipush (v := 81) hx hb dX3_init_21 (by decide) ?_
  refine z_newa (atype := .int) (N' := 81) (a0 := (81, .inl (fun _ => 0))) S hK hM hS hA kw_36 rfl 0 rfl (fun C h9 => by cases h9) (fun _ => rfl) (by decide) (by decide) (by decide) (Nat.le_of_ble_eq_true rfl) (Nat.le_of_ble_eq_true rfl) dX3_init_23 (fun q2 H hq2 hAq2 hM hS => ?_)
  obtain ⟨M_19, eM_20⟩ : ∃ z : zMap, z = zu M_14 q2 (.inl (G.2.2 0, 81, .inl (fun _ => 0))) := ⟨_, rfl⟩
  replace hM : zM A G M_19 H := by rw [eM_20]; exact hM
  have hn_q0_q2 : q0 ≠ q2 := znf he_17 hq2
  have hn_q1_q2 : q1 ≠ q2 := znf he_18 hq2
  have he_21 : M_19 q2 = some (.inl (G.2.2 0, 81, .inl (fun _ => 0))) := by rw [eM_20]; exact zu_s _ _ _
  have he_22 := (show M_19 m0 = M_14 m0 by rw [eM_20]; exact zu_n (znf he_16 hq2)).trans he_16
  have he_23 := (show M_19 q0 = M_14 q0 by rw [eM_20]; exact zu_n (znf he_17 hq2)).trans he_17
  have he_24 := (show M_19 q1 = M_14 q1 by rw [eM_20]; exact zu_n (znf he_18 hq2)).trans he_18
  refine z_putF S kX3 hK hM hS he_22 4 (by decide) kw_224 rfl hnm rfl rfl rfl (Nat.le_of_ble_eq_true rfl) dX3_init_25 (fun H locs hM hS => ?_)
  obtain ⟨M_25, eM_26⟩ : ∃ z : zMap, z = zu M_19 m0 (.inr (3, [.int 0, .int 0, .ref q0, .ref q1, .ref q2, va_rf v3, va_rf v4, va_rf v5, va_rf v6, va_rf v7, va_rf v8, va_rf v9, va_rf v10, .int 0, va_rf v11, va_rf v12, va_rf v13, va_rf v14, .long 0])) := ⟨_, rfl⟩
  replace hM : zM A G M_25 H := by rw [eM_26]; exact hM
  have he_27 : M_25 m0 = some (.inr (3, [.int 0, .int 0, .ref q0, .ref q1, .ref q2, va_rf v3, va_rf v4, va_rf v5, va_rf v6, va_rf v7, va_rf v8, va_rf v9, va_rf v10, .int 0, va_rf v11, va_rf v12, va_rf v13, va_rf v14, .long 0])) := by rw [eM_26]; exact zu_s _ _ _
  have he_28 := (show M_25 q0 = M_19 q0 by rw [eM_26]; exact zu_n (zne he_23 he_22 (by simp))).trans he_23
  have he_29 := (show M_25 q1 = M_19 q1 by rw [eM_26]; exact zu_n (zne he_24 he_22 (by simp))).trans he_24
  have he_30 := (show M_25 q2 = M_19 q2 by rw [eM_26]; exact zu_n (zne he_21 he_22 (by simp))).trans he_21
  refine lv_aload_n hx hb dX3_init_28 rfl (lv_at hl 0 rfl) ?_
  refine lv_bipush (v := 81) hx hb dX3_init_29 (by decide) ?_
  refine z_newa (atype := .int) (N' := 81) (a0 := (81, .inl (fun _ => 0))) S hK hM hS hA kw_36 rfl 0 rfl (fun C h9 => by cases h9) (fun _ => rfl) (by decide) (by decide) (by decide) (Nat.le_of_ble_eq_true rfl) (Nat.le_of_ble_eq_true rfl) dX3_init_31 (fun q3 H hq3 hAq3 hM hS => ?_)
  obtain ⟨M_31, eM_32⟩ : ∃ z : zMap, z = zu M_25 q3 (.inl (G.2.2 0, 81, .inl (fun _ => 0))) := ⟨_, rfl⟩
  replace hM : zM A G M_31 H := by rw [eM_32]; exact hM
  have hn_q0_q3 : q0 ≠ q3 := znf he_28 hq3
  have hn_q1_q3 : q1 ≠ q3 := znf he_29 hq3
  have hn_q2_q3 : q2 ≠ q3 := znf he_30 hq3
  have he_33 : M_31 q3 = some (.inl (G.2.2 0, 81, .inl (fun _ => 0))) := by rw [eM_32]; exact zu_s _ _ _
  have he_34 := (show M_31 m0 = M_25 m0 by rw [eM_32]; exact zu_n (znf he_27 hq3)).trans he_27
  have he_35 := (show M_31 q0 = M_25 q0 by rw [eM_32]; exact zu_n (znf he_28 hq3)).trans he_28
  have he_36 := (show M_31 q1 = M_25 q1 by rw [eM_32]; exact zu_n (znf he_29 hq3)).trans he_29
  have he_37 := (show M_31 q2 = M_25 q2 by rw [eM_32]; exact zu_n (znf he_30 hq3)).trans he_30
  refine z_putF S kX3 hK hM hS he_34 5 (by decide) kw_225 rfl hnm rfl rfl rfl (Nat.le_of_ble_eq_true rfl) dX3_init_33 (fun H locs hM hS => ?_)
  obtain ⟨M_38, eM_39⟩ : ∃ z : zMap, z = zu M_31 m0 (.inr (3, [.int 0, .int 0, .ref q0, .ref q1, .ref q2, .ref q3, va_rf v4, va_rf v5, va_rf v6, va_rf v7, va_rf v8, va_rf v9, va_rf v10, .int 0, va_rf v11, va_rf v12, va_rf v13, va_rf v14, .long 0])) := ⟨_, rfl⟩
  replace hM : zM A G M_38 H := by rw [eM_39]; exact hM
  have he_40 : M_38 m0 = some (.inr (3, [.int 0, .int 0, .ref q0, .ref q1, .ref q2, .ref q3, va_rf v4, va_rf v5, va_rf v6, va_rf v7, va_rf v8, va_rf v9, va_rf v10, .int 0, va_rf v11, va_rf v12, va_rf v13, va_rf v14, .long 0])) := by rw [eM_39]; exact zu_s _ _ _
  have he_41 := (show M_38 q0 = M_31 q0 by rw [eM_39]; exact zu_n (zne he_35 he_34 (by simp))).trans he_35
  have he_42 := (show M_38 q1 = M_31 q1 by rw [eM_39]; exact zu_n (zne he_36 he_34 (by simp))).trans he_36
  have he_43 := (show M_38 q2 = M_31 q2 by rw [eM_39]; exact zu_n (zne he_37 he_34 (by simp))).trans he_37
  have he_44 := (show M_38 q3 = M_31 q3 by rw [eM_39]; exact zu_n (zne he_33 he_34 (by simp))).trans he_33
  refine lv_aload_n hx hb dX3_init_36 rfl (lv_at hl 0 rfl) ?_
  refine lv_bipush (v := 81) hx hb dX3_init_37 (by decide) ?_
  refine z_newa (atype := .int) (N' := 81) (a0 := (81, .inl (fun _ => 0))) S hK hM hS hA kw_36 rfl 0 rfl (fun C h9 => by cases h9) (fun _ => rfl) (by decide) (by decide) (by decide) (Nat.le_of_ble_eq_true rfl) (Nat.le_of_ble_eq_true rfl) dX3_init_39 (fun q4 H hq4 hAq4 hM hS => ?_)
  obtain ⟨M_45, eM_46⟩ : ∃ z : zMap, z = zu M_38 q4 (.inl (G.2.2 0, 81, .inl (fun _ => 0))) := ⟨_, rfl⟩
  replace hM : zM A G M_45 H := by rw [eM_46]; exact hM
  have hn_q0_q4 : q0 ≠ q4 := znf he_41 hq4
  have hn_q1_q4 : q1 ≠ q4 := znf he_42 hq4
  have hn_q2_q4 : q2 ≠ q4 := znf he_43 hq4
  have hn_q3_q4 : q3 ≠ q4 := znf he_44 hq4
  have he_47 : M_45 q4 = some (.inl (G.2.2 0, 81, .inl (fun _ => 0))) := by rw [eM_46]; exact zu_s _ _ _
  have he_48 := (show M_45 m0 = M_38 m0 by rw [eM_46]; exact zu_n (znf he_40 hq4)).trans he_40
  have he_49 := (show M_45 q0 = M_38 q0 by rw [eM_46]; exact zu_n (znf he_41 hq4)).trans he_41
  have he_50 := (show M_45 q1 = M_38 q1 by rw [eM_46]; exact zu_n (znf he_42 hq4)).trans he_42
  have he_51 := (show M_45 q2 = M_38 q2 by rw [eM_46]; exact zu_n (znf he_43 hq4)).trans he_43
  have he_52 := (show M_45 q3 = M_38 q3 by rw [eM_46]; exact zu_n (znf he_44 hq4)).trans he_44
  refine z_putF S kX3 hK hM hS he_48 6 (by decide) kw_226 rfl hnm rfl rfl rfl (Nat.le_of_ble_eq_true rfl) dX3_init_41 (fun H locs hM hS => ?_)
  obtain ⟨M_53, eM_54⟩ : ∃ z : zMap, z = zu M_45 m0 (.inr (3, [.int 0, .int 0, .ref q0, .ref q1, .ref q2, .ref q3, .ref q4, va_rf v5, va_rf v6, va_rf v7, va_rf v8, va_rf v9, va_rf v10, .int 0, va_rf v11, va_rf v12, va_rf v13, va_rf v14, .long 0])) := ⟨_, rfl⟩
  replace hM : zM A G M_53 H := by rw [eM_54]; exact hM
  have he_55 : M_53 m0 = some (.inr (3, [.int 0, .int 0, .ref q0, .ref q1, .ref q2, .ref q3, .ref q4, va_rf v5, va_rf v6, va_rf v7, va_rf v8, va_rf v9, va_rf v10, .int 0, va_rf v11, va_rf v12, va_rf v13, va_rf v14, .long 0])) := by rw [eM_54]; exact zu_s _ _ _
  have he_56 := (show M_53 q0 = M_45 q0 by rw [eM_54]; exact zu_n (zne he_49 he_48 (by simp))).trans he_49
  have he_57 := (show M_53 q1 = M_45 q1 by rw [eM_54]; exact zu_n (zne he_50 he_48 (by simp))).trans he_50
  have he_58 := (show M_53 q2 = M_45 q2 by rw [eM_54]; exact zu_n (zne he_51 he_48 (by simp))).trans he_51
  have he_59 := (show M_53 q3 = M_45 q3 by rw [eM_54]; exact zu_n (zne he_52 he_48 (by simp))).trans he_52
  have he_60 := (show M_53 q4 = M_45 q4 by rw [eM_54]; exact zu_n (zne he_47 he_48 (by simp))).trans he_47
  refine lv_aload_n hx hb dX3_init_44 rfl (lv_at hl 0 rfl) ?_
  refine lv_bipush (v := 81) hx hb dX3_init_45 (by decide) ?_
  refine z_newa (atype := .int) (N' := 81) (a0 := (81, .inl (fun _ => 0))) S hK hM hS hA kw_36 rfl 0 rfl (fun C h9 => by cases h9) (fun _ => rfl) (by decide) (by decide) (by decide) (Nat.le_of_ble_eq_true rfl) (Nat.le_of_ble_eq_true rfl) dX3_init_47 (fun q5 H hq5 hAq5 hM hS => ?_)
  obtain ⟨M_61, eM_62⟩ : ∃ z : zMap, z = zu M_53 q5 (.inl (G.2.2 0, 81, .inl (fun _ => 0))) := ⟨_, rfl⟩
  replace hM : zM A G M_61 H := by rw [eM_62]; exact hM
  have hn_q0_q5 : q0 ≠ q5 := znf he_56 hq5
  have hn_q1_q5 : q1 ≠ q5 := znf he_57 hq5
  have hn_q2_q5 : q2 ≠ q5 := znf he_58 hq5
  have hn_q3_q5 : q3 ≠ q5 := znf he_59 hq5
  have hn_q4_q5 : q4 ≠ q5 := znf he_60 hq5
  have he_63 : M_61 q5 = some (.inl (G.2.2 0, 81, .inl (fun _ => 0))) := by rw [eM_62]; exact zu_s _ _ _
  have he_64 := (show M_61 m0 = M_53 m0 by rw [eM_62]; exact zu_n (znf he_55 hq5)).trans he_55
  have he_65 := (show M_61 q0 = M_53 q0 by rw [eM_62]; exact zu_n (znf he_56 hq5)).trans he_56
  have he_66 := (show M_61 q1 = M_53 q1 by rw [eM_62]; exact zu_n (znf he_57 hq5)).trans he_57
  have he_67 := (show M_61 q2 = M_53 q2 by rw [eM_62]; exact zu_n (znf he_58 hq5)).trans he_58
  have he_68 := (show M_61 q3 = M_53 q3 by rw [eM_62]; exact zu_n (znf he_59 hq5)).trans he_59
  have he_69 := (show M_61 q4 = M_53 q4 by rw [eM_62]; exact zu_n (znf he_60 hq5)).trans he_60
  refine z_putF S kX3 hK hM hS he_64 7 (by decide) kw_227 rfl hnm rfl rfl rfl (Nat.le_of_ble_eq_true rfl) dX3_init_49 (fun H locs hM hS => ?_)
  obtain ⟨M_70, eM_71⟩ : ∃ z : zMap, z = zu M_61 m0 (.inr (3, [.int 0, .int 0, .ref q0, .ref q1, .ref q2, .ref q3, .ref q4, .ref q5, va_rf v6, va_rf v7, va_rf v8, va_rf v9, va_rf v10, .int 0, va_rf v11, va_rf v12, va_rf v13, va_rf v14, .long 0])) := ⟨_, rfl⟩
  replace hM : zM A G M_70 H := by rw [eM_71]; exact hM
  have he_72 : M_70 m0 = some (.inr (3, [.int 0, .int 0, .ref q0, .ref q1, .ref q2, .ref q3, .ref q4, .ref q5, va_rf v6, va_rf v7, va_rf v8, va_rf v9, va_rf v10, .int 0, va_rf v11, va_rf v12, va_rf v13, va_rf v14, .long 0])) := by rw [eM_71]; exact zu_s _ _ _
  have he_73 := (show M_70 q0 = M_61 q0 by rw [eM_71]; exact zu_n (zne he_65 he_64 (by simp))).trans he_65
  have he_74 := (show M_70 q1 = M_61 q1 by rw [eM_71]; exact zu_n (zne he_66 he_64 (by simp))).trans he_66
  have he_75 := (show M_70 q2 = M_61 q2 by rw [eM_71]; exact zu_n (zne he_67 he_64 (by simp))).trans he_67
  have he_76 := (show M_70 q3 = M_61 q3 by rw [eM_71]; exact zu_n (zne he_68 he_64 (by simp))).trans he_68
  have he_77 := (show M_70 q4 = M_61 q4 by rw [eM_71]; exact zu_n (zne he_69 he_64 (by simp))).trans he_69
  have he_78 := (show M_70 q5 = M_61 q5 by rw [eM_71]; exact zu_n (zne he_63 he_64 (by simp))).trans he_63
  refine lv_aload_n hx hb dX3_init_52 rfl (lv_at hl 0 rfl) ?_
  refine lv_bipush (v := 81) hx hb dX3_init_53 (by decide) ?_
  refine z_newa (atype := .boolean) (N' := 81) (a0 := (81, .inl (fun _ => 0))) S hK hM hS hA kw_35 rfl 1 rfl (fun C h9 => by cases h9) (fun _ => rfl) (by decide) (by decide) (by decide) (Nat.le_of_ble_eq_true rfl) (Nat.le_of_ble_eq_true rfl) dX3_init_55 (fun q6 H hq6 hAq6 hM hS => ?_)
  obtain ⟨M_79, eM_80⟩ : ∃ z : zMap, z = zu M_70 q6 (.inl (G.2.2 1, 81, .inl (fun _ => 0))) := ⟨_, rfl⟩
  replace hM : zM A G M_79 H := by rw [eM_80]; exact hM
  have hn_q0_q6 : q0 ≠ q6 := znf he_73 hq6
  have hn_q1_q6 : q1 ≠ q6 := znf he_74 hq6
  have hn_q2_q6 : q2 ≠ q6 := znf he_75 hq6
  have hn_q3_q6 : q3 ≠ q6 := znf he_76 hq6
  have hn_q4_q6 : q4 ≠ q6 := znf he_77 hq6
  have hn_q5_q6 : q5 ≠ q6 := znf he_78 hq6
  have he_81 : M_79 q6 = some (.inl (G.2.2 1, 81, .inl (fun _ => 0))) := by rw [eM_80]; exact zu_s _ _ _
  have he_82 := (show M_79 m0 = M_70 m0 by rw [eM_80]; exact zu_n (znf he_72 hq6)).trans he_72
  have he_83 := (show M_79 q0 = M_70 q0 by rw [eM_80]; exact zu_n (znf he_73 hq6)).trans he_73
  have he_84 := (show M_79 q1 = M_70 q1 by rw [eM_80]; exact zu_n (znf he_74 hq6)).trans he_74
  have he_85 := (show M_79 q2 = M_70 q2 by rw [eM_80]; exact zu_n (znf he_75 hq6)).trans he_75
  have he_86 := (show M_79 q3 = M_70 q3 by rw [eM_80]; exact zu_n (znf he_76 hq6)).trans he_76
  have he_87 := (show M_79 q4 = M_70 q4 by rw [eM_80]; exact zu_n (znf he_77 hq6)).trans he_77
  have he_88 := (show M_79 q5 = M_70 q5 by rw [eM_80]; exact zu_n (znf he_78 hq6)).trans he_78
  refine z_putF S kX3 hK hM hS he_82 8 (by decide) kw_228 rfl hnm rfl rfl rfl (Nat.le_of_ble_eq_true rfl) dX3_init_57 (fun H locs hM hS => ?_)
  obtain ⟨M_89, eM_90⟩ : ∃ z : zMap, z = zu M_79 m0 (.inr (3, [.int 0, .int 0, .ref q0, .ref q1, .ref q2, .ref q3, .ref q4, .ref q5, .ref q6, va_rf v7, va_rf v8, va_rf v9, va_rf v10, .int 0, va_rf v11, va_rf v12, va_rf v13, va_rf v14, .long 0])) := ⟨_, rfl⟩
  replace hM : zM A G M_89 H := by rw [eM_90]; exact hM
  have he_91 : M_89 m0 = some (.inr (3, [.int 0, .int 0, .ref q0, .ref q1, .ref q2, .ref q3, .ref q4, .ref q5, .ref q6, va_rf v7, va_rf v8, va_rf v9, va_rf v10, .int 0, va_rf v11, va_rf v12, va_rf v13, va_rf v14, .long 0])) := by rw [eM_90]; exact zu_s _ _ _
  have he_92 := (show M_89 q0 = M_79 q0 by rw [eM_90]; exact zu_n (zne he_83 he_82 (by simp))).trans he_83
  have he_93 := (show M_89 q1 = M_79 q1 by rw [eM_90]; exact zu_n (zne he_84 he_82 (by simp))).trans he_84
  have he_94 := (show M_89 q2 = M_79 q2 by rw [eM_90]; exact zu_n (zne he_85 he_82 (by simp))).trans he_85
  have he_95 := (show M_89 q3 = M_79 q3 by rw [eM_90]; exact zu_n (zne he_86 he_82 (by simp))).trans he_86
  have he_96 := (show M_89 q4 = M_79 q4 by rw [eM_90]; exact zu_n (zne he_87 he_82 (by simp))).trans he_87
  have he_97 := (show M_89 q5 = M_79 q5 by rw [eM_90]; exact zu_n (zne he_88 he_82 (by simp))).trans he_88
  have he_98 := (show M_89 q6 = M_79 q6 by rw [eM_90]; exact zu_n (zne he_81 he_82 (by simp))).trans he_81
  refine lv_aload_n hx hb dX3_init_60 rfl (lv_at hl 0 rfl) ?_
  refine lv_bipush (v := 81) hx hb dX3_init_61 (by decide) ?_
  refine z_newa (atype := .int) (N' := 81) (a0 := (81, .inl (fun _ => 0))) S hK hM hS hA kw_36 rfl 0 rfl (fun C h9 => by cases h9) (fun _ => rfl) (by decide) (by decide) (by decide) (Nat.le_of_ble_eq_true rfl) (Nat.le_of_ble_eq_true rfl) dX3_init_63 (fun q7 H hq7 hAq7 hM hS => ?_)
  obtain ⟨M_99, eM_100⟩ : ∃ z : zMap, z = zu M_89 q7 (.inl (G.2.2 0, 81, .inl (fun _ => 0))) := ⟨_, rfl⟩
  replace hM : zM A G M_99 H := by rw [eM_100]; exact hM
  have hn_q0_q7 : q0 ≠ q7 := znf he_92 hq7
  have hn_q1_q7 : q1 ≠ q7 := znf he_93 hq7
  have hn_q2_q7 : q2 ≠ q7 := znf he_94 hq7
  have hn_q3_q7 : q3 ≠ q7 := znf he_95 hq7
  have hn_q4_q7 : q4 ≠ q7 := znf he_96 hq7
  have hn_q5_q7 : q5 ≠ q7 := znf he_97 hq7
  have hn_q6_q7 : q6 ≠ q7 := znf he_98 hq7
  have he_101 : M_99 q7 = some (.inl (G.2.2 0, 81, .inl (fun _ => 0))) := by rw [eM_100]; exact zu_s _ _ _
  have he_102 := (show M_99 m0 = M_89 m0 by rw [eM_100]; exact zu_n (znf he_91 hq7)).trans he_91
  have he_103 := (show M_99 q0 = M_89 q0 by rw [eM_100]; exact zu_n (znf he_92 hq7)).trans he_92
  have he_104 := (show M_99 q1 = M_89 q1 by rw [eM_100]; exact zu_n (znf he_93 hq7)).trans he_93
  have he_105 := (show M_99 q2 = M_89 q2 by rw [eM_100]; exact zu_n (znf he_94 hq7)).trans he_94
  have he_106 := (show M_99 q3 = M_89 q3 by rw [eM_100]; exact zu_n (znf he_95 hq7)).trans he_95
  have he_107 := (show M_99 q4 = M_89 q4 by rw [eM_100]; exact zu_n (znf he_96 hq7)).trans he_96
  have he_108 := (show M_99 q5 = M_89 q5 by rw [eM_100]; exact zu_n (znf he_97 hq7)).trans he_97
  have he_109 := (show M_99 q6 = M_89 q6 by rw [eM_100]; exact zu_n (znf he_98 hq7)).trans he_98
  refine z_putF S kX3 hK hM hS he_102 9 (by decide) kw_229 rfl hnm rfl rfl rfl (Nat.le_of_ble_eq_true rfl) dX3_init_65 (fun H locs hM hS => ?_)
  obtain ⟨M_110, eM_111⟩ : ∃ z : zMap, z = zu M_99 m0 (.inr (3, [.int 0, .int 0, .ref q0, .ref q1, .ref q2, .ref q3, .ref q4, .ref q5, .ref q6, .ref q7, va_rf v8, va_rf v9, va_rf v10, .int 0, va_rf v11, va_rf v12, va_rf v13, va_rf v14, .long 0])) := ⟨_, rfl⟩
  replace hM : zM A G M_110 H := by rw [eM_111]; exact hM
  have he_112 : M_110 m0 = some (.inr (3, [.int 0, .int 0, .ref q0, .ref q1, .ref q2, .ref q3, .ref q4, .ref q5, .ref q6, .ref q7, va_rf v8, va_rf v9, va_rf v10, .int 0, va_rf v11, va_rf v12, va_rf v13, va_rf v14, .long 0])) := by rw [eM_111]; exact zu_s _ _ _
  have he_113 := (show M_110 q0 = M_99 q0 by rw [eM_111]; exact zu_n (zne he_103 he_102 (by simp))).trans he_103
  have he_114 := (show M_110 q1 = M_99 q1 by rw [eM_111]; exact zu_n (zne he_104 he_102 (by simp))).trans he_104
  have he_115 := (show M_110 q2 = M_99 q2 by rw [eM_111]; exact zu_n (zne he_105 he_102 (by simp))).trans he_105
  have he_116 := (show M_110 q3 = M_99 q3 by rw [eM_111]; exact zu_n (zne he_106 he_102 (by simp))).trans he_106
  have he_117 := (show M_110 q4 = M_99 q4 by rw [eM_111]; exact zu_n (zne he_107 he_102 (by simp))).trans he_107
  have he_118 := (show M_110 q5 = M_99 q5 by rw [eM_111]; exact zu_n (zne he_108 he_102 (by simp))).trans he_108
  have he_119 := (show M_110 q6 = M_99 q6 by rw [eM_111]; exact zu_n (zne he_109 he_102 (by simp))).trans he_109
  have he_120 := (show M_110 q7 = M_99 q7 by rw [eM_111]; exact zu_n (zne he_101 he_102 (by simp))).trans he_101
  refine lv_aload_n hx hb dX3_init_68 rfl (lv_at hl 0 rfl) ?_
  refine lv_bipush (v := 81) hx hb dX3_init_69 (by decide) ?_
  refine z_newa (atype := .int) (N' := 81) (a0 := (81, .inl (fun _ => 0))) S hK hM hS hA kw_36 rfl 0 rfl (fun C h9 => by cases h9) (fun _ => rfl) (by decide) (by decide) (by decide) (Nat.le_of_ble_eq_true rfl) (Nat.le_of_ble_eq_true rfl) dX3_init_71 (fun q8 H hq8 hAq8 hM hS => ?_)
  obtain ⟨M_121, eM_122⟩ : ∃ z : zMap, z = zu M_110 q8 (.inl (G.2.2 0, 81, .inl (fun _ => 0))) := ⟨_, rfl⟩
  replace hM : zM A G M_121 H := by rw [eM_122]; exact hM
  have hn_q0_q8 : q0 ≠ q8 := znf he_113 hq8
  have hn_q1_q8 : q1 ≠ q8 := znf he_114 hq8
  have hn_q2_q8 : q2 ≠ q8 := znf he_115 hq8
  have hn_q3_q8 : q3 ≠ q8 := znf he_116 hq8
  have hn_q4_q8 : q4 ≠ q8 := znf he_117 hq8
  have hn_q5_q8 : q5 ≠ q8 := znf he_118 hq8
  have hn_q6_q8 : q6 ≠ q8 := znf he_119 hq8
  have hn_q7_q8 : q7 ≠ q8 := znf he_120 hq8
  have he_123 : M_121 q8 = some (.inl (G.2.2 0, 81, .inl (fun _ => 0))) := by rw [eM_122]; exact zu_s _ _ _
  have he_124 := (show M_121 m0 = M_110 m0 by rw [eM_122]; exact zu_n (znf he_112 hq8)).trans he_112
  have he_125 := (show M_121 q0 = M_110 q0 by rw [eM_122]; exact zu_n (znf he_113 hq8)).trans he_113
  have he_126 := (show M_121 q1 = M_110 q1 by rw [eM_122]; exact zu_n (znf he_114 hq8)).trans he_114
  have he_127 := (show M_121 q2 = M_110 q2 by rw [eM_122]; exact zu_n (znf he_115 hq8)).trans he_115
  have he_128 := (show M_121 q3 = M_110 q3 by rw [eM_122]; exact zu_n (znf he_116 hq8)).trans he_116
  have he_129 := (show M_121 q4 = M_110 q4 by rw [eM_122]; exact zu_n (znf he_117 hq8)).trans he_117
  have he_130 := (show M_121 q5 = M_110 q5 by rw [eM_122]; exact zu_n (znf he_118 hq8)).trans he_118
  have he_131 := (show M_121 q6 = M_110 q6 by rw [eM_122]; exact zu_n (znf he_119 hq8)).trans he_119
  have he_132 := (show M_121 q7 = M_110 q7 by rw [eM_122]; exact zu_n (znf he_120 hq8)).trans he_120
  refine z_putF S kX3 hK hM hS he_124 10 (by decide) kw_230 rfl hnm rfl rfl rfl (Nat.le_of_ble_eq_true rfl) dX3_init_73 (fun H locs hM hS => ?_)
  obtain ⟨M_133, eM_134⟩ : ∃ z : zMap, z = zu M_121 m0 (.inr (3, [.int 0, .int 0, .ref q0, .ref q1, .ref q2, .ref q3, .ref q4, .ref q5, .ref q6, .ref q7, .ref q8, va_rf v9, va_rf v10, .int 0, va_rf v11, va_rf v12, va_rf v13, va_rf v14, .long 0])) := ⟨_, rfl⟩
  replace hM : zM A G M_133 H := by rw [eM_134]; exact hM
  have he_135 : M_133 m0 = some (.inr (3, [.int 0, .int 0, .ref q0, .ref q1, .ref q2, .ref q3, .ref q4, .ref q5, .ref q6, .ref q7, .ref q8, va_rf v9, va_rf v10, .int 0, va_rf v11, va_rf v12, va_rf v13, va_rf v14, .long 0])) := by rw [eM_134]; exact zu_s _ _ _
  have he_136 := (show M_133 q0 = M_121 q0 by rw [eM_134]; exact zu_n (zne he_125 he_124 (by simp))).trans he_125
  have he_137 := (show M_133 q1 = M_121 q1 by rw [eM_134]; exact zu_n (zne he_126 he_124 (by simp))).trans he_126
  have he_138 := (show M_133 q2 = M_121 q2 by rw [eM_134]; exact zu_n (zne he_127 he_124 (by simp))).trans he_127
  have he_139 := (show M_133 q3 = M_121 q3 by rw [eM_134]; exact zu_n (zne he_128 he_124 (by simp))).trans he_128
  have he_140 := (show M_133 q4 = M_121 q4 by rw [eM_134]; exact zu_n (zne he_129 he_124 (by simp))).trans he_129
  have he_141 := (show M_133 q5 = M_121 q5 by rw [eM_134]; exact zu_n (zne he_130 he_124 (by simp))).trans he_130
  have he_142 := (show M_133 q6 = M_121 q6 by rw [eM_134]; exact zu_n (zne he_131 he_124 (by simp))).trans he_131
  have he_143 := (show M_133 q7 = M_121 q7 by rw [eM_134]; exact zu_n (zne he_132 he_124 (by simp))).trans he_132
  have he_144 := (show M_133 q8 = M_121 q8 by rw [eM_134]; exact zu_n (zne he_123 he_124 (by simp))).trans he_123
  refine lv_aload_n hx hb dX3_init_76 rfl (lv_at hl 0 rfl) ?_
  refine lv_bipush (v := 60) hx hb dX3_init_77 (by decide) ?_
  refine z_newa (atype := .boolean) (N' := 60) (a0 := (60, .inl (fun _ => 0))) S hK hM hS hA kw_35 rfl 1 rfl (fun C h9 => by cases h9) (fun _ => rfl) (by decide) (by decide) (by decide) (Nat.le_of_ble_eq_true rfl) (Nat.le_of_ble_eq_true rfl) dX3_init_79 (fun q9 H hq9 hAq9 hM hS => ?_)
  obtain ⟨M_145, eM_146⟩ : ∃ z : zMap, z = zu M_133 q9 (.inl (G.2.2 1, 60, .inl (fun _ => 0))) := ⟨_, rfl⟩
  replace hM : zM A G M_145 H := by rw [eM_146]; exact hM
  have hn_q0_q9 : q0 ≠ q9 := znf he_136 hq9
  have hn_q1_q9 : q1 ≠ q9 := znf he_137 hq9
  have hn_q2_q9 : q2 ≠ q9 := znf he_138 hq9
  have hn_q3_q9 : q3 ≠ q9 := znf he_139 hq9
  have hn_q4_q9 : q4 ≠ q9 := znf he_140 hq9
  have hn_q5_q9 : q5 ≠ q9 := znf he_141 hq9
  have hn_q6_q9 : q6 ≠ q9 := znf he_142 hq9
  have hn_q7_q9 : q7 ≠ q9 := znf he_143 hq9
  have hn_q8_q9 : q8 ≠ q9 := znf he_144 hq9
  have he_147 : M_145 q9 = some (.inl (G.2.2 1, 60, .inl (fun _ => 0))) := by rw [eM_146]; exact zu_s _ _ _
  have he_148 := (show M_145 m0 = M_133 m0 by rw [eM_146]; exact zu_n (znf he_135 hq9)).trans he_135
  have he_149 := (show M_145 q0 = M_133 q0 by rw [eM_146]; exact zu_n (znf he_136 hq9)).trans he_136
  have he_150 := (show M_145 q1 = M_133 q1 by rw [eM_146]; exact zu_n (znf he_137 hq9)).trans he_137
  have he_151 := (show M_145 q2 = M_133 q2 by rw [eM_146]; exact zu_n (znf he_138 hq9)).trans he_138
  have he_152 := (show M_145 q3 = M_133 q3 by rw [eM_146]; exact zu_n (znf he_139 hq9)).trans he_139
  have he_153 := (show M_145 q4 = M_133 q4 by rw [eM_146]; exact zu_n (znf he_140 hq9)).trans he_140
  have he_154 := (show M_145 q5 = M_133 q5 by rw [eM_146]; exact zu_n (znf he_141 hq9)).trans he_141
  have he_155 := (show M_145 q6 = M_133 q6 by rw [eM_146]; exact zu_n (znf he_142 hq9)).trans he_142
  have he_156 := (show M_145 q7 = M_133 q7 by rw [eM_146]; exact zu_n (znf he_143 hq9)).trans he_143
  have he_157 := (show M_145 q8 = M_133 q8 by rw [eM_146]; exact zu_n (znf he_144 hq9)).trans he_144
  refine z_putF S kX3 hK hM hS he_148 11 (by decide) kw_231 rfl hnm rfl rfl rfl (Nat.le_of_ble_eq_true rfl) dX3_init_81 (fun H locs hM hS => ?_)
  obtain ⟨M_158, eM_159⟩ : ∃ z : zMap, z = zu M_145 m0 (.inr (3, [.int 0, .int 0, .ref q0, .ref q1, .ref q2, .ref q3, .ref q4, .ref q5, .ref q6, .ref q7, .ref q8, .ref q9, va_rf v10, .int 0, va_rf v11, va_rf v12, va_rf v13, va_rf v14, .long 0])) := ⟨_, rfl⟩
  replace hM : zM A G M_158 H := by rw [eM_159]; exact hM
  have he_160 : M_158 m0 = some (.inr (3, [.int 0, .int 0, .ref q0, .ref q1, .ref q2, .ref q3, .ref q4, .ref q5, .ref q6, .ref q7, .ref q8, .ref q9, va_rf v10, .int 0, va_rf v11, va_rf v12, va_rf v13, va_rf v14, .long 0])) := by rw [eM_159]; exact zu_s _ _ _
  have he_161 := (show M_158 q0 = M_145 q0 by rw [eM_159]; exact zu_n (zne he_149 he_148 (by simp))).trans he_149
  have he_162 := (show M_158 q1 = M_145 q1 by rw [eM_159]; exact zu_n (zne he_150 he_148 (by simp))).trans he_150
  have he_163 := (show M_158 q2 = M_145 q2 by rw [eM_159]; exact zu_n (zne he_151 he_148 (by simp))).trans he_151
  have he_164 := (show M_158 q3 = M_145 q3 by rw [eM_159]; exact zu_n (zne he_152 he_148 (by simp))).trans he_152
  have he_165 := (show M_158 q4 = M_145 q4 by rw [eM_159]; exact zu_n (zne he_153 he_148 (by simp))).trans he_153
  have he_166 := (show M_158 q5 = M_145 q5 by rw [eM_159]; exact zu_n (zne he_154 he_148 (by simp))).trans he_154
  have he_167 := (show M_158 q6 = M_145 q6 by rw [eM_159]; exact zu_n (zne he_155 he_148 (by simp))).trans he_155
  have he_168 := (show M_158 q7 = M_145 q7 by rw [eM_159]; exact zu_n (zne he_156 he_148 (by simp))).trans he_156
  have he_169 := (show M_158 q8 = M_145 q8 by rw [eM_159]; exact zu_n (zne he_157 he_148 (by simp))).trans he_157
  have he_170 := (show M_158 q9 = M_145 q9 by rw [eM_159]; exact zu_n (zne he_147 he_148 (by simp))).trans he_147
  refine lv_aload_n hx hb dX3_init_84 rfl (lv_at hl 0 rfl) ?_
  refine lv_bipush (v := 6) hx hb dX3_init_85 (by decide) ?_
  refine z_newa (atype := .int) (N' := 6) (a0 := (6, .inl (fun _ => 0))) S hK hM hS hA kw_36 rfl 0 rfl (fun C h9 => by cases h9) (fun _ => rfl) (by decide) (by decide) (by decide) (Nat.le_of_ble_eq_true rfl) (Nat.le_of_ble_eq_true rfl) dX3_init_87 (fun q10 H hq10 hAq10 hM hS => ?_)
  obtain ⟨M_171, eM_172⟩ : ∃ z : zMap, z = zu M_158 q10 (.inl (G.2.2 0, 6, .inl (fun _ => 0))) := ⟨_, rfl⟩
  replace hM : zM A G M_171 H := by rw [eM_172]; exact hM
  have hn_q0_q10 : q0 ≠ q10 := znf he_161 hq10
  have hn_q1_q10 : q1 ≠ q10 := znf he_162 hq10
  have hn_q2_q10 : q2 ≠ q10 := znf he_163 hq10
  have hn_q3_q10 : q3 ≠ q10 := znf he_164 hq10
  have hn_q4_q10 : q4 ≠ q10 := znf he_165 hq10
  have hn_q5_q10 : q5 ≠ q10 := znf he_166 hq10
  have hn_q6_q10 : q6 ≠ q10 := znf he_167 hq10
  have hn_q7_q10 : q7 ≠ q10 := znf he_168 hq10
  have hn_q8_q10 : q8 ≠ q10 := znf he_169 hq10
  have hn_q9_q10 : q9 ≠ q10 := znf he_170 hq10
  have he_173 : M_171 q10 = some (.inl (G.2.2 0, 6, .inl (fun _ => 0))) := by rw [eM_172]; exact zu_s _ _ _
  have he_174 := (show M_171 m0 = M_158 m0 by rw [eM_172]; exact zu_n (znf he_160 hq10)).trans he_160
  have he_175 := (show M_171 q0 = M_158 q0 by rw [eM_172]; exact zu_n (znf he_161 hq10)).trans he_161
  have he_176 := (show M_171 q1 = M_158 q1 by rw [eM_172]; exact zu_n (znf he_162 hq10)).trans he_162
  have he_177 := (show M_171 q2 = M_158 q2 by rw [eM_172]; exact zu_n (znf he_163 hq10)).trans he_163
  have he_178 := (show M_171 q3 = M_158 q3 by rw [eM_172]; exact zu_n (znf he_164 hq10)).trans he_164
  have he_179 := (show M_171 q4 = M_158 q4 by rw [eM_172]; exact zu_n (znf he_165 hq10)).trans he_165
  have he_180 := (show M_171 q5 = M_158 q5 by rw [eM_172]; exact zu_n (znf he_166 hq10)).trans he_166
  have he_181 := (show M_171 q6 = M_158 q6 by rw [eM_172]; exact zu_n (znf he_167 hq10)).trans he_167
  have he_182 := (show M_171 q7 = M_158 q7 by rw [eM_172]; exact zu_n (znf he_168 hq10)).trans he_168
  have he_183 := (show M_171 q8 = M_158 q8 by rw [eM_172]; exact zu_n (znf he_169 hq10)).trans he_169
  have he_184 := (show M_171 q9 = M_158 q9 by rw [eM_172]; exact zu_n (znf he_170 hq10)).trans he_170
  refine z_putF S kX3 hK hM hS he_174 12 (by decide) kw_232 rfl hnm rfl rfl rfl (Nat.le_of_ble_eq_true rfl) dX3_init_89 (fun H locs hM hS => ?_)
  obtain ⟨M_185, eM_186⟩ : ∃ z : zMap, z = zu M_171 m0 (.inr (3, [.int 0, .int 0, .ref q0, .ref q1, .ref q2, .ref q3, .ref q4, .ref q5, .ref q6, .ref q7, .ref q8, .ref q9, .ref q10, .int 0, va_rf v11, va_rf v12, va_rf v13, va_rf v14, .long 0])) := ⟨_, rfl⟩
  replace hM : zM A G M_185 H := by rw [eM_186]; exact hM
  have he_187 : M_185 m0 = some (.inr (3, [.int 0, .int 0, .ref q0, .ref q1, .ref q2, .ref q3, .ref q4, .ref q5, .ref q6, .ref q7, .ref q8, .ref q9, .ref q10, .int 0, va_rf v11, va_rf v12, va_rf v13, va_rf v14, .long 0])) := by rw [eM_186]; exact zu_s _ _ _
  have he_188 := (show M_185 q0 = M_171 q0 by rw [eM_186]; exact zu_n (zne he_175 he_174 (by simp))).trans he_175
  have he_189 := (show M_185 q1 = M_171 q1 by rw [eM_186]; exact zu_n (zne he_176 he_174 (by simp))).trans he_176
  have he_190 := (show M_185 q2 = M_171 q2 by rw [eM_186]; exact zu_n (zne he_177 he_174 (by simp))).trans he_177
  have he_191 := (show M_185 q3 = M_171 q3 by rw [eM_186]; exact zu_n (zne he_178 he_174 (by simp))).trans he_178
  have he_192 := (show M_185 q4 = M_171 q4 by rw [eM_186]; exact zu_n (zne he_179 he_174 (by simp))).trans he_179
  have he_193 := (show M_185 q5 = M_171 q5 by rw [eM_186]; exact zu_n (zne he_180 he_174 (by simp))).trans he_180
  have he_194 := (show M_185 q6 = M_171 q6 by rw [eM_186]; exact zu_n (zne he_181 he_174 (by simp))).trans he_181
  have he_195 := (show M_185 q7 = M_171 q7 by rw [eM_186]; exact zu_n (zne he_182 he_174 (by simp))).trans he_182
  have he_196 := (show M_185 q8 = M_171 q8 by rw [eM_186]; exact zu_n (zne he_183 he_174 (by simp))).trans he_183
  have he_197 := (show M_185 q9 = M_171 q9 by rw [eM_186]; exact zu_n (zne he_184 he_174 (by simp))).trans he_184
  have he_198 := (show M_185 q10 = M_171 q10 by rw [eM_186]; exact zu_n (zne he_173 he_174 (by simp))).trans he_173
  refine lv_aload_n hx hb dX3_init_92 rfl (lv_at hl 0 rfl) ?_
  refine lv_sipush (v := 5000) hx hb dX3_init_93 (by decide) ?_
  refine z_newa (atype := .int) (N' := 5000) (a0 := (5000, .inl (fun _ => 0))) S hK hM hS hA kw_36 rfl 0 rfl (fun C h9 => by cases h9) (fun _ => rfl) (by decide) (by decide) (by decide) (Nat.le_of_ble_eq_true rfl) (Nat.le_of_ble_eq_true rfl) dX3_init_96 (fun q11 H hq11 hAq11 hM hS => ?_)
  obtain ⟨M_199, eM_200⟩ : ∃ z : zMap, z = zu M_185 q11 (.inl (G.2.2 0, 5000, .inl (fun _ => 0))) := ⟨_, rfl⟩
  replace hM : zM A G M_199 H := by rw [eM_200]; exact hM
  have hn_q0_q11 : q0 ≠ q11 := znf he_188 hq11
  have hn_q1_q11 : q1 ≠ q11 := znf he_189 hq11
  have hn_q2_q11 : q2 ≠ q11 := znf he_190 hq11
  have hn_q3_q11 : q3 ≠ q11 := znf he_191 hq11
  have hn_q4_q11 : q4 ≠ q11 := znf he_192 hq11
  have hn_q5_q11 : q5 ≠ q11 := znf he_193 hq11
  have hn_q6_q11 : q6 ≠ q11 := znf he_194 hq11
  have hn_q7_q11 : q7 ≠ q11 := znf he_195 hq11
  have hn_q8_q11 : q8 ≠ q11 := znf he_196 hq11
  have hn_q9_q11 : q9 ≠ q11 := znf he_197 hq11
  have hn_q10_q11 : q10 ≠ q11 := znf he_198 hq11
  have he_201 : M_199 q11 = some (.inl (G.2.2 0, 5000, .inl (fun _ => 0))) := by rw [eM_200]; exact zu_s _ _ _
  have he_202 := (show M_199 m0 = M_185 m0 by rw [eM_200]; exact zu_n (znf he_187 hq11)).trans he_187
  have he_203 := (show M_199 q0 = M_185 q0 by rw [eM_200]; exact zu_n (znf he_188 hq11)).trans he_188
  have he_204 := (show M_199 q1 = M_185 q1 by rw [eM_200]; exact zu_n (znf he_189 hq11)).trans he_189
  have he_205 := (show M_199 q2 = M_185 q2 by rw [eM_200]; exact zu_n (znf he_190 hq11)).trans he_190
  have he_206 := (show M_199 q3 = M_185 q3 by rw [eM_200]; exact zu_n (znf he_191 hq11)).trans he_191
  have he_207 := (show M_199 q4 = M_185 q4 by rw [eM_200]; exact zu_n (znf he_192 hq11)).trans he_192
  have he_208 := (show M_199 q5 = M_185 q5 by rw [eM_200]; exact zu_n (znf he_193 hq11)).trans he_193
  have he_209 := (show M_199 q6 = M_185 q6 by rw [eM_200]; exact zu_n (znf he_194 hq11)).trans he_194
  have he_210 := (show M_199 q7 = M_185 q7 by rw [eM_200]; exact zu_n (znf he_195 hq11)).trans he_195
  have he_211 := (show M_199 q8 = M_185 q8 by rw [eM_200]; exact zu_n (znf he_196 hq11)).trans he_196
  have he_212 := (show M_199 q9 = M_185 q9 by rw [eM_200]; exact zu_n (znf he_197 hq11)).trans he_197
  have he_213 := (show M_199 q10 = M_185 q10 by rw [eM_200]; exact zu_n (znf he_198 hq11)).trans he_198
  refine z_putF S kX3 hK hM hS he_202 14 (by decide) kw_234 rfl hnm rfl rfl rfl (Nat.le_of_ble_eq_true rfl) dX3_init_98 (fun H locs hM hS => ?_)
  obtain ⟨M_214, eM_215⟩ : ∃ z : zMap, z = zu M_199 m0 (.inr (3, [.int 0, .int 0, .ref q0, .ref q1, .ref q2, .ref q3, .ref q4, .ref q5, .ref q6, .ref q7, .ref q8, .ref q9, .ref q10, .int 0, .ref q11, va_rf v12, va_rf v13, va_rf v14, .long 0])) := ⟨_, rfl⟩
  replace hM : zM A G M_214 H := by rw [eM_215]; exact hM
  have he_216 : M_214 m0 = some (.inr (3, [.int 0, .int 0, .ref q0, .ref q1, .ref q2, .ref q3, .ref q4, .ref q5, .ref q6, .ref q7, .ref q8, .ref q9, .ref q10, .int 0, .ref q11, va_rf v12, va_rf v13, va_rf v14, .long 0])) := by rw [eM_215]; exact zu_s _ _ _
  have he_217 := (show M_214 q0 = M_199 q0 by rw [eM_215]; exact zu_n (zne he_203 he_202 (by simp))).trans he_203
  have he_218 := (show M_214 q1 = M_199 q1 by rw [eM_215]; exact zu_n (zne he_204 he_202 (by simp))).trans he_204
  have he_219 := (show M_214 q2 = M_199 q2 by rw [eM_215]; exact zu_n (zne he_205 he_202 (by simp))).trans he_205
  have he_220 := (show M_214 q3 = M_199 q3 by rw [eM_215]; exact zu_n (zne he_206 he_202 (by simp))).trans he_206
  have he_221 := (show M_214 q4 = M_199 q4 by rw [eM_215]; exact zu_n (zne he_207 he_202 (by simp))).trans he_207
  have he_222 := (show M_214 q5 = M_199 q5 by rw [eM_215]; exact zu_n (zne he_208 he_202 (by simp))).trans he_208
  have he_223 := (show M_214 q6 = M_199 q6 by rw [eM_215]; exact zu_n (zne he_209 he_202 (by simp))).trans he_209
  have he_224 := (show M_214 q7 = M_199 q7 by rw [eM_215]; exact zu_n (zne he_210 he_202 (by simp))).trans he_210
  have he_225 := (show M_214 q8 = M_199 q8 by rw [eM_215]; exact zu_n (zne he_211 he_202 (by simp))).trans he_211
  have he_226 := (show M_214 q9 = M_199 q9 by rw [eM_215]; exact zu_n (zne he_212 he_202 (by simp))).trans he_212
  have he_227 := (show M_214 q10 = M_199 q10 by rw [eM_215]; exact zu_n (zne he_213 he_202 (by simp))).trans he_213
  have he_228 := (show M_214 q11 = M_199 q11 by rw [eM_215]; exact zu_n (zne he_201 he_202 (by simp))).trans he_201
  refine lv_aload_n hx hb dX3_init_101 rfl (lv_at hl 0 rfl) ?_
  refine lv_sipush (v := 5000) hx hb dX3_init_102 (by decide) ?_
  refine z_newa (atype := .int) (N' := 5000) (a0 := (5000, .inl (fun _ => 0))) S hK hM hS hA kw_36 rfl 0 rfl (fun C h9 => by cases h9) (fun _ => rfl) (by decide) (by decide) (by decide) (Nat.le_of_ble_eq_true rfl) (Nat.le_of_ble_eq_true rfl) dX3_init_105 (fun q12 H hq12 hAq12 hM hS => ?_)
  obtain ⟨M_229, eM_230⟩ : ∃ z : zMap, z = zu M_214 q12 (.inl (G.2.2 0, 5000, .inl (fun _ => 0))) := ⟨_, rfl⟩
  replace hM : zM A G M_229 H := by rw [eM_230]; exact hM
  have hn_q0_q12 : q0 ≠ q12 := znf he_217 hq12
  have hn_q1_q12 : q1 ≠ q12 := znf he_218 hq12
  have hn_q2_q12 : q2 ≠ q12 := znf he_219 hq12
  have hn_q3_q12 : q3 ≠ q12 := znf he_220 hq12
  have hn_q4_q12 : q4 ≠ q12 := znf he_221 hq12
  have hn_q5_q12 : q5 ≠ q12 := znf he_222 hq12
  have hn_q6_q12 : q6 ≠ q12 := znf he_223 hq12
  have hn_q7_q12 : q7 ≠ q12 := znf he_224 hq12
  have hn_q8_q12 : q8 ≠ q12 := znf he_225 hq12
  have hn_q9_q12 : q9 ≠ q12 := znf he_226 hq12
  have hn_q10_q12 : q10 ≠ q12 := znf he_227 hq12
  have hn_q11_q12 : q11 ≠ q12 := znf he_228 hq12
  have he_231 : M_229 q12 = some (.inl (G.2.2 0, 5000, .inl (fun _ => 0))) := by rw [eM_230]; exact zu_s _ _ _
  have he_232 := (show M_229 m0 = M_214 m0 by rw [eM_230]; exact zu_n (znf he_216 hq12)).trans he_216
  have he_233 := (show M_229 q0 = M_214 q0 by rw [eM_230]; exact zu_n (znf he_217 hq12)).trans he_217
  have he_234 := (show M_229 q1 = M_214 q1 by rw [eM_230]; exact zu_n (znf he_218 hq12)).trans he_218
  have he_235 := (show M_229 q2 = M_214 q2 by rw [eM_230]; exact zu_n (znf he_219 hq12)).trans he_219
  have he_236 := (show M_229 q3 = M_214 q3 by rw [eM_230]; exact zu_n (znf he_220 hq12)).trans he_220
  have he_237 := (show M_229 q4 = M_214 q4 by rw [eM_230]; exact zu_n (znf he_221 hq12)).trans he_221
  have he_238 := (show M_229 q5 = M_214 q5 by rw [eM_230]; exact zu_n (znf he_222 hq12)).trans he_222
  have he_239 := (show M_229 q6 = M_214 q6 by rw [eM_230]; exact zu_n (znf he_223 hq12)).trans he_223
  have he_240 := (show M_229 q7 = M_214 q7 by rw [eM_230]; exact zu_n (znf he_224 hq12)).trans he_224
  have he_241 := (show M_229 q8 = M_214 q8 by rw [eM_230]; exact zu_n (znf he_225 hq12)).trans he_225
  have he_242 := (show M_229 q9 = M_214 q9 by rw [eM_230]; exact zu_n (znf he_226 hq12)).trans he_226
  have he_243 := (show M_229 q10 = M_214 q10 by rw [eM_230]; exact zu_n (znf he_227 hq12)).trans he_227
  have he_244 := (show M_229 q11 = M_214 q11 by rw [eM_230]; exact zu_n (znf he_228 hq12)).trans he_228
  refine z_putF S kX3 hK hM hS he_232 15 (by decide) kw_235 rfl hnm rfl rfl rfl (Nat.le_of_ble_eq_true rfl) dX3_init_107 (fun H locs hM hS => ?_)
  obtain ⟨M_245, eM_246⟩ : ∃ z : zMap, z = zu M_229 m0 (.inr (3, [.int 0, .int 0, .ref q0, .ref q1, .ref q2, .ref q3, .ref q4, .ref q5, .ref q6, .ref q7, .ref q8, .ref q9, .ref q10, .int 0, .ref q11, .ref q12, va_rf v13, va_rf v14, .long 0])) := ⟨_, rfl⟩
  replace hM : zM A G M_245 H := by rw [eM_246]; exact hM
  have he_247 : M_245 m0 = some (.inr (3, [.int 0, .int 0, .ref q0, .ref q1, .ref q2, .ref q3, .ref q4, .ref q5, .ref q6, .ref q7, .ref q8, .ref q9, .ref q10, .int 0, .ref q11, .ref q12, va_rf v13, va_rf v14, .long 0])) := by rw [eM_246]; exact zu_s _ _ _
  have he_248 := (show M_245 q0 = M_229 q0 by rw [eM_246]; exact zu_n (zne he_233 he_232 (by simp))).trans he_233
  have he_249 := (show M_245 q1 = M_229 q1 by rw [eM_246]; exact zu_n (zne he_234 he_232 (by simp))).trans he_234
  have he_250 := (show M_245 q2 = M_229 q2 by rw [eM_246]; exact zu_n (zne he_235 he_232 (by simp))).trans he_235
  have he_251 := (show M_245 q3 = M_229 q3 by rw [eM_246]; exact zu_n (zne he_236 he_232 (by simp))).trans he_236
  have he_252 := (show M_245 q4 = M_229 q4 by rw [eM_246]; exact zu_n (zne he_237 he_232 (by simp))).trans he_237
  have he_253 := (show M_245 q5 = M_229 q5 by rw [eM_246]; exact zu_n (zne he_238 he_232 (by simp))).trans he_238
  have he_254 := (show M_245 q6 = M_229 q6 by rw [eM_246]; exact zu_n (zne he_239 he_232 (by simp))).trans he_239
  have he_255 := (show M_245 q7 = M_229 q7 by rw [eM_246]; exact zu_n (zne he_240 he_232 (by simp))).trans he_240
  have he_256 := (show M_245 q8 = M_229 q8 by rw [eM_246]; exact zu_n (zne he_241 he_232 (by simp))).trans he_241
  have he_257 := (show M_245 q9 = M_229 q9 by rw [eM_246]; exact zu_n (zne he_242 he_232 (by simp))).trans he_242
  have he_258 := (show M_245 q10 = M_229 q10 by rw [eM_246]; exact zu_n (zne he_243 he_232 (by simp))).trans he_243
  have he_259 := (show M_245 q11 = M_229 q11 by rw [eM_246]; exact zu_n (zne he_244 he_232 (by simp))).trans he_244
  have he_260 := (show M_245 q12 = M_229 q12 by rw [eM_246]; exact zu_n (zne he_231 he_232 (by simp))).trans he_231
  refine lv_aload_n hx hb dX3_init_110 rfl (lv_at hl 0 rfl) ?_
  refine lv_sipush (v := 5000) hx hb dX3_init_111 (by decide) ?_
  refine z_newa (atype := .boolean) (N' := 5000) (a0 := (5000, .inl (fun _ => 0))) S hK hM hS hA kw_35 rfl 1 rfl (fun C h9 => by cases h9) (fun _ => rfl) (by decide) (by decide) (by decide) (Nat.le_of_ble_eq_true rfl) (Nat.le_of_ble_eq_true rfl) dX3_init_114 (fun q13 H hq13 hAq13 hM hS => ?_)
  obtain ⟨M_261, eM_262⟩ : ∃ z : zMap, z = zu M_245 q13 (.inl (G.2.2 1, 5000, .inl (fun _ => 0))) := ⟨_, rfl⟩
  replace hM : zM A G M_261 H := by rw [eM_262]; exact hM
  have hn_q0_q13 : q0 ≠ q13 := znf he_248 hq13
  have hn_q1_q13 : q1 ≠ q13 := znf he_249 hq13
  have hn_q2_q13 : q2 ≠ q13 := znf he_250 hq13
  have hn_q3_q13 : q3 ≠ q13 := znf he_251 hq13
  have hn_q4_q13 : q4 ≠ q13 := znf he_252 hq13
  have hn_q5_q13 : q5 ≠ q13 := znf he_253 hq13
  have hn_q6_q13 : q6 ≠ q13 := znf he_254 hq13
  have hn_q7_q13 : q7 ≠ q13 := znf he_255 hq13
  have hn_q8_q13 : q8 ≠ q13 := znf he_256 hq13
  have hn_q9_q13 : q9 ≠ q13 := znf he_257 hq13
  have hn_q10_q13 : q10 ≠ q13 := znf he_258 hq13
  have hn_q11_q13 : q11 ≠ q13 := znf he_259 hq13
  have hn_q12_q13 : q12 ≠ q13 := znf he_260 hq13
  have he_263 : M_261 q13 = some (.inl (G.2.2 1, 5000, .inl (fun _ => 0))) := by rw [eM_262]; exact zu_s _ _ _
  have he_264 := (show M_261 m0 = M_245 m0 by rw [eM_262]; exact zu_n (znf he_247 hq13)).trans he_247
  have he_265 := (show M_261 q0 = M_245 q0 by rw [eM_262]; exact zu_n (znf he_248 hq13)).trans he_248
  have he_266 := (show M_261 q1 = M_245 q1 by rw [eM_262]; exact zu_n (znf he_249 hq13)).trans he_249
  have he_267 := (show M_261 q2 = M_245 q2 by rw [eM_262]; exact zu_n (znf he_250 hq13)).trans he_250
  have he_268 := (show M_261 q3 = M_245 q3 by rw [eM_262]; exact zu_n (znf he_251 hq13)).trans he_251
  have he_269 := (show M_261 q4 = M_245 q4 by rw [eM_262]; exact zu_n (znf he_252 hq13)).trans he_252
  have he_270 := (show M_261 q5 = M_245 q5 by rw [eM_262]; exact zu_n (znf he_253 hq13)).trans he_253
  have he_271 := (show M_261 q6 = M_245 q6 by rw [eM_262]; exact zu_n (znf he_254 hq13)).trans he_254
  have he_272 := (show M_261 q7 = M_245 q7 by rw [eM_262]; exact zu_n (znf he_255 hq13)).trans he_255
  have he_273 := (show M_261 q8 = M_245 q8 by rw [eM_262]; exact zu_n (znf he_256 hq13)).trans he_256
  have he_274 := (show M_261 q9 = M_245 q9 by rw [eM_262]; exact zu_n (znf he_257 hq13)).trans he_257
  have he_275 := (show M_261 q10 = M_245 q10 by rw [eM_262]; exact zu_n (znf he_258 hq13)).trans he_258
  have he_276 := (show M_261 q11 = M_245 q11 by rw [eM_262]; exact zu_n (znf he_259 hq13)).trans he_259
  have he_277 := (show M_261 q12 = M_245 q12 by rw [eM_262]; exact zu_n (znf he_260 hq13)).trans he_260
  refine z_putF S kX3 hK hM hS he_264 16 (by decide) kw_236 rfl hnm rfl rfl rfl (Nat.le_of_ble_eq_true rfl) dX3_init_116 (fun H locs hM hS => ?_)
  obtain ⟨M_278, eM_279⟩ : ∃ z : zMap, z = zu M_261 m0 (.inr (3, [.int 0, .int 0, .ref q0, .ref q1, .ref q2, .ref q3, .ref q4, .ref q5, .ref q6, .ref q7, .ref q8, .ref q9, .ref q10, .int 0, .ref q11, .ref q12, .ref q13, va_rf v14, .long 0])) := ⟨_, rfl⟩
  replace hM : zM A G M_278 H := by rw [eM_279]; exact hM
  have he_280 : M_278 m0 = some (.inr (3, [.int 0, .int 0, .ref q0, .ref q1, .ref q2, .ref q3, .ref q4, .ref q5, .ref q6, .ref q7, .ref q8, .ref q9, .ref q10, .int 0, .ref q11, .ref q12, .ref q13, va_rf v14, .long 0])) := by rw [eM_279]; exact zu_s _ _ _
  have he_281 := (show M_278 q0 = M_261 q0 by rw [eM_279]; exact zu_n (zne he_265 he_264 (by simp))).trans he_265
  have he_282 := (show M_278 q1 = M_261 q1 by rw [eM_279]; exact zu_n (zne he_266 he_264 (by simp))).trans he_266
  have he_283 := (show M_278 q2 = M_261 q2 by rw [eM_279]; exact zu_n (zne he_267 he_264 (by simp))).trans he_267
  have he_284 := (show M_278 q3 = M_261 q3 by rw [eM_279]; exact zu_n (zne he_268 he_264 (by simp))).trans he_268
  have he_285 := (show M_278 q4 = M_261 q4 by rw [eM_279]; exact zu_n (zne he_269 he_264 (by simp))).trans he_269
  have he_286 := (show M_278 q5 = M_261 q5 by rw [eM_279]; exact zu_n (zne he_270 he_264 (by simp))).trans he_270
  have he_287 := (show M_278 q6 = M_261 q6 by rw [eM_279]; exact zu_n (zne he_271 he_264 (by simp))).trans he_271
  have he_288 := (show M_278 q7 = M_261 q7 by rw [eM_279]; exact zu_n (zne he_272 he_264 (by simp))).trans he_272
  have he_289 := (show M_278 q8 = M_261 q8 by rw [eM_279]; exact zu_n (zne he_273 he_264 (by simp))).trans he_273
  have he_290 := (show M_278 q9 = M_261 q9 by rw [eM_279]; exact zu_n (zne he_274 he_264 (by simp))).trans he_274
  have he_291 := (show M_278 q10 = M_261 q10 by rw [eM_279]; exact zu_n (zne he_275 he_264 (by simp))).trans he_275
  have he_292 := (show M_278 q11 = M_261 q11 by rw [eM_279]; exact zu_n (zne he_276 he_264 (by simp))).trans he_276
  have he_293 := (show M_278 q12 = M_261 q12 by rw [eM_279]; exact zu_n (zne he_277 he_264 (by simp))).trans he_277
  have he_294 := (show M_278 q13 = M_261 q13 by rw [eM_279]; exact zu_n (zne he_263 he_264 (by simp))).trans he_263
  refine lv_aload_n hx hb dX3_init_119 rfl (lv_at hl 0 rfl) ?_
  refine lv_sipush (v := 5000) hx hb dX3_init_120 (by decide) ?_
  refine z_newa (atype := .long) (N' := 5000) (a0 := (5000, .inr (.inl (fun _ => 0)))) S hK hM hS hA kw_278 rfl 3 rfl (fun C h9 => by cases h9) (fun _ => rfl) (by decide) (by decide) (by decide) (Nat.le_of_ble_eq_true rfl) (Nat.le_of_ble_eq_true rfl) dX3_init_123 (fun q14 H hq14 hAq14 hM hS => ?_)
  obtain ⟨M_295, eM_296⟩ : ∃ z : zMap, z = zu M_278 q14 (.inl (G.2.2 3, 5000, .inr (.inl (fun _ => 0)))) := ⟨_, rfl⟩
  replace hM : zM A G M_295 H := by rw [eM_296]; exact hM
  have hn_q0_q14 : q0 ≠ q14 := znf he_281 hq14
  have hn_q1_q14 : q1 ≠ q14 := znf he_282 hq14
  have hn_q2_q14 : q2 ≠ q14 := znf he_283 hq14
  have hn_q3_q14 : q3 ≠ q14 := znf he_284 hq14
  have hn_q4_q14 : q4 ≠ q14 := znf he_285 hq14
  have hn_q5_q14 : q5 ≠ q14 := znf he_286 hq14
  have hn_q6_q14 : q6 ≠ q14 := znf he_287 hq14
  have hn_q7_q14 : q7 ≠ q14 := znf he_288 hq14
  have hn_q8_q14 : q8 ≠ q14 := znf he_289 hq14
  have hn_q9_q14 : q9 ≠ q14 := znf he_290 hq14
  have hn_q10_q14 : q10 ≠ q14 := znf he_291 hq14
  have hn_q11_q14 : q11 ≠ q14 := znf he_292 hq14
  have hn_q12_q14 : q12 ≠ q14 := znf he_293 hq14
  have hn_q13_q14 : q13 ≠ q14 := znf he_294 hq14
  have he_297 : M_295 q14 = some (.inl (G.2.2 3, 5000, .inr (.inl (fun _ => 0)))) := by rw [eM_296]; exact zu_s _ _ _
  have he_298 := (show M_295 m0 = M_278 m0 by rw [eM_296]; exact zu_n (znf he_280 hq14)).trans he_280
  have he_299 := (show M_295 q0 = M_278 q0 by rw [eM_296]; exact zu_n (znf he_281 hq14)).trans he_281
  have he_300 := (show M_295 q1 = M_278 q1 by rw [eM_296]; exact zu_n (znf he_282 hq14)).trans he_282
  have he_301 := (show M_295 q2 = M_278 q2 by rw [eM_296]; exact zu_n (znf he_283 hq14)).trans he_283
  have he_302 := (show M_295 q3 = M_278 q3 by rw [eM_296]; exact zu_n (znf he_284 hq14)).trans he_284
  have he_303 := (show M_295 q4 = M_278 q4 by rw [eM_296]; exact zu_n (znf he_285 hq14)).trans he_285
  have he_304 := (show M_295 q5 = M_278 q5 by rw [eM_296]; exact zu_n (znf he_286 hq14)).trans he_286
  have he_305 := (show M_295 q6 = M_278 q6 by rw [eM_296]; exact zu_n (znf he_287 hq14)).trans he_287
  have he_306 := (show M_295 q7 = M_278 q7 by rw [eM_296]; exact zu_n (znf he_288 hq14)).trans he_288
  have he_307 := (show M_295 q8 = M_278 q8 by rw [eM_296]; exact zu_n (znf he_289 hq14)).trans he_289
  have he_308 := (show M_295 q9 = M_278 q9 by rw [eM_296]; exact zu_n (znf he_290 hq14)).trans he_290
  have he_309 := (show M_295 q10 = M_278 q10 by rw [eM_296]; exact zu_n (znf he_291 hq14)).trans he_291
  have he_310 := (show M_295 q11 = M_278 q11 by rw [eM_296]; exact zu_n (znf he_292 hq14)).trans he_292
  have he_311 := (show M_295 q12 = M_278 q12 by rw [eM_296]; exact zu_n (znf he_293 hq14)).trans he_293
  have he_312 := (show M_295 q13 = M_278 q13 by rw [eM_296]; exact zu_n (znf he_294 hq14)).trans he_294
  refine z_putF S kX3 hK hM hS he_298 17 (by decide) kw_237 rfl hnm rfl rfl rfl (Nat.le_of_ble_eq_true rfl) dX3_init_125 (fun H locs hM hS => ?_)
  obtain ⟨M_313, eM_314⟩ : ∃ z : zMap, z = zu M_295 m0 (.inr (3, [.int 0, .int 0, .ref q0, .ref q1, .ref q2, .ref q3, .ref q4, .ref q5, .ref q6, .ref q7, .ref q8, .ref q9, .ref q10, .int 0, .ref q11, .ref q12, .ref q13, .ref q14, .long 0])) := ⟨_, rfl⟩
  replace hM : zM A G M_313 H := by rw [eM_314]; exact hM
  have he_315 : M_313 m0 = some (.inr (3, [.int 0, .int 0, .ref q0, .ref q1, .ref q2, .ref q3, .ref q4, .ref q5, .ref q6, .ref q7, .ref q8, .ref q9, .ref q10, .int 0, .ref q11, .ref q12, .ref q13, .ref q14, .long 0])) := by rw [eM_314]; exact zu_s _ _ _
  have he_316 := (show M_313 q0 = M_295 q0 by rw [eM_314]; exact zu_n (zne he_299 he_298 (by simp))).trans he_299
  have he_317 := (show M_313 q1 = M_295 q1 by rw [eM_314]; exact zu_n (zne he_300 he_298 (by simp))).trans he_300
  have he_318 := (show M_313 q2 = M_295 q2 by rw [eM_314]; exact zu_n (zne he_301 he_298 (by simp))).trans he_301
  have he_319 := (show M_313 q3 = M_295 q3 by rw [eM_314]; exact zu_n (zne he_302 he_298 (by simp))).trans he_302
  have he_320 := (show M_313 q4 = M_295 q4 by rw [eM_314]; exact zu_n (zne he_303 he_298 (by simp))).trans he_303
  have he_321 := (show M_313 q5 = M_295 q5 by rw [eM_314]; exact zu_n (zne he_304 he_298 (by simp))).trans he_304
  have he_322 := (show M_313 q6 = M_295 q6 by rw [eM_314]; exact zu_n (zne he_305 he_298 (by simp))).trans he_305
  have he_323 := (show M_313 q7 = M_295 q7 by rw [eM_314]; exact zu_n (zne he_306 he_298 (by simp))).trans he_306
  have he_324 := (show M_313 q8 = M_295 q8 by rw [eM_314]; exact zu_n (zne he_307 he_298 (by simp))).trans he_307
  have he_325 := (show M_313 q9 = M_295 q9 by rw [eM_314]; exact zu_n (zne he_308 he_298 (by simp))).trans he_308
  have he_326 := (show M_313 q10 = M_295 q10 by rw [eM_314]; exact zu_n (zne he_309 he_298 (by simp))).trans he_309
  have he_327 := (show M_313 q11 = M_295 q11 by rw [eM_314]; exact zu_n (zne he_310 he_298 (by simp))).trans he_310
  have he_328 := (show M_313 q12 = M_295 q12 by rw [eM_314]; exact zu_n (zne he_311 he_298 (by simp))).trans he_311
  have he_329 := (show M_313 q13 = M_295 q13 by rw [eM_314]; exact zu_n (zne he_312 he_298 (by simp))).trans he_312
  have he_330 := (show M_313 q14 = M_295 q14 by rw [eM_314]; exact zu_n (zne he_297 he_298 (by simp))).trans he_297
  have hnd : [q0, q1, q2, q3, q4, q5, q6, q7, q8, q9, q10, q11, q12, q13, q14].Nodup := by simp [hn_q0_q1, hn_q0_q2, hn_q1_q2, hn_q0_q3, hn_q1_q3, hn_q2_q3, hn_q0_q4, hn_q1_q4, hn_q2_q4, hn_q3_q4, hn_q0_q5, hn_q1_q5, hn_q2_q5, hn_q3_q5, hn_q4_q5, hn_q0_q6, hn_q1_q6, hn_q2_q6, hn_q3_q6, hn_q4_q6, hn_q5_q6, hn_q0_q7, hn_q1_q7, hn_q2_q7, hn_q3_q7, hn_q4_q7, hn_q5_q7, hn_q6_q7, hn_q0_q8, hn_q1_q8, hn_q2_q8, hn_q3_q8, hn_q4_q8, hn_q5_q8, hn_q6_q8, hn_q7_q8, hn_q0_q9, hn_q1_q9, hn_q2_q9, hn_q3_q9, hn_q4_q9, hn_q5_q9, hn_q6_q9, hn_q7_q9, hn_q8_q9, hn_q0_q10, hn_q1_q10, hn_q2_q10, hn_q3_q10, hn_q4_q10, hn_q5_q10, hn_q6_q10, hn_q7_q10, hn_q8_q10, hn_q9_q10, hn_q0_q11, hn_q1_q11, hn_q2_q11, hn_q3_q11, hn_q4_q11, hn_q5_q11, hn_q6_q11, hn_q7_q11, hn_q8_q11, hn_q9_q11, hn_q10_q11, hn_q0_q12, hn_q1_q12, hn_q2_q12, hn_q3_q12, hn_q4_q12, hn_q5_q12, hn_q6_q12, hn_q7_q12, hn_q8_q12, hn_q9_q12, hn_q10_q12, hn_q11_q12, hn_q0_q13, hn_q1_q13, hn_q2_q13, hn_q3_q13, hn_q4_q13, hn_q5_q13, hn_q6_q13, hn_q7_q13, hn_q8_q13, hn_q9_q13, hn_q10_q13, hn_q11_q13, hn_q12_q13, hn_q0_q14, hn_q1_q14, hn_q2_q14, hn_q3_q14, hn_q4_q14, hn_q5_q14, hn_q6_q14, hn_q7_q14, hn_q8_q14, hn_q9_q14, hn_q10_q14, hn_q11_q14, hn_q12_q14, hn_q13_q14]
  exact z_vret S hr hlocks hM hS ⟨rfl, (fun i => [q0, q1, q2, q3, q4, q5, q6, q7, q8, q9, q10, q11, q12, q13, q14].getD i 0), he_315, fun i hi => by
      rcases (show i = 0 ∨ i = 1 ∨ i = 2 ∨ i = 3 ∨ i = 4 ∨ i = 5 ∨ i = 6 ∨ i = 7 ∨ i = 8 ∨ i = 9 ∨ i = 10 ∨ i = 11 ∨ i = 12 ∨ i = 13 ∨ i = 14 by omega) with rfl | rfl | rfl | rfl | rfl | rfl | rfl | rfl | rfl | rfl | rfl | rfl | rfl | rfl | rfl
      · exact he_316
      · exact he_317
      · exact he_318
      · exact he_319
      · exact he_320
      · exact he_321
      · exact he_322
      · exact he_323
      · exact he_324
      · exact he_325
      · exact he_326
      · exact he_327
      · exact he_328
      · exact he_329
      · exact he_330, fun i j hi hj e => zinj hnd i j hi hj e⟩ (Nat.le_of_ble_eq_true rfl) (Nat.le_of_ble_eq_true rfl) dX3_init_128
end
section
/-! lists of entries and the acts of all, in the order of days -/
theorem vUp_gt {d : Int64} {x : zEV} (hx : ¬ x.1 ≤ d) : ∀ l : List zEV, vUp d (l ++ [x]) = vUp d l
  | [] => if_neg hx
  | y :: l => by
    show (if y.1 ≤ d then y :: vUp d (l ++ [x]) else []) = (if y.1 ≤ d then y :: vUp d l else [])
    rw [vUp_gt hx l]
theorem vDn_gt {d : Int64} {x : zEV} (hx : ¬ x.1 ≤ d) : ∀ l : List zEV, vDn d (l ++ [x]) = vDn d l ++ [x]
  | [] => if_neg hx
  | y :: l => by
    show (if y.1 ≤ d then vDn d (l ++ [x]) else y :: (l ++ [x])) = (if y.1 ≤ d then vDn d l else y :: l) ++ [x]
    rw [vDn_gt hx l]
    by_cases h : y.1 ≤ d
    · rw [if_pos h, if_pos h]
    · rw [if_neg h, if_neg h]; rfl
theorem vUp_all {d : Int64} : ∀ {l : List zEV}, (∀ x ∈ l, x.1 ≤ d) → vUp d l = l
  | [], _ => rfl
  | y :: l, h => by
    show (if y.1 ≤ d then y :: vUp d l else []) = y :: l
    rw [if_pos (h y List.mem_cons_self), vUp_all (fun x hx => h x (List.mem_cons_of_mem _ hx))]
theorem vDn_all {d : Int64} : ∀ {l : List zEV}, (∀ x ∈ l, x.1 ≤ d) → vDn d l = []
  | [], _ => rfl
  | y :: l, h => by
    show (if y.1 ≤ d then vDn d l else y :: l) = []
    rw [if_pos (h y List.mem_cons_self), vDn_all (fun x hx => h x (List.mem_cons_of_mem _ hx))]
theorem zel_mem {aC aS aL : Nat → Int32} {aD : Nat → Int64} {cp : Int32} : ∀ {t : Nat} {x : zEV}, x ∈ zel aC aS aL aD cp t → ∃ k, k < t ∧ x = (aD k, aS k, aL k)
  | 0, _, h => by cases h
  | t + 1, x, h => by
    rw [zel] at h
    rcases List.mem_append.mp h with h | h
    · obtain ⟨k, hk, e⟩ := zel_mem h
      exact ⟨k, Nat.lt_succ_of_lt hk, e⟩
    · by_cases e : aC t = cp
      · rw [if_pos e] at h
        exact ⟨t, Nat.lt_succ_self t, List.mem_singleton.mp h⟩
      · rw [if_neg e] at h; cases h
theorem zel_congr {aC aS aL bC bS bL : Nat → Int32} {aD bD : Nat → Int64} {cp : Int32} : ∀ {t : Nat}, (∀ k, k < t → aC k = bC k ∧ aS k = bS k ∧ aL k = bL k ∧ aD k = bD k) → zel aC aS aL aD cp t = zel bC bS bL bD cp t
  | 0, _ => rfl
  | t + 1, h => by
    obtain ⟨e1, e2, e3, e4⟩ := h t (Nat.lt_succ_self t)
    rw [zel, zel, zel_congr (fun k hk => h k (Nat.lt_succ_of_lt hk)), e1, e2, e3, e4]
abbrev zSo (aD : Nat → Int64) (n : Nat) : Prop := ∀ i k, i ≤ k → k < n → aD i ≤ aD k
theorem zSo.pre {aD : Nat → Int64} {n : Nat} (h : zSo aD (n + 1)) : zSo aD n := fun i k h1 h2 => h i k h1 (Nat.lt_succ_of_lt h2)
theorem zSo.all {aC aS aL : Nat → Int32} {aD : Nat → Int64} {cp : Int32} {n : Nat} {d : Int64} (h : zSo aD (n + 1)) (hd : aD n ≤ d) : ∀ x ∈ zel aC aS aL aD cp n, x.1 ≤ d := fun x hx => by
  obtain ⟨k, hk, rfl⟩ := zel_mem hx
  exact Int64.le_trans (h k n (Nat.le_of_lt hk) (Nat.lt_succ_self n)) hd
/-- the state on a day agrees -/
theorem zst_last {aC aS aL : Nat → Int32} {aD : Nat → Int64} {cp : Int32} {d : Int64} : ∀ {n : Nat}, zSo aD n → (vUp d (zel aC aS aL aD cp n)).getLast? = (match zlm aC aD cp d n with
    | 0 => none
    | z + 1 => some (aD z, aS z, aL z))
  | 0, _ => rfl
  | n + 1, h => by
    rw [zel, zlm]
    by_cases e : aC n = cp
    · by_cases g : aD n ≤ d
      · rw [if_pos e, if_pos ⟨e, g⟩, vUp_all, List.getLast?_concat]
        intro x hx
        rcases List.mem_append.mp hx with hx | hx
        · exact h.all g x hx
        · rw [List.mem_singleton.mp hx]; exact g
      · rw [if_pos e, if_neg (fun q => g q.2), vUp_gt g]
        exact zst_last h.pre
    · rw [if_neg e, if_neg (fun q => e q.1), List.append_nil]
      exact zst_last h.pre
theorem zst_eq {aC aS aL : Nat → Int32} {aD : Nat → Int64} {cp : Int32} {d : Int64} {n : Nat} (h : zSo aD n) : vSt d (zel aC aS aL aD cp n) = zms aC aS aD cp d n := by
  unfold vSt zms
  rw [zst_last h]
  cases zlm aC aD cp d n <;> rfl
/-- the place of a new act -/
theorem zps_lo {aD : Nat → Int64} {d : Int64} : ∀ {n : Nat}, zSo aD n → ∀ k, k < zps aD d n → aD k ≤ d
  | 0, _, k, hk => absurd hk (Nat.not_lt_zero k)
  | n + 1, h, k, hk => by
    rw [zps] at hk
    by_cases g : d < aD n
    · rw [if_pos g] at hk
      exact zps_lo h.pre k hk
    · rw [if_neg g] at hk
      exact Int64.le_trans (h k n (Nat.le_of_lt_succ hk) (Nat.lt_succ_self n)) (Int64.not_lt.mp g)
theorem zps_hi {aD : Nat → Int64} {d : Int64} : ∀ {n : Nat}, ∀ k, zps aD d n ≤ k → k < n → d < aD k
  | 0, k, _, hk => absurd hk (Nat.not_lt_zero k)
  | n + 1, k, hp, hk => by
    rw [zps] at hp
    by_cases g : d < aD n
    · rw [if_pos g] at hp
      rcases Nat.lt_succ_iff_lt_or_eq.mp hk with h | h
      · exact zps_hi k hp h
      · rw [h]; exact g
    · rw [if_neg g] at hp
      omega
theorem zpi_lt {α : Type} {f : Nat → α} {p n k : Nat} {x : α} (h : k < p) : zpi f p n x k = f k := by
  unfold zpi zsh
  rw [if_neg (by omega), if_neg (by omega)]
theorem zpi_at {α : Type} {f : Nat → α} {p n : Nat} {x : α} : zpi f p n x p = x := if_pos rfl
theorem zpi_gt {α : Type} {f : Nat → α} {p n k : Nat} {x : α} (h : p < k) (hn : k ≤ n) : zpi f p n x k = f (k - 1) := by
  unfold zpi zsh
  rw [if_neg (by omega), if_pos ⟨h, hn⟩]
theorem zpi_n {α : Type} {f : Nat → α} {p n k : Nat} {x : α} (hk : k ≤ n) : zpi f p (n + 1) x k = zpi f p n x k := by
  unfold zpi zsh
  by_cases e : k = p
  · rw [if_pos e, if_pos e]
  · rw [if_neg e, if_neg e]
    by_cases g : p < k
    · rw [if_pos ⟨g, by omega⟩, if_pos ⟨g, hk⟩]
    · rw [if_neg (fun q => g q.1), if_neg (fun q => g q.1)]
theorem zSo.ins {aD : Nat → Int64} {d : Int64} {n : Nat} (h : zSo aD n) : zSo (zpi aD (zps aD d n) n d) (n + 1) := by
  intro i k hik hk
  have hp := zps_le aD d n
  rcases Nat.lt_trichotomy k (zps aD d n) with h1 | h1 | h1
  · rw [zpi_lt h1, zpi_lt (by omega)]
    exact h i k hik (by omega)
  · rw [h1, zpi_at]
    rcases Nat.lt_or_ge i (zps aD d n) with h2 | h2
    · rw [zpi_lt h2]; exact zps_lo h i h2
    · rw [show i = zps aD d n by omega, zpi_at]; exact Int64.le_refl _
  · rw [zpi_gt h1 (by omega)]
    rcases Nat.lt_trichotomy i (zps aD d n) with h2 | h2 | h2
    · rw [zpi_lt h2]
      exact h i (k - 1) (by omega) (by omega)
    · rw [h2, zpi_at]
      exact Int64.le_of_lt (zps_hi (n := n) (k - 1) (by omega) (by omega))
    · rw [zpi_gt h2 (by omega)]
      exact h (i - 1) (k - 1) (by omega) (by omega)
theorem vIns_gt {d : Int64} {x y : zEV} (hy : ¬ y.1 ≤ d) (l : List zEV) : vIns d x (l ++ [y]) = vIns d x l ++ [y] := by
  unfold vIns
  rw [vUp_gt hy, vDn_gt hy, List.append_assoc]
  rfl
theorem vIns_all {d : Int64} {x : zEV} {l : List zEV} (h : ∀ y ∈ l, y.1 ≤ d) : vIns d x l = l ++ [x] := by
  unfold vIns
  rw [vUp_all h, vDn_all h]
/-- entering into the acts of all is entering into one copy's -/
theorem zel_ins {aC aS aL : Nat → Int32} {aD : Nat → Int64} {cp cn sn ln : Int32} {d : Int64} : ∀ {n : Nat}, zSo aD n →
    zel (zpi aC (zps aD d n) n cn) (zpi aS (zps aD d n) n sn) (zpi aL (zps aD d n) n ln) (zpi aD (zps aD d n) n d) cp (n + 1) = if cn = cp then vIns d (d, sn, ln) (zel aC aS aL aD cp n) else zel aC aS aL aD cp n
  | 0, _ => by
    show [] ++ (if cn = cp then [(d, sn, ln)] else []) = if cn = cp then vIns d (d, sn, ln) [] else []
    by_cases e : cn = cp
    · rw [if_pos e, if_pos e]; rfl
    · rw [if_neg e, if_neg e]; rfl
  | n + 1, h => by
    rw [zps]
    by_cases g : d < aD n
    · rw [if_pos g]
      have hp := zps_le aD d n
      rw [zel, zel_congr (bC := zpi aC (zps aD d n) n cn) (bS := zpi aS (zps aD d n) n sn) (bL := zpi aL (zps aD d n) n ln) (bD := zpi aD (zps aD d n) n d) (fun k hk => ⟨zpi_n (by omega), zpi_n (by omega), zpi_n (by omega), zpi_n (by omega)⟩), zel_ins h.pre]
      rw [zpi_gt (by omega) (Nat.le_refl _), zpi_gt (by omega) (Nat.le_refl _), zpi_gt (by omega) (Nat.le_refl _), zpi_gt (by omega) (Nat.le_refl _), Nat.add_sub_cancel]
      rw [show zel aC aS aL aD cp (n + 1) = zel aC aS aL aD cp n ++ (if aC n = cp then [(aD n, aS n, aL n)] else []) from rfl]
      have hy : ¬ ((aD n, aS n, aL n) : zEV).1 ≤ d := Int64.not_le.mpr g
      by_cases e : cn = cp
      · rw [if_pos e, if_pos e]
        by_cases e2 : aC n = cp
        · rw [if_pos e2, vIns_gt hy]
        · rw [if_neg e2, List.append_nil, List.append_nil]
      · rw [if_neg e, if_neg e]
    · rw [if_neg g]
      have hd : aD n ≤ d := Int64.not_lt.mp g
      rw [zel, zel_congr (bC := aC) (bS := aS) (bL := aL) (bD := aD) (fun k hk => ⟨zpi_lt hk, zpi_lt hk, zpi_lt hk, zpi_lt hk⟩), zpi_at, zpi_at, zpi_at, zpi_at]
      by_cases e : cn = cp
      · rw [if_pos e, if_pos e, vIns_all]
        intro y hy
        rw [zel] at hy
        rcases List.mem_append.mp hy with hy | hy
        · exact h.all hd y hy
        · by_cases e2 : aC n = cp
          · rw [if_pos e2] at hy; rw [List.mem_singleton.mp hy]; exact hd
          · rw [if_neg e2] at hy; cases hy
      · rw [if_neg e, if_neg e, List.append_nil]
/-! class and reference side by side -/
abbrev zr7 (x : Int32) : Prop := ∃ b : Nat, b < 8 ∧ x = nI b
def zSm (N : Nat) (ch : Nat → List (Nat × zEV)) (ac : Nat) (F : Nat → Nat → Int32) (L : Nat → Nat → Int64) (t : Nat) : Prop :=
  ac ≤ t ∧ (∀ j, j < N → (ch j).map Prod.snd = zel (F 11) (F 12) (F 13) (L 14) (nI (j + 1)) ac) ∧ zSo (L 14) ac ∧ (∀ j, j < N → zTy (F 0 (j + 1)) ∧ zPl (F 4 (j + 1)) ∧ zr7 (F 5 (j + 1))) ∧ (∀ a, a < ac → zr7 (F 12 a) ∧ ∃ j, j < N ∧ F 11 a = nI (j + 1)) ∧ (∀ k, zbool (F 13 k)) ∧ (∀ k, zbool (F 6 k)) ∧ ∀ i, N < i → F 6 i = 0 ∧ F 8 i = 0
def zSim (G : zG) (M1 M2 : zMap) (h0 m0 t : Nat) : Prop := ∃ (cps den fee N : Nat) (ca : Nat → Nat) (ch : Nat → List (Nat × zEV)) (ar : Nat → Nat) (th : Int32) (ac : Nat) (gr : Int64) (F : Nat → Nat → Int32) (L : Nat → Nat → Int64),
  zI G M1 h0 cps den fee N ca (cvm F L) ch (F 9) (F 10) gr ac ∧ zJ G M2 m0 ar th (nI N) (nI ac) gr F L ∧ zSm N ch ac F L t
theorem zI.cg {G : zG} {M : zMap} {h0 cps den fee N : Nat} {ca : Nat → Nat} {cv cv' : Nat → zCV} {ch : Nat → List (Nat × zEV)} {dn fe : Nat → Int32} {gd : Int64} {ec : Nat} (h : zI G M h0 cps den fee N ca cv ch dn fe gd ec) (e : ∀ j, j < N → cv j = cv' j) : zI G M h0 cps den fee N ca cv' ch dn fe gd ec := by
  obtain ⟨a1, a2, a3, a4, a5, a6, a7, a8⟩ := h
  exact ⟨a1, a2, a3, a4, a5, a6, fun j hj => by rw [← e j hj]; exact a7 j hj, a8⟩
theorem zsel_cg {N : Nat} {k d : Int32} {f g : Nat → Int32} (hN : N ≤ 80) (h : ∀ j, j < N → f j = g j) : zsel N k d f = zsel N k d g := by
  cases hz : zIx N k with
  | none => rw [zsel_n hz, zsel_n hz]
  | some j => rw [zsel_s hz, zsel_s hz, h j (zIx_some hN hz).1]
section ZSI
variable {G : zG} {M1 M2 M1' M2' : zMap} {h0 m0 cps den fee N : Nat} {ca : Nat → Nat} {ch : Nat → List (Nat × zEV)} {ar : Nat → Nat} {ac t : Nat} {gr : Int64} {F : Nat → Nat → Int32} {L : Nat → Nat → Int64}
theorem zSm.up (h : zSm N ch ac F L t) : zSm N ch ac F L (t + 1) := ⟨Nat.le_succ_of_le h.1, h.2⟩
theorem sm_same (hI : zI G M1 h0 cps den fee N ca (cvm F L) ch (F 9) (F 10) gr ac) (hJ : zJ G M2 m0 ar 0 (nI N) (nI ac) gr F L) (h : zSm N ch ac F L t) : zSim G M1 M2 h0 m0 (t + 1) := ⟨cps, den, fee, N, ca, ch, ar, 0, ac, gr, F, L, hI, hJ, h.up⟩
theorem sm_right {f : Nat → Int32} (hI : zI G M1 h0 cps den fee N ca (cvm F L) ch f (F 10) gr ac) (hJ : zJ G M2 m0 ar 0 (nI N) (nI ac) gr (zuf F 9 f) L) (h : zSm N ch ac F L t) : zSim G M1 M2 h0 m0 (t + 1) := ⟨cps, den, fee, N, ca, ch, ar, 0, ac, gr, zuf F 9 f, L, hI, hJ, h.up⟩
theorem sm_fee {f : Nat → Int32} (hI : zI G M1 h0 cps den fee N ca (cvm F L) ch (F 9) f gr ac) (hJ : zJ G M2 m0 ar 0 (nI N) (nI ac) gr (zuf F 10 f) L) (h : zSm N ch ac F L t) : zSim G M1 M2 h0 m0 (t + 1) := ⟨cps, den, fee, N, ca, ch, ar, 0, ac, gr, zuf F 10 f, L, hI, hJ, h.up⟩
theorem sm_floats {k on : Int32} (hb : zbool on) (hI : zI G M1 h0 cps den fee N ca (zFl N k on (cvm F L)) ch (F 9) (F 10) gr ac) (hJ : zJ G M2 m0 ar 0 (nI N) (nI ac) gr (zFlm N k on F) L) (h : zSm N ch ac F L t) : zSim G M1 M2 h0 m0 (t + 1) := by
  unfold zFl at hI
  unfold zFlm at hJ
  cases hz : zIx N k with
  | none => rw [hz] at hI hJ; exact sm_same hI hJ h
  | some j =>
    rw [hz] at hI hJ
    dsimp only at hI hJ
    have hN := hI.2.2.2.2.2.1
    obtain ⟨hj, -⟩ := zIx_some hN hz
    refine ⟨cps, den, fee, N, ca, ch, ar, 0, ac, gr, zuf F 6 (upd (F 6) (j + 1) on), L, hI.cg (fun i hi => ?_), hJ, ?_⟩
    · by_cases e : i = j
      · subst e
        rw [zuf_s]
        show _ = (F 0 (i + 1), L 1 (i + 1), F 2 (i + 1), F 3 (i + 1), F 4 (i + 1), F 5 (i + 1), upd (F 6) (i + 1) on (i + 1), F 8 (i + 1), F 7 (i + 1))
        rw [pk_us]
        rfl
      · rw [zuf_n e]
        show _ = (F 0 (i + 1), L 1 (i + 1), F 2 (i + 1), F 3 (i + 1), F 4 (i + 1), F 5 (i + 1), upd (F 6) (j + 1) on (i + 1), F 8 (i + 1), F 7 (i + 1))
        rw [pk_un (by omega)]
        rfl
    · obtain ⟨a1, a2, a3, a4, a5, a6, a7, a8⟩ := h
      refine ⟨Nat.le_succ_of_le a1, a2, a3, a4, a5, a6, fun i => ?_, fun i hi => ?_⟩
      · show zbool (upd (F 6) (j + 1) on i)
        unfold upd
        by_cases e : i = j + 1
        · rw [if_pos e]; exact hb
        · rw [if_neg e]; exact a7 i
      · show upd (F 6) (j + 1) on i = 0 ∧ F 8 i = 0
        rw [pk_un (by omega)]
        exact a8 i hi
/-- one more copy -/
theorem sm_copy {q : Nat} {ty : Int32} {bc : Int64} {dg hm : Int32} (ht : zTy ty) (hp : zPl hm) (hI : zI G M1 h0 cps den fee (N + 1) (zuf ca N q) (zuf (cvm F L) N (ty, bc, dg, hm, hm, 3, 0, 0, -1)) (zuf ch N []) (F 9) (F 10) gr ac) (hJ : zJ G M2 m0 ar 0 (nI (N + 1)) (nI ac) gr (zNF F N ty dg hm) (zuf L 1 (vp_updL (L 1) (N + 1) bc))) (h : zSm N ch ac F L t) : zSim G M1 M2 h0 m0 (t + 1) := by
  obtain ⟨a1, a2, a3, a4, a5, a6, a7, a8⟩ := h
  have hN1 := hI.2.2.2.2.2.1
  have hno : ∀ a, a < ac → F 11 a ≠ nI (N + 1) := fun a ha e => by
    obtain ⟨-, j, hj, e2⟩ := a5 a ha
    rw [e2, nI_eq (by omega) (by omega)] at e
    omega
  have hold : ∀ {f : Nat → Int32} {x : Int32} {i : Nat}, i < N → upd f (N + 1) x (i + 1) = f (i + 1) := fun {f x i} hi => pk_un (by omega)
  have holdL : ∀ {f : Nat → Int64} {x : Int64} {i : Nat}, i < N → vp_updL f (N + 1) x (i + 1) = f (i + 1) := fun {f x i} hi => pk_uLn (by omega)
  refine ⟨cps, den, fee, N + 1, zuf ca N q, zuf ch N [], ar, 0, ac, gr, zNF F N ty dg hm, _, hI.cg (fun i hi => ?_), hJ, Nat.le_succ_of_le a1, fun i hi => ?_, a3, fun i hi => ?_, fun a ha => ⟨(a5 a ha).1, by obtain ⟨j, hj, e2⟩ := (a5 a ha).2; exact ⟨j, by omega, e2⟩⟩, a6, a7, fun i hi => a8 i (by omega)⟩
  · show _ = (upd (F 0) (N + 1) ty (i + 1), vp_updL (L 1) (N + 1) bc (i + 1), upd (F 2) (N + 1) dg (i + 1), upd (F 3) (N + 1) hm (i + 1), upd (F 4) (N + 1) hm (i + 1), upd (F 5) (N + 1) 3 (i + 1), F 6 (i + 1), F 8 (i + 1), upd (F 7) (N + 1) (-1) (i + 1))
    by_cases e : i = N
    · subst e
      rw [zuf_s, pk_us, pk_uLs, pk_us, pk_us, pk_us, pk_us, pk_us, (a8 (i + 1) (by omega)).1, (a8 (i + 1) (by omega)).2]
    · have hi2 : i < N := by omega
      rw [zuf_n e, hold hi2, holdL hi2, hold hi2, hold hi2, hold hi2, hold hi2, hold hi2]
      rfl
  · show (zuf ch N [] i).map Prod.snd = zel (F 11) (F 12) (F 13) (L 14) (nI (i + 1)) ac
    by_cases e : i = N
    · subst e
      rw [zuf_s]
      have key : ∀ n, n ≤ ac → zel (F 11) (F 12) (F 13) (L 14) (nI (i + 1)) n = [] := by
        intro n
        induction n with
        | zero => intro _; rfl
        | succ n ih => intro hn; rw [zel, ih (by omega), if_neg (hno n (by omega))]; rfl
      rw [key ac (Nat.le_refl _)]
      rfl
    · rw [zuf_n e]
      exact a2 i (by omega)
  · show zTy (upd (F 0) (N + 1) ty (i + 1)) ∧ zPl (upd (F 4) (N + 1) hm (i + 1)) ∧ zr7 (upd (F 5) (N + 1) 3 (i + 1))
    by_cases e : i = N
    · subst e
      rw [pk_us, pk_us, pk_us]
      exact ⟨ht, hp, 3, by decide, rfl⟩
    · have hi2 : i < N := by omega
      rw [hold hi2, hold hi2, hold hi2]
      exact a4 i hi2
/-- an act is entered -/
theorem sm_ent {j q p : Nat} {cv' : Nat → zCV} {d : Int64} {sn ln : Int32} {gr' : Int64} {F' : Nat → Nat → Int32} {L' : Nat → Nat → Int64} (hj : j < N) (hp : p = zps (L 14) d ac) (hI : zI G M1 h0 cps den fee N ca cv' (zuf ch j (zIns d (q, d, sn, ln) (ch j))) (F' 9) (F' 10) gr' (ac + 1)) (hJ : zJ G M2 m0 ar 0 (nI N) (nI (ac + 1)) gr' F' L') (h : zSm N ch ac F L t)
    (e11 : F' 11 = zpi (F 11) p ac (nI (j + 1))) (e12 : F' 12 = zpi (F 12) p ac sn) (e13 : F' 13 = zpi (F 13) p ac ln) (e14 : L' 14 = zpi (L 14) p ac d) (hcv : ∀ i, i < N → cv' i = cvm F' L' i) (hr : ∀ i, i < N → zTy (F' 0 (i + 1)) ∧ zPl (F' 4 (i + 1)) ∧ zr7 (F' 5 (i + 1))) (hsn : zr7 sn) (hln : zbool ln) (h6 : F' 6 = F 6) (h8 : ∀ i, N < i → F' 8 i = F 8 i) : zSim G M1 M2 h0 m0 (t + 1) := by
  obtain ⟨a1, a2, a3, a4, a5, a6, a7, a8⟩ := h
  have hN := hI.2.2.2.2.2.1
  subst hp
  have hpl := zps_le (L 14) d ac
  have pick : ∀ {α : Type} {P : α → Prop} {f : Nat → α} {x : α}, (∀ a, a < ac → P (f a)) → P x → ∀ a, a < ac + 1 → P (zpi f (zps (L 14) d ac) ac x a) := by
    intro α P f x hf hx a ha
    rcases Nat.lt_trichotomy a (zps (L 14) d ac) with g | g | g
    · rw [zpi_lt g]; exact hf a (by omega)
    · rw [g, zpi_at]; exact hx
    · rw [zpi_gt g (by omega)]; exact hf (a - 1) (by omega)
  refine ⟨cps, den, fee, N, ca, _, ar, 0, ac + 1, gr', F', L', hI.cg hcv, hJ, Nat.succ_le_succ a1, fun i hi => ?_, ?_, hr, fun a ha => ⟨?_, ?_⟩, fun k => ?_, ?_, fun i hi => ?_⟩
  · rw [e11, e12, e13, e14, zel_ins a3]
    by_cases e : i = j
    · subst e
      rw [zuf_s, if_pos rfl, zIns_map, a2 i hi]
    · rw [zuf_n e, if_neg (fun z => by rw [nI_eq (by omega) (by omega)] at z; omega)]
      exact a2 i hi
  · rw [e14]; exact a3.ins
  · rw [e12]; exact pick (fun a ha => (a5 a ha).1) hsn a ha
  · rw [e11]; exact pick (P := fun x => ∃ j, j < N ∧ x = nI (j + 1)) (fun a ha => (a5 a ha).2) ⟨j, hj, rfl⟩ a ha
  · rw [e13]
    unfold zpi zsh
    by_cases g : k = zps (L 14) d ac
    · rw [if_pos g]; exact hln
    · rw [if_neg g]
      by_cases g2 : zps (L 14) d ac < k ∧ k ≤ ac
      · rw [if_pos g2]; exact a6 _
      · rw [if_neg g2]; exact a6 _
  · rw [h6]; exact a7
  · rw [h6, h8 i hi]; exact a8 i hi
theorem z512 {ac : Nat} (h : ac < 512) : nI ac < (512 : Int32) := nI_lt (a := ac) (b := 512) h (by decide)
theorem z99 (x : Int32) : x ≤ 99 ↔ ¬ 100 ≤ x := by
  rw [Int32.le_iff_toInt_le, Int32.le_iff_toInt_le]
  have e1 : (99 : Int32).toInt = 99 := rfl
  have e0 : (100 : Int32).toInt = 100 := rfl
  omega
theorem zgr1 (g : Int64) : (if g + 1 < g then g else g + 1) = (if g + 1 ≤ g then g else g + 1) := by
  have hne : g + 1 ≠ g := fun q => by
    have h2 : -g + (g + 1) = -g + g := by rw [q]
    rw [← Int64.add_assoc, Int64.add_left_neg, Int64.zero_add] at h2
    exact absurd h2 (by decide)
  by_cases h : g + 1 < g
  · rw [if_pos h, if_pos (Int64.le_of_lt h)]
  · rw [if_neg h, if_neg (fun q => h (Int64.lt_of_le_of_ne q hne))]
theorem sm_weed {k who : Int32} {r1 r2 : Option Value} (hN : N ≤ 80) (hac : ac < 512) (h : zSm N ch ac F L t) (h1 : zWQ G h0 cps den fee N ca (cvm F L) ch (F 9) (F 10) gr ac k who r1 M1) (h2 : zVQ G m0 ar N ac gr F L k who r2 M2) : ∃ x, r1 = some (.int x) ∧ r2 = some (.int x) ∧ zSim G M1 M2 h0 m0 (t + 1) := by
  unfold zWQ at h1
  unfold zVQ at h2
  cases hz : zIx N k with
  | none =>
    rw [hz] at h1 h2
    exact ⟨-1, h1.1, h2.1, sm_same h1.2 h2.2 h⟩
  | some j =>
    rw [hz] at h1 h2
    dsimp only at h1 h2
    obtain ⟨hj, -⟩ := zIx_some hN hz
    by_cases c1 : ¬ who < 0 ∧ who ≤ 99
    · rw [if_pos ⟨c1.1, (z99 who).mp c1.2, z512 hac⟩] at h1
      rw [if_pos c1] at h2
      by_cases c2 : zWd (F 5 (j + 1)) ∧ ¬ F 7 (j + 1) = who
      · rw [if_pos c2] at h2
        rw [if_pos (show zWd (cvm F L j).2.2.2.2.2.1 ∧ ¬ (cvm F L j).2.2.2.2.2.2.2.2 = who from c2)] at h1
        by_cases c3 : F 7 (j + 1) = -1
        · rw [if_pos c3] at h2
          rw [if_pos (show (cvm F L j).2.2.2.2.2.2.2.2 = -1 from c3)] at h1
          refine ⟨1, h1.1, h2.1, cps, den, fee, N, ca, ch, ar, 0, ac, gr, zuf F 7 (upd (F 7) (j + 1) who), L, h1.2.cg (fun i hi => ?_), h2.2, h.up⟩
          show _ = (F 0 (i + 1), L 1 (i + 1), F 2 (i + 1), F 3 (i + 1), F 4 (i + 1), F 5 (i + 1), F 6 (i + 1), F 8 (i + 1), upd (F 7) (j + 1) who (i + 1))
          by_cases e : i = j
          · subst e; rw [zuf_s, pk_us]; rfl
          · rw [zuf_n e, pk_un (by omega)]; rfl
        · rw [if_neg c3] at h2
          rw [if_neg (show ¬ (cvm F L j).2.2.2.2.2.2.2.2 = -1 from c3)] at h1
          obtain ⟨h1a, q, h1b⟩ := h1
          rw [zgr1] at h1b
          refine ⟨2, h1a, h2.1, sm_ent (p := zps (L 14) (gr + 1) ac) (F' := zuf (zEN F (zps (L 14) (gr + 1) ac) ac (nI (j + 1)) 7 0) 5 (upd (F 5) (j + 1) 7)) (L' := zuf L 14 (zpi (L 14) (zps (L 14) (gr + 1) ac) ac (gr + 1))) hj rfl h1b h2.2 h rfl rfl rfl rfl (fun i hi => ?_) (fun i hi => ?_) ⟨7, by decide, rfl⟩ (Or.inl rfl) rfl (fun i hi => rfl)⟩
          · show _ = (F 0 (i + 1), L 1 (i + 1), F 2 (i + 1), F 3 (i + 1), F 4 (i + 1), upd (F 5) (j + 1) 7 (i + 1), F 6 (i + 1), F 8 (i + 1), F 7 (i + 1))
            by_cases e : i = j
            · subst e; rw [zuf_s, pk_us]; rfl
            · rw [zuf_n e, pk_un (by omega)]; rfl
          · show zTy (F 0 (i + 1)) ∧ zPl (F 4 (i + 1)) ∧ zr7 (upd (F 5) (j + 1) 7 (i + 1))
            by_cases e : i = j
            · subst e; rw [pk_us]; exact ⟨(h.2.2.2.1 i hi).1, (h.2.2.2.1 i hi).2.1, 7, by decide, rfl⟩
            · rw [pk_un (by omega)]; exact h.2.2.2.1 i hi
      · rw [if_neg c2] at h2
        rw [if_neg (show ¬ (zWd (cvm F L j).2.2.2.2.2.1 ∧ ¬ (cvm F L j).2.2.2.2.2.2.2.2 = who) from c2)] at h1
        exact ⟨-2, h1.1, h2.1, sm_same h1.2 h2.2 h⟩
    · rw [if_neg (fun q => c1 ⟨q.1, (z99 who).mpr q.2.1⟩)] at h1
      rw [if_neg c1] at h2
      exact ⟨-1, h1.1, h2.1, sm_same h1.2 h2.2 h⟩
theorem zFo_Fm0 : ((List.range 7).all fun a => (List.range 8).all fun b => decide (zFo (nI a) (nI b)) == decide (zFm (nI a) (nI b))) = true := by decide +kernel
theorem zFo_Fm {k x : Int32} (h0 : ¬ k < 0) (h6 : ¬ 6 < k) (hx : zr7 x) : zFo k x ↔ zFm k x := by
  obtain ⟨b, hb, rfl⟩ := hx
  obtain ⟨a, ha, rfl⟩ := zIn (n := 7) rfl (by decide) h0 (fun q => h6 ((zcmp 6 7 6 rfl rfl k).mpr q))
  have h1 := List.all_eq_true.mp zFo_Fm0 a (List.mem_range.mpr ha)
  have h2 := List.all_eq_true.mp h1 b (List.mem_range.mpr hb)
  have h3 := eq_of_beq h2
  constructor
  · intro q; exact of_decide_eq_true (h3 ▸ decide_eq_true q)
  · intro q; exact of_decide_eq_true (h3.symm ▸ decide_eq_true q)
theorem zms_r7 {aC aS : Nat → Int32} {aD : Nat → Int64} {cp : Int32} {d : Int64} {n : Nat} (h : ∀ a, a < n → zr7 (aS a)) : zr7 (zms aC aS aD cp d n) := by
  cases hm : zlm aC aD cp d n with
  | zero => rw [zms_z hm]; exact ⟨3, by decide, rfl⟩
  | succ z =>
    rw [zms_s hm]
    have := zlm_le aC aD cp d n
    exact h z (by omega)
theorem sm_act {k kind place : Int32} {day : Int64} {r1 r2 : Option Value} (hN : N ≤ 80) (hac : ac < 512) (h : zSm N ch ac F L t) (h1 : zAQ G h0 cps den fee N ca (cvm F L) ch (F 9) (F 10) gr ac k kind place day r1 M1) (h2 : zBQ G m0 ar N ac gr F L k kind place day r2 M2) : ∃ x, r1 = some (.int x) ∧ r2 = some (.int x) ∧ zSim G M1 M2 h0 m0 (t + 1) := by
  unfold zAQ at h1
  unfold zBQ at h2
  cases hz : zIx N k with
  | none =>
    rw [hz] at h1 h2
    exact ⟨-1, h1.1, h2.1, sm_same h1.2 h2.2 h⟩
  | some j =>
    rw [hz] at h1 h2
    dsimp only at h1 h2
    obtain ⟨hj, -⟩ := zIx_some hN hz
    obtain ⟨a1, a2, a3, a4, a5, a6, a7, a8⟩ := id h
    have est : zSt day (ch j) = zms (F 11) (F 12) (L 14) (nI (j + 1)) day ac := by rw [zSt_map, a2 j hj, zst_eq a3]
    rw [est] at h1
    obtain ⟨fro, efro⟩ : ∃ z, z = zBe gr day (F 5 (j + 1)) (zms (F 11) (F 12) (L 14) (nI (j + 1)) day ac) := ⟨_, rfl⟩
    have hfr : zr7 fro := by
      rw [efro]
      unfold zBe
      by_cases hl : day < gr
      · rw [if_pos hl]; exact zms_r7 (fun a ha => (a5 a ha).1)
      · rw [if_neg hl]; exact (a4 j hj).2.2
    rw [show zBe gr day (cvm F L j).2.2.2.2.2.1 (zms (F 11) (F 12) (L 14) (nI (j + 1)) day ac) = fro from efro.symm] at h1
    rw [← efro] at h2
    by_cases c1 : zA1m kind place (F 4 (j + 1)) day
    · rw [if_pos c1] at h2
      rw [if_pos (show zA1 kind place (cvm F L j).2.2.2.2.1 day ac from ⟨c1.1, c1.2.1, c1.2.2.1, Int64.not_lt.mp c1.2.2.2.1, c1.2.2.2.2, z512 hac⟩)] at h1
      by_cases c2 : zFm kind fro
      · rw [if_pos c2] at h2
        rw [if_pos ((zFo_Fm c1.1 c1.2.1 hfr).mpr c2)] at h1
        have hty := (a4 j hj).1
        have hpl := (a4 j hj).2.1
        have key : zLk (F 9) kind place (zb (day < gr)) (cvm F L j).2.2.2.2.2.1 (cvm F L j).2.2.2.2.1 (cvm F L j).1 ↔ zLm (F 9) kind place day gr fro (F 4 (j + 1)) (F 0 (j + 1)) := by
          show (kind = 2 ∧ ¬ zRi (F 9) place (F 0 (j + 1))) ∨ (kind = 0 ∧ F 5 (j + 1) = 2 ∧ zb (day < gr) = 0 ∧ ¬ zRi (F 9) (F 4 (j + 1)) (F 0 (j + 1))) ↔ _
          constructor
          · rintro (⟨e1, e2⟩ | ⟨e1, e2, e3, e4⟩)
            · exact Or.inl ⟨e1, fun q => e2 ⟨(c1.2.2.2.2 e1).1, hty, by rw [zix6]; exact q⟩⟩
            · have hl := zb_0.mp e3
              exact Or.inr ⟨e1, hl, by rw [efro, zBe_n hl]; exact e2, fun q => e4 ⟨hpl, hty, by rw [zix6]; exact q⟩⟩
          · rintro (⟨e1, e2⟩ | ⟨e1, hl, e3, e4⟩)
            · exact Or.inl ⟨e1, fun q => e2 (by have := q.2.2; rw [zix6] at this; exact this)⟩
            · exact Or.inr ⟨e1, by rw [efro, zBe_n hl] at e3; exact e3, zb_0.mpr hl, fun q => e4 (by have := q.2.2; rw [zix6] at this; exact this)⟩
        by_cases c3 : zLm (F 9) kind place day gr fro (F 4 (j + 1)) (F 0 (j + 1))
        · rw [if_pos c3] at h2
          rw [if_pos (key.mpr c3)] at h1
          exact ⟨-3, h1.1, h2.1, sm_same h1.2 h2.2 h⟩
        · rw [if_neg c3] at h2
          rw [if_neg (fun q => c3 (key.mp q))] at h1
          obtain ⟨h1a, q, h1b⟩ := h1
          obtain ⟨h2a, h2b⟩ := h2
          have hk7 : zr7 kind := by
            obtain ⟨a, ha, e⟩ := zIn (n := 7) rfl (by decide) c1.1 (fun q => c1.2.1 ((zcmp 6 7 6 rfl rfl kind).mpr q))
            exact ⟨a, by omega, e⟩
          refine ⟨kind, h1a, h2a, ?_⟩
          by_cases hl : day < gr
          · rw [if_pos hl, if_pos hl] at h1b
            rw [if_pos (Int64.le_of_lt hl), if_pos hl] at h2b
            exact sm_ent (p := zps (L 14) day ac) (F' := zEN F (zps (L 14) day ac) ac (nI (j + 1)) kind (zb (day < gr))) (L' := zuf L 14 (zpi (L 14) (zps (L 14) day ac) ac day)) hj rfl h1b h2b h rfl rfl rfl rfl (fun i hi => rfl) a4 hk7 zb_bool rfl (fun i hi => rfl)
          · rw [if_neg hl, if_neg hl] at h1b
            have egr : (if day ≤ gr then gr else day) = day := by
              by_cases hle : day ≤ gr
              · rw [if_pos hle]; exact Int64.le_antisymm (Int64.not_lt.mp hl) hle
              · rw [if_neg hle]
            rw [egr, if_neg hl] at h2b
            have efr : fro = F 5 (j + 1) := by rw [efro, zBe_n hl]
            rw [efr] at h2b
            refine sm_ent (p := zps (L 14) day ac) (F' := zCF (zEN F (zps (L 14) day ac) ac (nI (j + 1)) kind (zb (day < gr))) j kind place (F 5 (j + 1))) (L' := zuf L 14 (zpi (L 14) (zps (L 14) day ac) ac day)) hj rfl h1b h2b h rfl rfl rfl rfl (fun i hi => ?_) (fun i hi => ?_) hk7 zb_bool rfl (fun i hi => ?_)
            · show _ = (F 0 (i + 1), L 1 (i + 1), F 2 (i + 1), upd (F 3) (j + 1) (if kind = 0 ∧ ¬ F 6 (j + 1) = 0 then F 4 (j + 1) else F 3 (j + 1)) (i + 1), upd (F 4) (j + 1) (if kind = 2 then place else F 4 (j + 1)) (i + 1), upd (F 5) (j + 1) kind (i + 1), F 6 (i + 1), upd (F 8) (j + 1) (F 8 (j + 1) + (if kind = 6 ∧ F 5 (j + 1) = 1 then F 10 (F 0 (j + 1)).toNatClampNeg else 0)) (i + 1), upd (F 7) (j + 1) (-1) (i + 1))
              by_cases e : i = j
              · subst e
                rw [zuf_s, pk_us, pk_us, pk_us, pk_us, pk_us]
                have eo : F 8 (i + 1) + (if kind = 6 ∧ F 5 (i + 1) = 1 then F 10 (F 0 (i + 1)).toNatClampNeg else 0) = (if kind = 6 ∧ F 5 (i + 1) = 1 ∧ zTy (F 0 (i + 1)) then F 8 (i + 1) + F 10 (F 0 (i + 1)).toNatClampNeg else F 8 (i + 1)) := by
                  by_cases g : kind = 6 ∧ F 5 (i + 1) = 1
                  · rw [if_pos g, if_pos ⟨g.1, g.2, hty⟩]
                  · rw [if_neg g, if_neg (fun q => g ⟨q.1, q.2.1⟩), Int32.add_zero]
                rw [eo]
                rfl
              · rw [zuf_n e, pk_un (by omega), pk_un (by omega), pk_un (by omega), pk_un (by omega), pk_un (by omega)]
                rfl
            · show zTy (F 0 (i + 1)) ∧ zPl (upd (F 4) (j + 1) (if kind = 2 then place else F 4 (j + 1)) (i + 1)) ∧ zr7 (upd (F 5) (j + 1) kind (i + 1))
              by_cases e : i = j
              · subst e
                rw [pk_us, pk_us]
                refine ⟨hty, ?_, hk7⟩
                by_cases g : kind = 2
                · rw [if_pos g]; exact (c1.2.2.2.2 g).1
                · rw [if_neg g]; exact hpl
              · rw [pk_un (by omega), pk_un (by omega)]; exact a4 i hi
            · show upd (F 8) (j + 1) _ i = F 8 i
              exact pk_un (by omega)
      · rw [if_neg c2] at h2
        rw [if_neg (fun q => c2 ((zFo_Fm c1.1 c1.2.1 hfr).mp q))] at h1
        exact ⟨-2, h1.1, h2.1, sm_same h1.2 h2.2 h⟩
    · rw [if_neg c1] at h2
      rw [if_neg (show ¬ zA1 kind place (cvm F L j).2.2.2.2.1 day ac from fun q => c1 ⟨q.1, q.2.1, q.2.2.1, Int64.not_lt.mpr q.2.2.2.1, q.2.2.2.2.1⟩)] at h1
      exact ⟨-1, h1.1, h2.1, sm_same h1.2 h2.2 h⟩
end ZSI
end
