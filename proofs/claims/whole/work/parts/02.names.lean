def RX0 : String := "ItemStates$Copy"
def TX0 : u_T := fun k => match k with
  | 0 => ("ItemStates$Copy", "type", "I", true)
  | 1 => ("ItemStates$Copy", "barcode", "J", true)
  | 2 => ("ItemStates$Copy", "digits", "I", true)
  | 3 => ("ItemStates$Copy", "home", "I", false)
  | 4 => ("ItemStates$Copy", "place", "I", false)
  | 5 => ("ItemStates$Copy", "state", "I", false)
  | 6 => ("ItemStates$Copy", "floats", "Z", false)
  | 7 => ("ItemStates$Copy", "owed", "I", false)
  | 8 => ("ItemStates$Copy", "wantedBy", "I", false)
  | _ => ("ItemStates$Copy", "first", "LItemStates$Entry;", false)
def tyX0 : Nat → FieldType := fun k => match k with
  | 0 => .int
  | 1 => .long
  | 2 => .int
  | 3 => .int
  | 4 => .int
  | 5 => .int
  | 6 => .boolean
  | 7 => .int
  | 8 => .int
  | _ => .object "ItemStates$Entry"
theorem nmX0 : ∀ a, a < 10 → ∀ b, b < 10 → a ≠ b → (TX0 a).2.1 ≠ (TX0 b).2.1 := by decide +kernel
theorem tyX0_ok : ∀ k, k < 10 → parseFieldDescriptor (TX0 k).2.2.1 = some (tyX0 k) := by decide +kernel
def RX1 : String := "ItemStates$Entry"
def TX1 : u_T := fun k => match k with
  | 0 => ("ItemStates$Entry", "day", "J", true)
  | 1 => ("ItemStates$Entry", "state", "I", true)
  | 2 => ("ItemStates$Entry", "late", "Z", true)
  | _ => ("ItemStates$Entry", "next", "LItemStates$Entry;", false)
def tyX1 : Nat → FieldType := fun k => match k with
  | 0 => .long
  | 1 => .int
  | 2 => .boolean
  | _ => .object "ItemStates$Entry"
theorem nmX1 : ∀ a, a < 4 → ∀ b, b < 4 → a ≠ b → (TX1 a).2.1 ≠ (TX1 b).2.1 := by decide +kernel
theorem tyX1_ok : ∀ k, k < 4 → parseFieldDescriptor (TX1 k).2.2.1 = some (tyX1 k) := by decide +kernel
def RX2 : String := "ItemStates"
def TX2 : u_T := fun k => match k with
  | 0 => ("ItemStates", "copies", "[LItemStates$Copy;", true)
  | 1 => ("ItemStates", "copyCount", "I", false)
  | 2 => ("ItemStates", "denied", "[Z", true)
  | 3 => ("ItemStates", "fees", "[I", true)
  | 4 => ("ItemStates", "greatestDay", "J", false)
  | _ => ("ItemStates", "entryCount", "I", false)
def tyX2 : Nat → FieldType := fun k => match k with
  | 0 => .array (.object "ItemStates$Copy")
  | 1 => .int
  | 2 => .array .boolean
  | 3 => .array .int
  | 4 => .long
  | _ => .int
theorem nmX2 : ∀ a, a < 6 → ∀ b, b < 6 → a ≠ b → (TX2 a).2.1 ≠ (TX2 b).2.1 := by decide +kernel
theorem tyX2_ok : ∀ k, k < 6 → parseFieldDescriptor (TX2 k).2.2.1 = some (tyX2 k) := by decide +kernel
def RX3 : String := "ItemStatesModel"
def TX3 : u_T := fun k => match k with
  | 0 => ("ItemStatesModel", "thrown", "I", false)
  | 1 => ("ItemStatesModel", "copies", "I", false)
  | 2 => ("ItemStatesModel", "types", "[I", true)
  | 3 => ("ItemStatesModel", "barcodes", "[J", true)
  | 4 => ("ItemStatesModel", "sizes", "[I", true)
  | 5 => ("ItemStatesModel", "homes", "[I", true)
  | 6 => ("ItemStatesModel", "stands", "[I", true)
  | 7 => ("ItemStatesModel", "states", "[I", true)
  | 8 => ("ItemStatesModel", "floats", "[Z", true)
  | 9 => ("ItemStatesModel", "wants", "[I", true)
  | 10 => ("ItemStatesModel", "owes", "[I", true)
  | 11 => ("ItemStatesModel", "barred", "[Z", true)
  | 12 => ("ItemStatesModel", "fees", "[I", true)
  | 13 => ("ItemStatesModel", "acts", "I", false)
  | 14 => ("ItemStatesModel", "actCopy", "[I", true)
  | 15 => ("ItemStatesModel", "actState", "[I", true)
  | 16 => ("ItemStatesModel", "actLate", "[Z", true)
  | 17 => ("ItemStatesModel", "actDay", "[J", true)
  | _ => ("ItemStatesModel", "greatest", "J", false)
def tyX3 : Nat → FieldType := fun k => match k with
  | 0 => .int
  | 1 => .int
  | 2 => .array .int
  | 3 => .array .long
  | 4 => .array .int
  | 5 => .array .int
  | 6 => .array .int
  | 7 => .array .int
  | 8 => .array .boolean
  | 9 => .array .int
  | 10 => .array .int
  | 11 => .array .boolean
  | 12 => .array .int
  | 13 => .int
  | 14 => .array .int
  | 15 => .array .int
  | 16 => .array .boolean
  | 17 => .array .long
  | _ => .long
theorem nmX3 : ∀ a, a < 19 → ∀ b, b < 19 → a ≠ b → (TX3 a).2.1 ≠ (TX3 b).2.1 := by decide +kernel
theorem tyX3_ok : ∀ k, k < 19 → parseFieldDescriptor (TX3 k).2.2.1 = some (tyX3 k) := by decide +kernel
def RJ : String := "java/lang/Math"
def RL : String := "ItemStatesLaw"
abbrev vwCl : List vw_C := [(RX0, TX0, 10), (RX1, TX1, 4), (RX2, TX2, 6), (RX3, TX3, 19)]
abbrev cX2_init : ByteArray := prog_1_method_1_code
def yX2_init : MethodName := ⟨RX2, "<init>", "()V"⟩
abbrev cX2_check : ByteArray := prog_1_method_2_code
def yX2_check : MethodName := ⟨RX2, "check", "(JI)I"⟩
abbrev cX2_doubled : ByteArray := prog_1_method_17_code
def yX2_doubled : MethodName := ⟨RX2, "doubled", "(I)I"⟩
abbrev cX2_copy : ByteArray := prog_1_method_3_code
def yX2_copy : MethodName := ⟨RX2, "copy", "(IJII)I"⟩
abbrev cX2_isType : ByteArray := prog_1_method_15_code
def yX2_isType : MethodName := ⟨RX2, "isType", "(I)Z"⟩
abbrev cX2_isPlace : ByteArray := prog_1_method_16_code
def yX2_isPlace : MethodName := ⟨RX2, "isPlace", "(I)Z"⟩
abbrev cX2_isBarcode : ByteArray := prog_1_method_18_code
def yX2_isBarcode : MethodName := ⟨RX2, "isBarcode", "(JI)Z"⟩
abbrev cX2_isTaken : ByteArray := prog_1_method_19_code
def yX2_isTaken : MethodName := ⟨RX2, "isTaken", "(JI)Z"⟩
abbrev cX2_find : ByteArray := prog_1_method_20_code
def yX2_find : MethodName := ⟨RX2, "find", "(I)LItemStates$Copy;"⟩
abbrev cX2_hasRight : ByteArray := prog_1_method_21_code
def yX2_hasRight : MethodName := ⟨RX2, "hasRight", "(II)Z"⟩
abbrev cX0_init : ByteArray := prog_2_method_1_code
def yX0_init : MethodName := ⟨RX0, "<init>", "(IJII)V"⟩
abbrev cX2_right : ByteArray := prog_1_method_4_code
def yX2_right : MethodName := ⟨RX2, "right", "(IIZ)Z"⟩
abbrev cX2_fee : ByteArray := prog_1_method_5_code
def yX2_fee : MethodName := ⟨RX2, "fee", "(II)I"⟩
abbrev cX2_act : ByteArray := prog_1_method_6_code
def yX2_act : MethodName := ⟨RX2, "act", "(IIIJ)I"⟩
abbrev cX2_stateOn : ByteArray := prog_1_method_26_code
def yX2_stateOn : MethodName := ⟨RX2, "stateOn", "(LItemStates$Copy;J)I"⟩
abbrev cX2_lastUpTo : ByteArray := prog_1_method_25_code
def yX2_lastUpTo : MethodName := ⟨RX2, "lastUpTo", "(LItemStates$Copy;J)LItemStates$Entry;"⟩
abbrev cX2_canFollow : ByteArray := prog_1_method_22_code
def yX2_canFollow : MethodName := ⟨RX2, "canFollow", "(II)Z"⟩
abbrev cX2_lacksRight : ByteArray := prog_1_method_24_code
def yX2_lacksRight : MethodName := ⟨RX2, "lacksRight", "(LItemStates$Copy;IIZ)Z"⟩
abbrev cX2_enter : ByteArray := prog_1_method_27_code
def yX2_enter : MethodName := ⟨RX2, "enter", "(LItemStates$Copy;JIZ)V"⟩
abbrev cX1_init : ByteArray := prog_3_method_1_code
def yX1_init : MethodName := ⟨RX1, "<init>", "(JIZLItemStates$Entry;)V"⟩
abbrev cJ_max : ByteArray := prog_6_method_66_code
def yJ_max : MethodName := ⟨RJ, "max", "(JJ)J"⟩
abbrev cX2_carryOut : ByteArray := prog_1_method_28_code
def yX2_carryOut : MethodName := ⟨RX2, "carryOut", "(LItemStates$Copy;II)V"⟩
abbrev cX2_state : ByteArray := prog_1_method_7_code
def yX2_state : MethodName := ⟨RX2, "state", "(IJ)I"⟩
abbrev cX2_place : ByteArray := prog_1_method_8_code
def yX2_place : MethodName := ⟨RX2, "place", "(I)I"⟩
abbrev cX2_floats : ByteArray := prog_1_method_9_code
def yX2_floats : MethodName := ⟨RX2, "floats", "(IZ)Z"⟩
abbrev cX2_home : ByteArray := prog_1_method_10_code
def yX2_home : MethodName := ⟨RX2, "home", "(I)I"⟩
abbrev cX2_weed : ByteArray := prog_1_method_11_code
def yX2_weed : MethodName := ⟨RX2, "weed", "(II)I"⟩
abbrev cX2_canBeWeeded : ByteArray := prog_1_method_23_code
def yX2_canBeWeeded : MethodName := ⟨RX2, "canBeWeeded", "(I)Z"⟩
abbrev cX2_owed : ByteArray := prog_1_method_12_code
def yX2_owed : MethodName := ⟨RX2, "owed", "(I)I"⟩
abbrev cX2_history : ByteArray := prog_1_method_13_code
def yX2_history : MethodName := ⟨RX2, "history", "(III)I"⟩
abbrev cX2_count : ByteArray := prog_1_method_14_code
def yX2_count : MethodName := ⟨RX2, "count", "(II)I"⟩
abbrev cX3_init : ByteArray := prog_5_method_1_code
def yX3_init : MethodName := ⟨RX3, "<init>", "()V"⟩
abbrev cX3_check : ByteArray := prog_5_method_5_code
def yX3_check : MethodName := ⟨RX3, "check", "(JI)I"⟩
abbrev cX3_ten : ByteArray := prog_5_method_3_code
def yX3_ten : MethodName := ⟨RX3, "ten", "(I)J"⟩
abbrev cX3_sign : ByteArray := prog_5_method_4_code
def yX3_sign : MethodName := ⟨RX3, "sign", "(J)I"⟩
abbrev cX3_copy : ByteArray := prog_5_method_6_code
def yX3_copy : MethodName := ⟨RX3, "copy", "(IJII)I"⟩
abbrev cX3_right : ByteArray := prog_5_method_7_code
def yX3_right : MethodName := ⟨RX3, "right", "(IIZ)Z"⟩
abbrev cX3_fee : ByteArray := prog_5_method_8_code
def yX3_fee : MethodName := ⟨RX3, "fee", "(II)I"⟩
abbrev cX3_state : ByteArray := prog_5_method_11_code
def yX3_state : MethodName := ⟨RX3, "state", "(IJ)I"⟩
abbrev cX3_isCopy : ByteArray := prog_5_method_9_code
def yX3_isCopy : MethodName := ⟨RX3, "isCopy", "(I)Z"⟩
abbrev cX3_last : ByteArray := prog_5_method_10_code
def yX3_last : MethodName := ⟨RX3, "last", "(IJ)I"⟩
abbrev cX3_act : ByteArray := prog_5_method_14_code
def yX3_act : MethodName := ⟨RX3, "act", "(IIIJ)I"⟩
abbrev cX3_follows : ByteArray := prog_5_method_12_code
def yX3_follows : MethodName := ⟨RX3, "follows", "(II)Z"⟩
abbrev cX3_enter : ByteArray := prog_5_method_13_code
def yX3_enter : MethodName := ⟨RX3, "enter", "(IIZJ)V"⟩
abbrev cX3_weed : ByteArray := prog_5_method_15_code
def yX3_weed : MethodName := ⟨RX3, "weed", "(II)I"⟩
abbrev cX3_place : ByteArray := prog_5_method_16_code
def yX3_place : MethodName := ⟨RX3, "place", "(I)I"⟩
abbrev cX3_floats : ByteArray := prog_5_method_17_code
def yX3_floats : MethodName := ⟨RX3, "floats", "(IZ)Z"⟩
abbrev cX3_home : ByteArray := prog_5_method_18_code
def yX3_home : MethodName := ⟨RX3, "home", "(I)I"⟩
abbrev cX3_owed : ByteArray := prog_5_method_19_code
def yX3_owed : MethodName := ⟨RX3, "owed", "(I)I"⟩
abbrev cX3_history : ByteArray := prog_5_method_20_code
def yX3_history : MethodName := ⟨RX3, "history", "(III)I"⟩
abbrev cX3_count : ByteArray := prog_5_method_21_code
def yX3_count : MethodName := ⟨RX3, "count", "(II)I"⟩
theorem dX2_init_0 : decode cX2_init 0 = .ok (.aload_n 0, 1) := by decide +kernel
theorem dX2_init_1 : decode cX2_init 1 = .ok (.invokespecial 1, 3) := by decide +kernel
theorem dX2_init_4 : decode cX2_init 4 = .ok (.aload_n 0, 1) := by decide +kernel
theorem dX2_init_5 : decode cX2_init 5 = .ok (.bipush 80, 2) := by decide +kernel
theorem dX2_init_7 : decode cX2_init 7 = .ok (.anewarray 9, 3) := by decide +kernel
theorem dX2_init_10 : decode cX2_init 10 = .ok (.putfield 11, 3) := by decide +kernel
theorem dX2_init_13 : decode cX2_init 13 = .ok (.aload_n 0, 1) := by decide +kernel
theorem dX2_init_14 : decode cX2_init 14 = .ok (.iconst 0, 1) := by decide +kernel
theorem dX2_init_15 : decode cX2_init 15 = .ok (.putfield 15, 3) := by decide +kernel
theorem dX2_init_18 : decode cX2_init 18 = .ok (.aload_n 0, 1) := by decide +kernel
theorem dX2_init_19 : decode cX2_init 19 = .ok (.bipush 60, 2) := by decide +kernel
theorem dX2_init_21 : decode cX2_init 21 = .ok (.newarray .boolean, 2) := by decide +kernel
theorem dX2_init_23 : decode cX2_init 23 = .ok (.putfield 19, 3) := by decide +kernel
theorem dX2_init_26 : decode cX2_init 26 = .ok (.aload_n 0, 1) := by decide +kernel
theorem dX2_init_27 : decode cX2_init 27 = .ok (.bipush 6, 2) := by decide +kernel
theorem dX2_init_29 : decode cX2_init 29 = .ok (.newarray .int, 2) := by decide +kernel
theorem dX2_init_31 : decode cX2_init 31 = .ok (.putfield 23, 3) := by decide +kernel
theorem dX2_init_34 : decode cX2_init 34 = .ok (.aload_n 0, 1) := by decide +kernel
theorem dX2_init_35 : decode cX2_init 35 = .ok (.lconst 0, 1) := by decide +kernel
theorem dX2_init_36 : decode cX2_init 36 = .ok (.putfield 27, 3) := by decide +kernel
theorem dX2_init_39 : decode cX2_init 39 = .ok (.aload_n 0, 1) := by decide +kernel
theorem dX2_init_40 : decode cX2_init 40 = .ok (.iconst 0, 1) := by decide +kernel
theorem dX2_init_41 : decode cX2_init 41 = .ok (.putfield 31, 3) := by decide +kernel
theorem dX2_init_44 : decode cX2_init 44 = .ok (.return_, 1) := by decide +kernel
theorem dX2_check_0 : decode cX2_check 0 = .ok (.lload_n 1, 1) := by decide +kernel
theorem dX2_check_1 : decode cX2_check 1 = .ok (.lconst 0, 1) := by decide +kernel
theorem dX2_check_2 : decode cX2_check 2 = .ok (.lcmp, 1) := by decide +kernel
theorem dX2_check_3 : decode cX2_check 3 = .ok (.ifCond .lt 14, 3) := by decide +kernel
theorem dX2_check_6 : decode cX2_check 6 = .ok (.iload_n 3, 1) := by decide +kernel
theorem dX2_check_7 : decode cX2_check 7 = .ok (.iconst 1, 1) := by decide +kernel
theorem dX2_check_8 : decode cX2_check 8 = .ok (.if_icmp .lt 9, 3) := by decide +kernel
theorem dX2_check_11 : decode cX2_check 11 = .ok (.iload_n 3, 1) := by decide +kernel
theorem dX2_check_12 : decode cX2_check 12 = .ok (.bipush 12, 2) := by decide +kernel
theorem dX2_check_14 : decode cX2_check 14 = .ok (.if_icmp .le 5, 3) := by decide +kernel
theorem dX2_check_17 : decode cX2_check 17 = .ok (.iconst (-1), 1) := by decide +kernel
theorem dX2_check_18 : decode cX2_check 18 = .ok (.ireturn, 1) := by decide +kernel
theorem dX2_check_19 : decode cX2_check 19 = .ok (.lload_n 1, 1) := by decide +kernel
theorem dX2_check_20 : decode cX2_check 20 = .ok (.lstore 4, 2) := by decide +kernel
theorem dX2_check_22 : decode cX2_check 22 = .ok (.iconst 0, 1) := by decide +kernel
theorem dX2_check_23 : decode cX2_check 23 = .ok (.istore 6, 2) := by decide +kernel
theorem dX2_check_25 : decode cX2_check 25 = .ok (.iconst 0, 1) := by decide +kernel
theorem dX2_check_26 : decode cX2_check 26 = .ok (.istore 7, 2) := by decide +kernel
theorem dX2_check_28 : decode cX2_check 28 = .ok (.iload 7, 2) := by decide +kernel
theorem dX2_check_30 : decode cX2_check 30 = .ok (.iload_n 3, 1) := by decide +kernel
theorem dX2_check_31 : decode cX2_check 31 = .ok (.if_icmp .ge 48, 3) := by decide +kernel
theorem dX2_check_34 : decode cX2_check 34 = .ok (.lload 4, 2) := by decide +kernel
theorem dX2_check_36 : decode cX2_check 36 = .ok (.ldc2_w 34, 3) := by decide +kernel
theorem dX2_check_39 : decode cX2_check 39 = .ok (.lrem, 1) := by decide +kernel
theorem dX2_check_40 : decode cX2_check 40 = .ok (.l2i, 1) := by decide +kernel
theorem dX2_check_41 : decode cX2_check 41 = .ok (.istore 8, 2) := by decide +kernel
theorem dX2_check_43 : decode cX2_check 43 = .ok (.iload 6, 2) := by decide +kernel
theorem dX2_check_45 : decode cX2_check 45 = .ok (.iload 7, 2) := by decide +kernel
theorem dX2_check_47 : decode cX2_check 47 = .ok (.iconst 2, 1) := by decide +kernel
theorem dX2_check_48 : decode cX2_check 48 = .ok (.irem, 1) := by decide +kernel
theorem dX2_check_49 : decode cX2_check 49 = .ok (.ifCond .ne 11, 3) := by decide +kernel
theorem dX2_check_52 : decode cX2_check 52 = .ok (.iload 8, 2) := by decide +kernel
theorem dX2_check_54 : decode cX2_check 54 = .ok (.invokestatic 36, 3) := by decide +kernel
theorem dX2_check_57 : decode cX2_check 57 = .ok (.goto 5, 3) := by decide +kernel
theorem dX2_check_60 : decode cX2_check 60 = .ok (.iload 8, 2) := by decide +kernel
theorem dX2_check_62 : decode cX2_check 62 = .ok (.iadd, 1) := by decide +kernel
theorem dX2_check_63 : decode cX2_check 63 = .ok (.istore 6, 2) := by decide +kernel
theorem dX2_check_65 : decode cX2_check 65 = .ok (.lload 4, 2) := by decide +kernel
theorem dX2_check_67 : decode cX2_check 67 = .ok (.ldc2_w 34, 3) := by decide +kernel
theorem dX2_check_70 : decode cX2_check 70 = .ok (.ldiv, 1) := by decide +kernel
theorem dX2_check_71 : decode cX2_check 71 = .ok (.lstore 4, 2) := by decide +kernel
theorem dX2_check_73 : decode cX2_check 73 = .ok (.iinc 7 1, 3) := by decide +kernel
theorem dX2_check_76 : decode cX2_check 76 = .ok (.goto (-48), 3) := by decide +kernel
theorem dX2_check_79 : decode cX2_check 79 = .ok (.lload 4, 2) := by decide +kernel
theorem dX2_check_81 : decode cX2_check 81 = .ok (.lconst 0, 1) := by decide +kernel
theorem dX2_check_82 : decode cX2_check 82 = .ok (.lcmp, 1) := by decide +kernel
theorem dX2_check_83 : decode cX2_check 83 = .ok (.ifCond .eq 5, 3) := by decide +kernel
theorem dX2_check_86 : decode cX2_check 86 = .ok (.iconst (-1), 1) := by decide +kernel
theorem dX2_check_87 : decode cX2_check 87 = .ok (.ireturn, 1) := by decide +kernel
theorem dX2_check_88 : decode cX2_check 88 = .ok (.bipush 10, 2) := by decide +kernel
theorem dX2_check_90 : decode cX2_check 90 = .ok (.iload 6, 2) := by decide +kernel
theorem dX2_check_92 : decode cX2_check 92 = .ok (.bipush 10, 2) := by decide +kernel
theorem dX2_check_94 : decode cX2_check 94 = .ok (.irem, 1) := by decide +kernel
theorem dX2_check_95 : decode cX2_check 95 = .ok (.isub, 1) := by decide +kernel
theorem dX2_check_96 : decode cX2_check 96 = .ok (.bipush 10, 2) := by decide +kernel
theorem dX2_check_98 : decode cX2_check 98 = .ok (.irem, 1) := by decide +kernel
theorem dX2_check_99 : decode cX2_check 99 = .ok (.ireturn, 1) := by decide +kernel
theorem dX2_doubled_0 : decode cX2_doubled 0 = .ok (.iconst 2, 1) := by decide +kernel
theorem dX2_doubled_1 : decode cX2_doubled 1 = .ok (.iload_n 0, 1) := by decide +kernel
theorem dX2_doubled_2 : decode cX2_doubled 2 = .ok (.imul, 1) := by decide +kernel
theorem dX2_doubled_3 : decode cX2_doubled 3 = .ok (.istore_n 1, 1) := by decide +kernel
theorem dX2_doubled_4 : decode cX2_doubled 4 = .ok (.iload_n 1, 1) := by decide +kernel
theorem dX2_doubled_5 : decode cX2_doubled 5 = .ok (.bipush 9, 2) := by decide +kernel
theorem dX2_doubled_7 : decode cX2_doubled 7 = .ok (.if_icmp .le 10, 3) := by decide +kernel
theorem dX2_doubled_10 : decode cX2_doubled 10 = .ok (.iload_n 1, 1) := by decide +kernel
theorem dX2_doubled_11 : decode cX2_doubled 11 = .ok (.bipush 9, 2) := by decide +kernel
theorem dX2_doubled_13 : decode cX2_doubled 13 = .ok (.isub, 1) := by decide +kernel
theorem dX2_doubled_14 : decode cX2_doubled 14 = .ok (.goto 4, 3) := by decide +kernel
theorem dX2_doubled_17 : decode cX2_doubled 17 = .ok (.iload_n 1, 1) := by decide +kernel
theorem dX2_doubled_18 : decode cX2_doubled 18 = .ok (.ireturn, 1) := by decide +kernel
theorem dX2_copy_0 : decode cX2_copy 0 = .ok (.iload_n 1, 1) := by decide +kernel
theorem dX2_copy_1 : decode cX2_copy 1 = .ok (.invokestatic 40, 3) := by decide +kernel
theorem dX2_copy_4 : decode cX2_copy 4 = .ok (.ifCond .eq 20, 3) := by decide +kernel
theorem dX2_copy_7 : decode cX2_copy 7 = .ok (.iload 5, 2) := by decide +kernel
theorem dX2_copy_9 : decode cX2_copy 9 = .ok (.invokestatic 44, 3) := by decide +kernel
theorem dX2_copy_12 : decode cX2_copy 12 = .ok (.ifCond .eq 12, 3) := by decide +kernel
theorem dX2_copy_15 : decode cX2_copy 15 = .ok (.aload_n 0, 1) := by decide +kernel
theorem dX2_copy_16 : decode cX2_copy 16 = .ok (.getfield 15, 3) := by decide +kernel
theorem dX2_copy_19 : decode cX2_copy 19 = .ok (.bipush 80, 2) := by decide +kernel
theorem dX2_copy_21 : decode cX2_copy 21 = .ok (.if_icmp .lt 5, 3) := by decide +kernel
theorem dX2_copy_24 : decode cX2_copy 24 = .ok (.iconst (-1), 1) := by decide +kernel
theorem dX2_copy_25 : decode cX2_copy 25 = .ok (.ireturn, 1) := by decide +kernel
theorem dX2_copy_26 : decode cX2_copy 26 = .ok (.aload_n 0, 1) := by decide +kernel
theorem dX2_copy_27 : decode cX2_copy 27 = .ok (.lload_n 2, 1) := by decide +kernel
theorem dX2_copy_28 : decode cX2_copy 28 = .ok (.iload 4, 2) := by decide +kernel
theorem dX2_copy_30 : decode cX2_copy 30 = .ok (.invokevirtual 47, 3) := by decide +kernel
theorem dX2_copy_33 : decode cX2_copy 33 = .ok (.ifCond .eq 13, 3) := by decide +kernel
theorem dX2_copy_36 : decode cX2_copy 36 = .ok (.aload_n 0, 1) := by decide +kernel
theorem dX2_copy_37 : decode cX2_copy 37 = .ok (.lload_n 2, 1) := by decide +kernel
theorem dX2_copy_38 : decode cX2_copy 38 = .ok (.iload 4, 2) := by decide +kernel
theorem dX2_copy_40 : decode cX2_copy 40 = .ok (.invokevirtual 51, 3) := by decide +kernel
theorem dX2_copy_43 : decode cX2_copy 43 = .ok (.ifCond .eq 5, 3) := by decide +kernel
theorem dX2_copy_46 : decode cX2_copy 46 = .ok (.iconst (-1), 1) := by decide +kernel
theorem dX2_copy_47 : decode cX2_copy 47 = .ok (.ireturn, 1) := by decide +kernel
theorem dX2_copy_48 : decode cX2_copy 48 = .ok (.aload_n 0, 1) := by decide +kernel
theorem dX2_copy_49 : decode cX2_copy 49 = .ok (.iload 5, 2) := by decide +kernel
theorem dX2_copy_51 : decode cX2_copy 51 = .ok (.iload_n 1, 1) := by decide +kernel
theorem dX2_copy_52 : decode cX2_copy 52 = .ok (.invokevirtual 54, 3) := by decide +kernel
theorem dX2_copy_55 : decode cX2_copy 55 = .ok (.ifCond .ne 6, 3) := by decide +kernel
theorem dX2_copy_58 : decode cX2_copy 58 = .ok (.bipush (-3), 2) := by decide +kernel
theorem dX2_copy_60 : decode cX2_copy 60 = .ok (.ireturn, 1) := by decide +kernel
theorem dX2_copy_61 : decode cX2_copy 61 = .ok (.aload_n 0, 1) := by decide +kernel
theorem dX2_copy_62 : decode cX2_copy 62 = .ok (.getfield 11, 3) := by decide +kernel
theorem dX2_copy_65 : decode cX2_copy 65 = .ok (.aload_n 0, 1) := by decide +kernel
theorem dX2_copy_66 : decode cX2_copy 66 = .ok (.getfield 15, 3) := by decide +kernel
theorem dX2_copy_69 : decode cX2_copy 69 = .ok (.new 9, 3) := by decide +kernel
theorem dX2_copy_72 : decode cX2_copy 72 = .ok (.dup, 1) := by decide +kernel
theorem dX2_copy_73 : decode cX2_copy 73 = .ok (.iload_n 1, 1) := by decide +kernel
theorem dX2_copy_74 : decode cX2_copy 74 = .ok (.lload_n 2, 1) := by decide +kernel
theorem dX2_copy_75 : decode cX2_copy 75 = .ok (.iload 4, 2) := by decide +kernel
theorem dX2_copy_77 : decode cX2_copy 77 = .ok (.iload 5, 2) := by decide +kernel
theorem dX2_copy_79 : decode cX2_copy 79 = .ok (.invokespecial 58, 3) := by decide +kernel
theorem dX2_copy_82 : decode cX2_copy 82 = .ok (.aastore, 1) := by decide +kernel
theorem dX2_copy_83 : decode cX2_copy 83 = .ok (.aload_n 0, 1) := by decide +kernel
theorem dX2_copy_84 : decode cX2_copy 84 = .ok (.dup, 1) := by decide +kernel
theorem dX2_copy_85 : decode cX2_copy 85 = .ok (.getfield 15, 3) := by decide +kernel
theorem dX2_copy_88 : decode cX2_copy 88 = .ok (.iconst 1, 1) := by decide +kernel
theorem dX2_copy_89 : decode cX2_copy 89 = .ok (.iadd, 1) := by decide +kernel
theorem dX2_copy_90 : decode cX2_copy 90 = .ok (.putfield 15, 3) := by decide +kernel
theorem dX2_copy_93 : decode cX2_copy 93 = .ok (.aload_n 0, 1) := by decide +kernel
theorem dX2_copy_94 : decode cX2_copy 94 = .ok (.getfield 15, 3) := by decide +kernel
theorem dX2_copy_97 : decode cX2_copy 97 = .ok (.ireturn, 1) := by decide +kernel
theorem dX2_isType_0 : decode cX2_isType 0 = .ok (.iload_n 0, 1) := by decide +kernel
theorem dX2_isType_1 : decode cX2_isType 1 = .ok (.ifCond .lt 13, 3) := by decide +kernel
theorem dX2_isType_4 : decode cX2_isType 4 = .ok (.iload_n 0, 1) := by decide +kernel
theorem dX2_isType_5 : decode cX2_isType 5 = .ok (.bipush 6, 2) := by decide +kernel
theorem dX2_isType_7 : decode cX2_isType 7 = .ok (.if_icmp .ge 7, 3) := by decide +kernel
theorem dX2_isType_10 : decode cX2_isType 10 = .ok (.iconst 1, 1) := by decide +kernel
theorem dX2_isType_11 : decode cX2_isType 11 = .ok (.goto 4, 3) := by decide +kernel
theorem dX2_isType_14 : decode cX2_isType 14 = .ok (.iconst 0, 1) := by decide +kernel
theorem dX2_isType_15 : decode cX2_isType 15 = .ok (.ireturn, 1) := by decide +kernel
theorem dX2_isPlace_0 : decode cX2_isPlace 0 = .ok (.iload_n 0, 1) := by decide +kernel
theorem dX2_isPlace_1 : decode cX2_isPlace 1 = .ok (.ifCond .lt 13, 3) := by decide +kernel
theorem dX2_isPlace_4 : decode cX2_isPlace 4 = .ok (.iload_n 0, 1) := by decide +kernel
theorem dX2_isPlace_5 : decode cX2_isPlace 5 = .ok (.bipush 10, 2) := by decide +kernel
theorem dX2_isPlace_7 : decode cX2_isPlace 7 = .ok (.if_icmp .ge 7, 3) := by decide +kernel
theorem dX2_isPlace_10 : decode cX2_isPlace 10 = .ok (.iconst 1, 1) := by decide +kernel
theorem dX2_isPlace_11 : decode cX2_isPlace 11 = .ok (.goto 4, 3) := by decide +kernel
theorem dX2_isPlace_14 : decode cX2_isPlace 14 = .ok (.iconst 0, 1) := by decide +kernel
theorem dX2_isPlace_15 : decode cX2_isPlace 15 = .ok (.ireturn, 1) := by decide +kernel
theorem dX2_isBarcode_0 : decode cX2_isBarcode 0 = .ok (.lload_n 1, 1) := by decide +kernel
theorem dX2_isBarcode_1 : decode cX2_isBarcode 1 = .ok (.lconst 0, 1) := by decide +kernel
theorem dX2_isBarcode_2 : decode cX2_isBarcode 2 = .ok (.lcmp, 1) := by decide +kernel
theorem dX2_isBarcode_3 : decode cX2_isBarcode 3 = .ok (.ifCond .lt 26, 3) := by decide +kernel
theorem dX2_isBarcode_6 : decode cX2_isBarcode 6 = .ok (.aload_n 0, 1) := by decide +kernel
theorem dX2_isBarcode_7 : decode cX2_isBarcode 7 = .ok (.lload_n 1, 1) := by decide +kernel
theorem dX2_isBarcode_8 : decode cX2_isBarcode 8 = .ok (.ldc2_w 34, 3) := by decide +kernel
theorem dX2_isBarcode_11 : decode cX2_isBarcode 11 = .ok (.ldiv, 1) := by decide +kernel
theorem dX2_isBarcode_12 : decode cX2_isBarcode 12 = .ok (.iload_n 3, 1) := by decide +kernel
theorem dX2_isBarcode_13 : decode cX2_isBarcode 13 = .ok (.invokevirtual 122, 3) := by decide +kernel
theorem dX2_isBarcode_16 : decode cX2_isBarcode 16 = .ok (.lload_n 1, 1) := by decide +kernel
theorem dX2_isBarcode_17 : decode cX2_isBarcode 17 = .ok (.ldc2_w 34, 3) := by decide +kernel
theorem dX2_isBarcode_20 : decode cX2_isBarcode 20 = .ok (.lrem, 1) := by decide +kernel
theorem dX2_isBarcode_21 : decode cX2_isBarcode 21 = .ok (.l2i, 1) := by decide +kernel
theorem dX2_isBarcode_22 : decode cX2_isBarcode 22 = .ok (.if_icmp .ne 7, 3) := by decide +kernel
theorem dX2_isBarcode_25 : decode cX2_isBarcode 25 = .ok (.iconst 1, 1) := by decide +kernel
theorem dX2_isBarcode_26 : decode cX2_isBarcode 26 = .ok (.goto 4, 3) := by decide +kernel
theorem dX2_isBarcode_29 : decode cX2_isBarcode 29 = .ok (.iconst 0, 1) := by decide +kernel
theorem dX2_isBarcode_30 : decode cX2_isBarcode 30 = .ok (.ireturn, 1) := by decide +kernel
theorem dX2_isTaken_0 : decode cX2_isTaken 0 = .ok (.iconst 1, 1) := by decide +kernel
theorem dX2_isTaken_1 : decode cX2_isTaken 1 = .ok (.istore 4, 2) := by decide +kernel
theorem dX2_isTaken_3 : decode cX2_isTaken 3 = .ok (.iload 4, 2) := by decide +kernel
theorem dX2_isTaken_5 : decode cX2_isTaken 5 = .ok (.aload_n 0, 1) := by decide +kernel
theorem dX2_isTaken_6 : decode cX2_isTaken 6 = .ok (.getfield 15, 3) := by decide +kernel
theorem dX2_isTaken_9 : decode cX2_isTaken 9 = .ok (.if_icmp .gt 43, 3) := by decide +kernel
theorem dX2_isTaken_12 : decode cX2_isTaken 12 = .ok (.aload_n 0, 1) := by decide +kernel
theorem dX2_isTaken_13 : decode cX2_isTaken 13 = .ok (.iload 4, 2) := by decide +kernel
theorem dX2_isTaken_15 : decode cX2_isTaken 15 = .ok (.invokevirtual 62, 3) := by decide +kernel
theorem dX2_isTaken_18 : decode cX2_isTaken 18 = .ok (.astore 5, 2) := by decide +kernel
theorem dX2_isTaken_20 : decode cX2_isTaken 20 = .ok (.aload 5, 2) := by decide +kernel
theorem dX2_isTaken_22 : decode cX2_isTaken 22 = .ok (.ifnull 24, 3) := by decide +kernel
theorem dX2_isTaken_25 : decode cX2_isTaken 25 = .ok (.aload 5, 2) := by decide +kernel
theorem dX2_isTaken_27 : decode cX2_isTaken 27 = .ok (.getfield 126, 3) := by decide +kernel
theorem dX2_isTaken_30 : decode cX2_isTaken 30 = .ok (.lload_n 1, 1) := by decide +kernel
theorem dX2_isTaken_31 : decode cX2_isTaken 31 = .ok (.lcmp, 1) := by decide +kernel
theorem dX2_isTaken_32 : decode cX2_isTaken 32 = .ok (.ifCond .ne 14, 3) := by decide +kernel
theorem dX2_isTaken_35 : decode cX2_isTaken 35 = .ok (.aload 5, 2) := by decide +kernel
theorem dX2_isTaken_37 : decode cX2_isTaken 37 = .ok (.getfield 129, 3) := by decide +kernel
theorem dX2_isTaken_40 : decode cX2_isTaken 40 = .ok (.iload_n 3, 1) := by decide +kernel
theorem dX2_isTaken_41 : decode cX2_isTaken 41 = .ok (.if_icmp .ne 5, 3) := by decide +kernel
theorem dX2_isTaken_44 : decode cX2_isTaken 44 = .ok (.iconst 1, 1) := by decide +kernel
theorem dX2_isTaken_45 : decode cX2_isTaken 45 = .ok (.ireturn, 1) := by decide +kernel
theorem dX2_isTaken_46 : decode cX2_isTaken 46 = .ok (.iinc 4 1, 3) := by decide +kernel
theorem dX2_isTaken_49 : decode cX2_isTaken 49 = .ok (.goto (-46), 3) := by decide +kernel
theorem dX2_isTaken_52 : decode cX2_isTaken 52 = .ok (.iconst 0, 1) := by decide +kernel
theorem dX2_isTaken_53 : decode cX2_isTaken 53 = .ok (.ireturn, 1) := by decide +kernel
theorem dX2_find_0 : decode cX2_find 0 = .ok (.iload_n 1, 1) := by decide +kernel
theorem dX2_find_1 : decode cX2_find 1 = .ok (.iconst 1, 1) := by decide +kernel
theorem dX2_find_2 : decode cX2_find 2 = .ok (.if_icmp .lt 20, 3) := by decide +kernel
theorem dX2_find_5 : decode cX2_find 5 = .ok (.iload_n 1, 1) := by decide +kernel
theorem dX2_find_6 : decode cX2_find 6 = .ok (.aload_n 0, 1) := by decide +kernel
theorem dX2_find_7 : decode cX2_find 7 = .ok (.getfield 15, 3) := by decide +kernel
theorem dX2_find_10 : decode cX2_find 10 = .ok (.if_icmp .gt 12, 3) := by decide +kernel
theorem dX2_find_13 : decode cX2_find 13 = .ok (.iload_n 1, 1) := by decide +kernel
theorem dX2_find_14 : decode cX2_find 14 = .ok (.aload_n 0, 1) := by decide +kernel
theorem dX2_find_15 : decode cX2_find 15 = .ok (.getfield 11, 3) := by decide +kernel
theorem dX2_find_18 : decode cX2_find 18 = .ok (.arraylength, 1) := by decide +kernel
theorem dX2_find_19 : decode cX2_find 19 = .ok (.if_icmp .le 5, 3) := by decide +kernel
theorem dX2_find_22 : decode cX2_find 22 = .ok (.aconst_null, 1) := by decide +kernel
theorem dX2_find_23 : decode cX2_find 23 = .ok (.areturn, 1) := by decide +kernel
theorem dX2_find_24 : decode cX2_find 24 = .ok (.aload_n 0, 1) := by decide +kernel
theorem dX2_find_25 : decode cX2_find 25 = .ok (.getfield 11, 3) := by decide +kernel
theorem dX2_find_28 : decode cX2_find 28 = .ok (.iload_n 1, 1) := by decide +kernel
theorem dX2_find_29 : decode cX2_find 29 = .ok (.iconst 1, 1) := by decide +kernel
theorem dX2_find_30 : decode cX2_find 30 = .ok (.isub, 1) := by decide +kernel
theorem dX2_find_31 : decode cX2_find 31 = .ok (.aaload, 1) := by decide +kernel
theorem dX2_find_32 : decode cX2_find 32 = .ok (.areturn, 1) := by decide +kernel
theorem dX2_hasRight_0 : decode cX2_hasRight 0 = .ok (.iload_n 1, 1) := by decide +kernel
theorem dX2_hasRight_1 : decode cX2_hasRight 1 = .ok (.invokestatic 44, 3) := by decide +kernel
theorem dX2_hasRight_4 : decode cX2_hasRight 4 = .ok (.ifCond .eq 28, 3) := by decide +kernel
theorem dX2_hasRight_7 : decode cX2_hasRight 7 = .ok (.iload_n 2, 1) := by decide +kernel
theorem dX2_hasRight_8 : decode cX2_hasRight 8 = .ok (.invokestatic 40, 3) := by decide +kernel
theorem dX2_hasRight_11 : decode cX2_hasRight 11 = .ok (.ifCond .eq 21, 3) := by decide +kernel
theorem dX2_hasRight_14 : decode cX2_hasRight 14 = .ok (.aload_n 0, 1) := by decide +kernel
theorem dX2_hasRight_15 : decode cX2_hasRight 15 = .ok (.getfield 19, 3) := by decide +kernel
theorem dX2_hasRight_18 : decode cX2_hasRight 18 = .ok (.iload_n 1, 1) := by decide +kernel
theorem dX2_hasRight_19 : decode cX2_hasRight 19 = .ok (.bipush 6, 2) := by decide +kernel
theorem dX2_hasRight_21 : decode cX2_hasRight 21 = .ok (.imul, 1) := by decide +kernel
theorem dX2_hasRight_22 : decode cX2_hasRight 22 = .ok (.iload_n 2, 1) := by decide +kernel
theorem dX2_hasRight_23 : decode cX2_hasRight 23 = .ok (.iadd, 1) := by decide +kernel
theorem dX2_hasRight_24 : decode cX2_hasRight 24 = .ok (.baload, 1) := by decide +kernel
theorem dX2_hasRight_25 : decode cX2_hasRight 25 = .ok (.ifCond .ne 7, 3) := by decide +kernel
theorem dX2_hasRight_28 : decode cX2_hasRight 28 = .ok (.iconst 1, 1) := by decide +kernel
theorem dX2_hasRight_29 : decode cX2_hasRight 29 = .ok (.goto 4, 3) := by decide +kernel
theorem dX2_hasRight_32 : decode cX2_hasRight 32 = .ok (.iconst 0, 1) := by decide +kernel
theorem dX2_hasRight_33 : decode cX2_hasRight 33 = .ok (.ireturn, 1) := by decide +kernel
theorem dX0_init_0 : decode cX0_init 0 = .ok (.aload_n 0, 1) := by decide +kernel
theorem dX0_init_1 : decode cX0_init 1 = .ok (.invokespecial 3, 3) := by decide +kernel
theorem dX0_init_4 : decode cX0_init 4 = .ok (.aload_n 0, 1) := by decide +kernel
theorem dX0_init_5 : decode cX0_init 5 = .ok (.iload_n 1, 1) := by decide +kernel
theorem dX0_init_6 : decode cX0_init 6 = .ok (.putfield 9, 3) := by decide +kernel
theorem dX0_init_9 : decode cX0_init 9 = .ok (.aload_n 0, 1) := by decide +kernel
theorem dX0_init_10 : decode cX0_init 10 = .ok (.lload_n 2, 1) := by decide +kernel
theorem dX0_init_11 : decode cX0_init 11 = .ok (.putfield 15, 3) := by decide +kernel
theorem dX0_init_14 : decode cX0_init 14 = .ok (.aload_n 0, 1) := by decide +kernel
theorem dX0_init_15 : decode cX0_init 15 = .ok (.iload 4, 2) := by decide +kernel
theorem dX0_init_17 : decode cX0_init 17 = .ok (.putfield 19, 3) := by decide +kernel
theorem dX0_init_20 : decode cX0_init 20 = .ok (.aload_n 0, 1) := by decide +kernel
theorem dX0_init_21 : decode cX0_init 21 = .ok (.iload 5, 2) := by decide +kernel
theorem dX0_init_23 : decode cX0_init 23 = .ok (.putfield 22, 3) := by decide +kernel
theorem dX0_init_26 : decode cX0_init 26 = .ok (.aload_n 0, 1) := by decide +kernel
theorem dX0_init_27 : decode cX0_init 27 = .ok (.iload 5, 2) := by decide +kernel
theorem dX0_init_29 : decode cX0_init 29 = .ok (.putfield 25, 3) := by decide +kernel
theorem dX0_init_32 : decode cX0_init 32 = .ok (.aload_n 0, 1) := by decide +kernel
theorem dX0_init_33 : decode cX0_init 33 = .ok (.iconst 3, 1) := by decide +kernel
theorem dX0_init_34 : decode cX0_init 34 = .ok (.putfield 28, 3) := by decide +kernel
theorem dX0_init_37 : decode cX0_init 37 = .ok (.aload_n 0, 1) := by decide +kernel
theorem dX0_init_38 : decode cX0_init 38 = .ok (.iconst 0, 1) := by decide +kernel
theorem dX0_init_39 : decode cX0_init 39 = .ok (.putfield 31, 3) := by decide +kernel
theorem dX0_init_42 : decode cX0_init 42 = .ok (.aload_n 0, 1) := by decide +kernel
theorem dX0_init_43 : decode cX0_init 43 = .ok (.iconst 0, 1) := by decide +kernel
theorem dX0_init_44 : decode cX0_init 44 = .ok (.putfield 35, 3) := by decide +kernel
theorem dX0_init_47 : decode cX0_init 47 = .ok (.aload_n 0, 1) := by decide +kernel
theorem dX0_init_48 : decode cX0_init 48 = .ok (.iconst (-1), 1) := by decide +kernel
theorem dX0_init_49 : decode cX0_init 49 = .ok (.putfield 38, 3) := by decide +kernel
theorem dX0_init_52 : decode cX0_init 52 = .ok (.aload_n 0, 1) := by decide +kernel
theorem dX0_init_53 : decode cX0_init 53 = .ok (.aconst_null, 1) := by decide +kernel
theorem dX0_init_54 : decode cX0_init 54 = .ok (.putfield 41, 3) := by decide +kernel
theorem dX0_init_57 : decode cX0_init 57 = .ok (.return_, 1) := by decide +kernel
theorem dX2_right_0 : decode cX2_right 0 = .ok (.aload_n 0, 1) := by decide +kernel
theorem dX2_right_1 : decode cX2_right 1 = .ok (.iload_n 1, 1) := by decide +kernel
theorem dX2_right_2 : decode cX2_right 2 = .ok (.iload_n 2, 1) := by decide +kernel
theorem dX2_right_3 : decode cX2_right 3 = .ok (.invokevirtual 54, 3) := by decide +kernel
theorem dX2_right_6 : decode cX2_right 6 = .ok (.istore 4, 2) := by decide +kernel
theorem dX2_right_8 : decode cX2_right 8 = .ok (.iload_n 1, 1) := by decide +kernel
theorem dX2_right_9 : decode cX2_right 9 = .ok (.invokestatic 44, 3) := by decide +kernel
theorem dX2_right_12 : decode cX2_right 12 = .ok (.ifCond .eq 30, 3) := by decide +kernel
theorem dX2_right_15 : decode cX2_right 15 = .ok (.iload_n 2, 1) := by decide +kernel
theorem dX2_right_16 : decode cX2_right 16 = .ok (.invokestatic 40, 3) := by decide +kernel
theorem dX2_right_19 : decode cX2_right 19 = .ok (.ifCond .eq 23, 3) := by decide +kernel
theorem dX2_right_22 : decode cX2_right 22 = .ok (.aload_n 0, 1) := by decide +kernel
theorem dX2_right_23 : decode cX2_right 23 = .ok (.getfield 19, 3) := by decide +kernel
theorem dX2_right_26 : decode cX2_right 26 = .ok (.iload_n 1, 1) := by decide +kernel
theorem dX2_right_27 : decode cX2_right 27 = .ok (.bipush 6, 2) := by decide +kernel
theorem dX2_right_29 : decode cX2_right 29 = .ok (.imul, 1) := by decide +kernel
theorem dX2_right_30 : decode cX2_right 30 = .ok (.iload_n 2, 1) := by decide +kernel
theorem dX2_right_31 : decode cX2_right 31 = .ok (.iadd, 1) := by decide +kernel
theorem dX2_right_32 : decode cX2_right 32 = .ok (.iload_n 3, 1) := by decide +kernel
theorem dX2_right_33 : decode cX2_right 33 = .ok (.ifCond .ne 7, 3) := by decide +kernel
theorem dX2_right_36 : decode cX2_right 36 = .ok (.iconst 1, 1) := by decide +kernel
theorem dX2_right_37 : decode cX2_right 37 = .ok (.goto 4, 3) := by decide +kernel
theorem dX2_right_40 : decode cX2_right 40 = .ok (.iconst 0, 1) := by decide +kernel
theorem dX2_right_41 : decode cX2_right 41 = .ok (.bastore, 1) := by decide +kernel
theorem dX2_right_42 : decode cX2_right 42 = .ok (.iload 4, 2) := by decide +kernel
theorem dX2_right_44 : decode cX2_right 44 = .ok (.ireturn, 1) := by decide +kernel
theorem dX2_fee_0 : decode cX2_fee 0 = .ok (.iload_n 1, 1) := by decide +kernel
theorem dX2_fee_1 : decode cX2_fee 1 = .ok (.invokestatic 40, 3) := by decide +kernel
theorem dX2_fee_4 : decode cX2_fee 4 = .ok (.ifCond .eq 13, 3) := by decide +kernel
theorem dX2_fee_7 : decode cX2_fee 7 = .ok (.iload_n 2, 1) := by decide +kernel
theorem dX2_fee_8 : decode cX2_fee 8 = .ok (.ifCond .lt 9, 3) := by decide +kernel
theorem dX2_fee_11 : decode cX2_fee 11 = .ok (.iload_n 2, 1) := by decide +kernel
theorem dX2_fee_12 : decode cX2_fee 12 = .ok (.ldc 61, 2) := by decide +kernel
theorem dX2_fee_14 : decode cX2_fee 14 = .ok (.if_icmp .le 5, 3) := by decide +kernel
theorem dX2_fee_17 : decode cX2_fee 17 = .ok (.iconst (-1), 1) := by decide +kernel
theorem dX2_fee_18 : decode cX2_fee 18 = .ok (.ireturn, 1) := by decide +kernel
theorem dX2_fee_19 : decode cX2_fee 19 = .ok (.aload_n 0, 1) := by decide +kernel
theorem dX2_fee_20 : decode cX2_fee 20 = .ok (.getfield 23, 3) := by decide +kernel
theorem dX2_fee_23 : decode cX2_fee 23 = .ok (.iload_n 1, 1) := by decide +kernel
theorem dX2_fee_24 : decode cX2_fee 24 = .ok (.iaload, 1) := by decide +kernel
theorem dX2_fee_25 : decode cX2_fee 25 = .ok (.istore_n 3, 1) := by decide +kernel
theorem dX2_fee_26 : decode cX2_fee 26 = .ok (.aload_n 0, 1) := by decide +kernel
theorem dX2_fee_27 : decode cX2_fee 27 = .ok (.getfield 23, 3) := by decide +kernel
theorem dX2_fee_30 : decode cX2_fee 30 = .ok (.iload_n 1, 1) := by decide +kernel
theorem dX2_fee_31 : decode cX2_fee 31 = .ok (.iload_n 2, 1) := by decide +kernel
theorem dX2_fee_32 : decode cX2_fee 32 = .ok (.iastore, 1) := by decide +kernel
theorem dX2_fee_33 : decode cX2_fee 33 = .ok (.iload_n 3, 1) := by decide +kernel
theorem dX2_fee_34 : decode cX2_fee 34 = .ok (.ireturn, 1) := by decide +kernel
theorem dX2_act_0 : decode cX2_act 0 = .ok (.aload_n 0, 1) := by decide +kernel
theorem dX2_act_1 : decode cX2_act 1 = .ok (.iload_n 1, 1) := by decide +kernel
theorem dX2_act_2 : decode cX2_act 2 = .ok (.invokevirtual 62, 3) := by decide +kernel
theorem dX2_act_5 : decode cX2_act 5 = .ok (.astore 6, 2) := by decide +kernel
theorem dX2_act_7 : decode cX2_act 7 = .ok (.aload 6, 2) := by decide +kernel
theorem dX2_act_9 : decode cX2_act 9 = .ok (.ifnull 29, 3) := by decide +kernel
theorem dX2_act_12 : decode cX2_act 12 = .ok (.iload_n 2, 1) := by decide +kernel
theorem dX2_act_13 : decode cX2_act 13 = .ok (.ifCond .lt 25, 3) := by decide +kernel
theorem dX2_act_16 : decode cX2_act 16 = .ok (.iload_n 2, 1) := by decide +kernel
theorem dX2_act_17 : decode cX2_act 17 = .ok (.bipush 6, 2) := by decide +kernel
theorem dX2_act_19 : decode cX2_act 19 = .ok (.if_icmp .gt 19, 3) := by decide +kernel
theorem dX2_act_22 : decode cX2_act 22 = .ok (.lload 4, 2) := by decide +kernel
theorem dX2_act_24 : decode cX2_act 24 = .ok (.lconst 0, 1) := by decide +kernel
theorem dX2_act_25 : decode cX2_act 25 = .ok (.lcmp, 1) := by decide +kernel
theorem dX2_act_26 : decode cX2_act 26 = .ok (.ifCond .lt 12, 3) := by decide +kernel
theorem dX2_act_29 : decode cX2_act 29 = .ok (.lload 4, 2) := by decide +kernel
theorem dX2_act_31 : decode cX2_act 31 = .ok (.ldc2_w 66, 3) := by decide +kernel
theorem dX2_act_34 : decode cX2_act 34 = .ok (.lcmp, 1) := by decide +kernel
theorem dX2_act_35 : decode cX2_act 35 = .ok (.ifCond .le 5, 3) := by decide +kernel
theorem dX2_act_38 : decode cX2_act 38 = .ok (.iconst (-1), 1) := by decide +kernel
theorem dX2_act_39 : decode cX2_act 39 = .ok (.ireturn, 1) := by decide +kernel
theorem dX2_act_40 : decode cX2_act 40 = .ok (.iload_n 2, 1) := by decide +kernel
theorem dX2_act_41 : decode cX2_act 41 = .ok (.iconst 2, 1) := by decide +kernel
theorem dX2_act_42 : decode cX2_act 42 = .ok (.if_icmp .ne 21, 3) := by decide +kernel
theorem dX2_act_45 : decode cX2_act 45 = .ok (.iload_n 3, 1) := by decide +kernel
theorem dX2_act_46 : decode cX2_act 46 = .ok (.invokestatic 44, 3) := by decide +kernel
theorem dX2_act_49 : decode cX2_act 49 = .ok (.ifCond .eq 12, 3) := by decide +kernel
theorem dX2_act_52 : decode cX2_act 52 = .ok (.iload_n 3, 1) := by decide +kernel
theorem dX2_act_53 : decode cX2_act 53 = .ok (.aload 6, 2) := by decide +kernel
theorem dX2_act_55 : decode cX2_act 55 = .ok (.getfield 68, 3) := by decide +kernel
theorem dX2_act_58 : decode cX2_act 58 = .ok (.if_icmp .ne 5, 3) := by decide +kernel
theorem dX2_act_61 : decode cX2_act 61 = .ok (.iconst (-1), 1) := by decide +kernel
theorem dX2_act_62 : decode cX2_act 62 = .ok (.ireturn, 1) := by decide +kernel
theorem dX2_act_63 : decode cX2_act 63 = .ok (.aload_n 0, 1) := by decide +kernel
theorem dX2_act_64 : decode cX2_act 64 = .ok (.getfield 31, 3) := by decide +kernel
theorem dX2_act_67 : decode cX2_act 67 = .ok (.sipush 512, 3) := by decide +kernel
theorem dX2_act_70 : decode cX2_act 70 = .ok (.if_icmp .lt 5, 3) := by decide +kernel
theorem dX2_act_73 : decode cX2_act 73 = .ok (.iconst (-1), 1) := by decide +kernel
theorem dX2_act_74 : decode cX2_act 74 = .ok (.ireturn, 1) := by decide +kernel
theorem dX2_act_75 : decode cX2_act 75 = .ok (.lload 4, 2) := by decide +kernel
theorem dX2_act_77 : decode cX2_act 77 = .ok (.aload_n 0, 1) := by decide +kernel
theorem dX2_act_78 : decode cX2_act 78 = .ok (.getfield 27, 3) := by decide +kernel
theorem dX2_act_81 : decode cX2_act 81 = .ok (.lcmp, 1) := by decide +kernel
theorem dX2_act_82 : decode cX2_act 82 = .ok (.ifCond .ge 7, 3) := by decide +kernel
theorem dX2_act_85 : decode cX2_act 85 = .ok (.iconst 1, 1) := by decide +kernel
theorem dX2_act_86 : decode cX2_act 86 = .ok (.goto 4, 3) := by decide +kernel
theorem dX2_act_89 : decode cX2_act 89 = .ok (.iconst 0, 1) := by decide +kernel
theorem dX2_act_90 : decode cX2_act 90 = .ok (.istore 7, 2) := by decide +kernel
theorem dX2_act_92 : decode cX2_act 92 = .ok (.iload 7, 2) := by decide +kernel
theorem dX2_act_94 : decode cX2_act 94 = .ok (.ifCond .eq 13, 3) := by decide +kernel
theorem dX2_act_97 : decode cX2_act 97 = .ok (.aload 6, 2) := by decide +kernel
theorem dX2_act_99 : decode cX2_act 99 = .ok (.lload 4, 2) := by decide +kernel
theorem dX2_act_101 : decode cX2_act 101 = .ok (.invokestatic 71, 3) := by decide +kernel
theorem dX2_act_104 : decode cX2_act 104 = .ok (.goto 8, 3) := by decide +kernel
theorem dX2_act_107 : decode cX2_act 107 = .ok (.aload 6, 2) := by decide +kernel
theorem dX2_act_109 : decode cX2_act 109 = .ok (.getfield 75, 3) := by decide +kernel
theorem dX2_act_112 : decode cX2_act 112 = .ok (.istore 8, 2) := by decide +kernel
theorem dX2_act_114 : decode cX2_act 114 = .ok (.iload_n 2, 1) := by decide +kernel
theorem dX2_act_115 : decode cX2_act 115 = .ok (.iload 8, 2) := by decide +kernel
theorem dX2_act_117 : decode cX2_act 117 = .ok (.invokestatic 78, 3) := by decide +kernel
theorem dX2_act_120 : decode cX2_act 120 = .ok (.ifCond .ne 6, 3) := by decide +kernel
theorem dX2_act_123 : decode cX2_act 123 = .ok (.bipush (-2), 2) := by decide +kernel
theorem dX2_act_125 : decode cX2_act 125 = .ok (.ireturn, 1) := by decide +kernel
theorem dX2_act_126 : decode cX2_act 126 = .ok (.aload_n 0, 1) := by decide +kernel
theorem dX2_act_127 : decode cX2_act 127 = .ok (.aload 6, 2) := by decide +kernel
theorem dX2_act_129 : decode cX2_act 129 = .ok (.iload_n 2, 1) := by decide +kernel
theorem dX2_act_130 : decode cX2_act 130 = .ok (.iload_n 3, 1) := by decide +kernel
theorem dX2_act_131 : decode cX2_act 131 = .ok (.iload 7, 2) := by decide +kernel
theorem dX2_act_133 : decode cX2_act 133 = .ok (.invokevirtual 81, 3) := by decide +kernel
theorem dX2_act_136 : decode cX2_act 136 = .ok (.ifCond .eq 6, 3) := by decide +kernel
theorem dX2_act_139 : decode cX2_act 139 = .ok (.bipush (-3), 2) := by decide +kernel
theorem dX2_act_141 : decode cX2_act 141 = .ok (.ireturn, 1) := by decide +kernel
theorem dX2_act_142 : decode cX2_act 142 = .ok (.aload_n 0, 1) := by decide +kernel
theorem dX2_act_143 : decode cX2_act 143 = .ok (.aload 6, 2) := by decide +kernel
theorem dX2_act_145 : decode cX2_act 145 = .ok (.lload 4, 2) := by decide +kernel
theorem dX2_act_147 : decode cX2_act 147 = .ok (.iload_n 2, 1) := by decide +kernel
theorem dX2_act_148 : decode cX2_act 148 = .ok (.iload 7, 2) := by decide +kernel
theorem dX2_act_150 : decode cX2_act 150 = .ok (.invokevirtual 85, 3) := by decide +kernel
theorem dX2_act_153 : decode cX2_act 153 = .ok (.iload 7, 2) := by decide +kernel
theorem dX2_act_155 : decode cX2_act 155 = .ok (.ifCond .ne 11, 3) := by decide +kernel
theorem dX2_act_158 : decode cX2_act 158 = .ok (.aload_n 0, 1) := by decide +kernel
theorem dX2_act_159 : decode cX2_act 159 = .ok (.aload 6, 2) := by decide +kernel
theorem dX2_act_161 : decode cX2_act 161 = .ok (.iload_n 2, 1) := by decide +kernel
theorem dX2_act_162 : decode cX2_act 162 = .ok (.iload_n 3, 1) := by decide +kernel
theorem dX2_act_163 : decode cX2_act 163 = .ok (.invokevirtual 89, 3) := by decide +kernel
theorem dX2_act_166 : decode cX2_act 166 = .ok (.iload_n 2, 1) := by decide +kernel
theorem dX2_act_167 : decode cX2_act 167 = .ok (.ireturn, 1) := by decide +kernel
theorem dX2_stateOn_0 : decode cX2_stateOn 0 = .ok (.aload_n 0, 1) := by decide +kernel
theorem dX2_stateOn_1 : decode cX2_stateOn 1 = .ok (.lload_n 1, 1) := by decide +kernel
theorem dX2_stateOn_2 : decode cX2_stateOn 2 = .ok (.invokestatic 138, 3) := by decide +kernel
theorem dX2_stateOn_5 : decode cX2_stateOn 5 = .ok (.astore_n 3, 1) := by decide +kernel
theorem dX2_stateOn_6 : decode cX2_stateOn 6 = .ok (.aload_n 3, 1) := by decide +kernel
theorem dX2_stateOn_7 : decode cX2_stateOn 7 = .ok (.ifnonnull 7, 3) := by decide +kernel
theorem dX2_stateOn_10 : decode cX2_stateOn 10 = .ok (.iconst 3, 1) := by decide +kernel
theorem dX2_stateOn_11 : decode cX2_stateOn 11 = .ok (.goto 7, 3) := by decide +kernel
theorem dX2_stateOn_14 : decode cX2_stateOn 14 = .ok (.aload_n 3, 1) := by decide +kernel
theorem dX2_stateOn_15 : decode cX2_stateOn 15 = .ok (.getfield 118, 3) := by decide +kernel
theorem dX2_stateOn_18 : decode cX2_stateOn 18 = .ok (.ireturn, 1) := by decide +kernel
theorem dX2_lastUpTo_0 : decode cX2_lastUpTo 0 = .ok (.aconst_null, 1) := by decide +kernel
theorem dX2_lastUpTo_1 : decode cX2_lastUpTo 1 = .ok (.astore_n 3, 1) := by decide +kernel
theorem dX2_lastUpTo_2 : decode cX2_lastUpTo 2 = .ok (.aload_n 0, 1) := by decide +kernel
theorem dX2_lastUpTo_3 : decode cX2_lastUpTo 3 = .ok (.getfield 109, 3) := by decide +kernel
theorem dX2_lastUpTo_6 : decode cX2_lastUpTo 6 = .ok (.astore 4, 2) := by decide +kernel
theorem dX2_lastUpTo_8 : decode cX2_lastUpTo 8 = .ok (.aload 4, 2) := by decide +kernel
theorem dX2_lastUpTo_10 : decode cX2_lastUpTo 10 = .ok (.ifnull 26, 3) := by decide +kernel
theorem dX2_lastUpTo_13 : decode cX2_lastUpTo 13 = .ok (.aload 4, 2) := by decide +kernel
theorem dX2_lastUpTo_15 : decode cX2_lastUpTo 15 = .ok (.getfield 135, 3) := by decide +kernel
theorem dX2_lastUpTo_18 : decode cX2_lastUpTo 18 = .ok (.lload_n 1, 1) := by decide +kernel
theorem dX2_lastUpTo_19 : decode cX2_lastUpTo 19 = .ok (.lcmp, 1) := by decide +kernel
theorem dX2_lastUpTo_20 : decode cX2_lastUpTo 20 = .ok (.ifCond .gt 16, 3) := by decide +kernel
theorem dX2_lastUpTo_23 : decode cX2_lastUpTo 23 = .ok (.aload 4, 2) := by decide +kernel
theorem dX2_lastUpTo_25 : decode cX2_lastUpTo 25 = .ok (.astore_n 3, 1) := by decide +kernel
theorem dX2_lastUpTo_26 : decode cX2_lastUpTo 26 = .ok (.aload 4, 2) := by decide +kernel
theorem dX2_lastUpTo_28 : decode cX2_lastUpTo 28 = .ok (.getfield 113, 3) := by decide +kernel
theorem dX2_lastUpTo_31 : decode cX2_lastUpTo 31 = .ok (.astore 4, 2) := by decide +kernel
theorem dX2_lastUpTo_33 : decode cX2_lastUpTo 33 = .ok (.goto (-25), 3) := by decide +kernel
theorem dX2_lastUpTo_36 : decode cX2_lastUpTo 36 = .ok (.aload_n 3, 1) := by decide +kernel
theorem dX2_lastUpTo_37 : decode cX2_lastUpTo 37 = .ok (.areturn, 1) := by decide +kernel
theorem dX2_canFollow_0 : decode cX2_canFollow 0 = .ok (.iload_n 0, 1) := by decide +kernel
theorem dX2_canFollow_1 : decode cX2_canFollow 1 = .ok (.tableswitch 131 0 6 #[43, 60, 75, 90, 106, 75, 116], 43) := by decide +kernel
theorem dX2_canFollow_44 : decode cX2_canFollow 44 = .ok (.iload_n 1, 1) := by decide +kernel
theorem dX2_canFollow_45 : decode cX2_canFollow 45 = .ok (.iconst 1, 1) := by decide +kernel
theorem dX2_canFollow_46 : decode cX2_canFollow 46 = .ok (.if_icmp .lt 13, 3) := by decide +kernel
theorem dX2_canFollow_49 : decode cX2_canFollow 49 = .ok (.iload_n 1, 1) := by decide +kernel
theorem dX2_canFollow_50 : decode cX2_canFollow 50 = .ok (.bipush 6, 2) := by decide +kernel
theorem dX2_canFollow_52 : decode cX2_canFollow 52 = .ok (.if_icmp .gt 7, 3) := by decide +kernel
theorem dX2_canFollow_55 : decode cX2_canFollow 55 = .ok (.iconst 1, 1) := by decide +kernel
theorem dX2_canFollow_56 : decode cX2_canFollow 56 = .ok (.goto 4, 3) := by decide +kernel
theorem dX2_canFollow_59 : decode cX2_canFollow 59 = .ok (.iconst 0, 1) := by decide +kernel
theorem dX2_canFollow_60 : decode cX2_canFollow 60 = .ok (.ireturn, 1) := by decide +kernel
theorem dX2_canFollow_61 : decode cX2_canFollow 61 = .ok (.iload_n 1, 1) := by decide +kernel
theorem dX2_canFollow_62 : decode cX2_canFollow 62 = .ok (.ifCond .eq 8, 3) := by decide +kernel
theorem dX2_canFollow_65 : decode cX2_canFollow 65 = .ok (.iload_n 1, 1) := by decide +kernel
theorem dX2_canFollow_66 : decode cX2_canFollow 66 = .ok (.iconst 4, 1) := by decide +kernel
theorem dX2_canFollow_67 : decode cX2_canFollow 67 = .ok (.if_icmp .ne 7, 3) := by decide +kernel
theorem dX2_canFollow_70 : decode cX2_canFollow 70 = .ok (.iconst 1, 1) := by decide +kernel
theorem dX2_canFollow_71 : decode cX2_canFollow 71 = .ok (.goto 4, 3) := by decide +kernel
theorem dX2_canFollow_74 : decode cX2_canFollow 74 = .ok (.iconst 0, 1) := by decide +kernel
theorem dX2_canFollow_75 : decode cX2_canFollow 75 = .ok (.ireturn, 1) := by decide +kernel
theorem dX2_canFollow_76 : decode cX2_canFollow 76 = .ok (.iload_n 1, 1) := by decide +kernel
theorem dX2_canFollow_77 : decode cX2_canFollow 77 = .ok (.ifCond .eq 8, 3) := by decide +kernel
theorem dX2_canFollow_80 : decode cX2_canFollow 80 = .ok (.iload_n 1, 1) := by decide +kernel
theorem dX2_canFollow_81 : decode cX2_canFollow 81 = .ok (.iconst 3, 1) := by decide +kernel
theorem dX2_canFollow_82 : decode cX2_canFollow 82 = .ok (.if_icmp .ne 7, 3) := by decide +kernel
theorem dX2_canFollow_85 : decode cX2_canFollow 85 = .ok (.iconst 1, 1) := by decide +kernel
theorem dX2_canFollow_86 : decode cX2_canFollow 86 = .ok (.goto 4, 3) := by decide +kernel
theorem dX2_canFollow_89 : decode cX2_canFollow 89 = .ok (.iconst 0, 1) := by decide +kernel
theorem dX2_canFollow_90 : decode cX2_canFollow 90 = .ok (.ireturn, 1) := by decide +kernel
theorem dX2_canFollow_91 : decode cX2_canFollow 91 = .ok (.iload_n 1, 1) := by decide +kernel
theorem dX2_canFollow_92 : decode cX2_canFollow 92 = .ok (.ifCond .eq 9, 3) := by decide +kernel
theorem dX2_canFollow_95 : decode cX2_canFollow 95 = .ok (.iload_n 1, 1) := by decide +kernel
theorem dX2_canFollow_96 : decode cX2_canFollow 96 = .ok (.bipush 6, 2) := by decide +kernel
theorem dX2_canFollow_98 : decode cX2_canFollow 98 = .ok (.if_icmp .ne 7, 3) := by decide +kernel
theorem dX2_canFollow_101 : decode cX2_canFollow 101 = .ok (.iconst 1, 1) := by decide +kernel
theorem dX2_canFollow_102 : decode cX2_canFollow 102 = .ok (.goto 4, 3) := by decide +kernel
theorem dX2_canFollow_105 : decode cX2_canFollow 105 = .ok (.iconst 0, 1) := by decide +kernel
theorem dX2_canFollow_106 : decode cX2_canFollow 106 = .ok (.ireturn, 1) := by decide +kernel
theorem dX2_canFollow_107 : decode cX2_canFollow 107 = .ok (.iload_n 1, 1) := by decide +kernel
theorem dX2_canFollow_108 : decode cX2_canFollow 108 = .ok (.ifCond .ne 7, 3) := by decide +kernel
theorem dX2_canFollow_111 : decode cX2_canFollow 111 = .ok (.iconst 1, 1) := by decide +kernel
theorem dX2_canFollow_112 : decode cX2_canFollow 112 = .ok (.goto 4, 3) := by decide +kernel
theorem dX2_canFollow_115 : decode cX2_canFollow 115 = .ok (.iconst 0, 1) := by decide +kernel
theorem dX2_canFollow_116 : decode cX2_canFollow 116 = .ok (.ireturn, 1) := by decide +kernel
theorem dX2_canFollow_117 : decode cX2_canFollow 117 = .ok (.iload_n 1, 1) := by decide +kernel
theorem dX2_canFollow_118 : decode cX2_canFollow 118 = .ok (.ifCond .lt 12, 3) := by decide +kernel
theorem dX2_canFollow_121 : decode cX2_canFollow 121 = .ok (.iload_n 1, 1) := by decide +kernel
theorem dX2_canFollow_122 : decode cX2_canFollow 122 = .ok (.iconst 5, 1) := by decide +kernel
theorem dX2_canFollow_123 : decode cX2_canFollow 123 = .ok (.if_icmp .gt 7, 3) := by decide +kernel
theorem dX2_canFollow_126 : decode cX2_canFollow 126 = .ok (.iconst 1, 1) := by decide +kernel
theorem dX2_canFollow_127 : decode cX2_canFollow 127 = .ok (.goto 4, 3) := by decide +kernel
theorem dX2_canFollow_130 : decode cX2_canFollow 130 = .ok (.iconst 0, 1) := by decide +kernel
theorem dX2_canFollow_131 : decode cX2_canFollow 131 = .ok (.ireturn, 1) := by decide +kernel
theorem dX2_canFollow_132 : decode cX2_canFollow 132 = .ok (.iconst 0, 1) := by decide +kernel
theorem dX2_canFollow_133 : decode cX2_canFollow 133 = .ok (.ireturn, 1) := by decide +kernel
theorem dX2_lacksRight_0 : decode cX2_lacksRight 0 = .ok (.iload_n 2, 1) := by decide +kernel
theorem dX2_lacksRight_1 : decode cX2_lacksRight 1 = .ok (.iconst 2, 1) := by decide +kernel
theorem dX2_lacksRight_2 : decode cX2_lacksRight 2 = .ok (.if_icmp .ne 21, 3) := by decide +kernel
theorem dX2_lacksRight_5 : decode cX2_lacksRight 5 = .ok (.aload_n 0, 1) := by decide +kernel
theorem dX2_lacksRight_6 : decode cX2_lacksRight 6 = .ok (.iload_n 3, 1) := by decide +kernel
theorem dX2_lacksRight_7 : decode cX2_lacksRight 7 = .ok (.aload_n 1, 1) := by decide +kernel
theorem dX2_lacksRight_8 : decode cX2_lacksRight 8 = .ok (.getfield 132, 3) := by decide +kernel
theorem dX2_lacksRight_11 : decode cX2_lacksRight 11 = .ok (.invokevirtual 54, 3) := by decide +kernel
theorem dX2_lacksRight_14 : decode cX2_lacksRight 14 = .ok (.ifCond .ne 7, 3) := by decide +kernel
theorem dX2_lacksRight_17 : decode cX2_lacksRight 17 = .ok (.iconst 1, 1) := by decide +kernel
theorem dX2_lacksRight_18 : decode cX2_lacksRight 18 = .ok (.goto 4, 3) := by decide +kernel
theorem dX2_lacksRight_21 : decode cX2_lacksRight 21 = .ok (.iconst 0, 1) := by decide +kernel
theorem dX2_lacksRight_22 : decode cX2_lacksRight 22 = .ok (.ireturn, 1) := by decide +kernel
theorem dX2_lacksRight_23 : decode cX2_lacksRight 23 = .ok (.iload_n 2, 1) := by decide +kernel
theorem dX2_lacksRight_24 : decode cX2_lacksRight 24 = .ok (.ifCond .ne 20, 3) := by decide +kernel
theorem dX2_lacksRight_27 : decode cX2_lacksRight 27 = .ok (.aload_n 1, 1) := by decide +kernel
theorem dX2_lacksRight_28 : decode cX2_lacksRight 28 = .ok (.getfield 75, 3) := by decide +kernel
theorem dX2_lacksRight_31 : decode cX2_lacksRight 31 = .ok (.iconst 2, 1) := by decide +kernel
theorem dX2_lacksRight_32 : decode cX2_lacksRight 32 = .ok (.if_icmp .ne 12, 3) := by decide +kernel
theorem dX2_lacksRight_35 : decode cX2_lacksRight 35 = .ok (.iload 4, 2) := by decide +kernel
theorem dX2_lacksRight_37 : decode cX2_lacksRight 37 = .ok (.ifCond .ne 7, 3) := by decide +kernel
theorem dX2_lacksRight_40 : decode cX2_lacksRight 40 = .ok (.iconst 1, 1) := by decide +kernel
theorem dX2_lacksRight_41 : decode cX2_lacksRight 41 = .ok (.goto 4, 3) := by decide +kernel
theorem dX2_lacksRight_44 : decode cX2_lacksRight 44 = .ok (.iconst 0, 1) := by decide +kernel
theorem dX2_lacksRight_45 : decode cX2_lacksRight 45 = .ok (.istore 5, 2) := by decide +kernel
theorem dX2_lacksRight_47 : decode cX2_lacksRight 47 = .ok (.iload 5, 2) := by decide +kernel
theorem dX2_lacksRight_49 : decode cX2_lacksRight 49 = .ok (.ifCond .eq 22, 3) := by decide +kernel
theorem dX2_lacksRight_52 : decode cX2_lacksRight 52 = .ok (.aload_n 0, 1) := by decide +kernel
theorem dX2_lacksRight_53 : decode cX2_lacksRight 53 = .ok (.aload_n 1, 1) := by decide +kernel
theorem dX2_lacksRight_54 : decode cX2_lacksRight 54 = .ok (.getfield 68, 3) := by decide +kernel
theorem dX2_lacksRight_57 : decode cX2_lacksRight 57 = .ok (.aload_n 1, 1) := by decide +kernel
theorem dX2_lacksRight_58 : decode cX2_lacksRight 58 = .ok (.getfield 132, 3) := by decide +kernel
theorem dX2_lacksRight_61 : decode cX2_lacksRight 61 = .ok (.invokevirtual 54, 3) := by decide +kernel
theorem dX2_lacksRight_64 : decode cX2_lacksRight 64 = .ok (.ifCond .ne 7, 3) := by decide +kernel
theorem dX2_lacksRight_67 : decode cX2_lacksRight 67 = .ok (.iconst 1, 1) := by decide +kernel
theorem dX2_lacksRight_68 : decode cX2_lacksRight 68 = .ok (.goto 4, 3) := by decide +kernel
theorem dX2_lacksRight_71 : decode cX2_lacksRight 71 = .ok (.iconst 0, 1) := by decide +kernel
theorem dX2_lacksRight_72 : decode cX2_lacksRight 72 = .ok (.ireturn, 1) := by decide +kernel
theorem dX2_enter_0 : decode cX2_enter 0 = .ok (.aload_n 1, 1) := by decide +kernel
theorem dX2_enter_1 : decode cX2_enter 1 = .ok (.lload_n 2, 1) := by decide +kernel
theorem dX2_enter_2 : decode cX2_enter 2 = .ok (.invokestatic 138, 3) := by decide +kernel
theorem dX2_enter_5 : decode cX2_enter 5 = .ok (.astore 6, 2) := by decide +kernel
theorem dX2_enter_7 : decode cX2_enter 7 = .ok (.aload 6, 2) := by decide +kernel
theorem dX2_enter_9 : decode cX2_enter 9 = .ok (.ifnonnull 26, 3) := by decide +kernel
theorem dX2_enter_12 : decode cX2_enter 12 = .ok (.aload_n 1, 1) := by decide +kernel
theorem dX2_enter_13 : decode cX2_enter 13 = .ok (.new 114, 3) := by decide +kernel
theorem dX2_enter_16 : decode cX2_enter 16 = .ok (.dup, 1) := by decide +kernel
theorem dX2_enter_17 : decode cX2_enter 17 = .ok (.lload_n 2, 1) := by decide +kernel
theorem dX2_enter_18 : decode cX2_enter 18 = .ok (.iload 4, 2) := by decide +kernel
theorem dX2_enter_20 : decode cX2_enter 20 = .ok (.iload 5, 2) := by decide +kernel
theorem dX2_enter_22 : decode cX2_enter 22 = .ok (.aload_n 1, 1) := by decide +kernel
theorem dX2_enter_23 : decode cX2_enter 23 = .ok (.getfield 109, 3) := by decide +kernel
theorem dX2_enter_26 : decode cX2_enter 26 = .ok (.invokespecial 142, 3) := by decide +kernel
theorem dX2_enter_29 : decode cX2_enter 29 = .ok (.putfield 109, 3) := by decide +kernel
theorem dX2_enter_32 : decode cX2_enter 32 = .ok (.goto 25, 3) := by decide +kernel
theorem dX2_enter_35 : decode cX2_enter 35 = .ok (.aload 6, 2) := by decide +kernel
theorem dX2_enter_37 : decode cX2_enter 37 = .ok (.new 114, 3) := by decide +kernel
theorem dX2_enter_40 : decode cX2_enter 40 = .ok (.dup, 1) := by decide +kernel
theorem dX2_enter_41 : decode cX2_enter 41 = .ok (.lload_n 2, 1) := by decide +kernel
theorem dX2_enter_42 : decode cX2_enter 42 = .ok (.iload 4, 2) := by decide +kernel
theorem dX2_enter_44 : decode cX2_enter 44 = .ok (.iload 5, 2) := by decide +kernel
theorem dX2_enter_46 : decode cX2_enter 46 = .ok (.aload 6, 2) := by decide +kernel
theorem dX2_enter_48 : decode cX2_enter 48 = .ok (.getfield 113, 3) := by decide +kernel
theorem dX2_enter_51 : decode cX2_enter 51 = .ok (.invokespecial 142, 3) := by decide +kernel
theorem dX2_enter_54 : decode cX2_enter 54 = .ok (.putfield 113, 3) := by decide +kernel
theorem dX2_enter_57 : decode cX2_enter 57 = .ok (.aload_n 0, 1) := by decide +kernel
theorem dX2_enter_58 : decode cX2_enter 58 = .ok (.dup, 1) := by decide +kernel
theorem dX2_enter_59 : decode cX2_enter 59 = .ok (.getfield 31, 3) := by decide +kernel
theorem dX2_enter_62 : decode cX2_enter 62 = .ok (.iconst 1, 1) := by decide +kernel
theorem dX2_enter_63 : decode cX2_enter 63 = .ok (.iadd, 1) := by decide +kernel
theorem dX2_enter_64 : decode cX2_enter 64 = .ok (.putfield 31, 3) := by decide +kernel
theorem dX2_enter_67 : decode cX2_enter 67 = .ok (.aload_n 0, 1) := by decide +kernel
theorem dX2_enter_68 : decode cX2_enter 68 = .ok (.aload_n 0, 1) := by decide +kernel
theorem dX2_enter_69 : decode cX2_enter 69 = .ok (.getfield 27, 3) := by decide +kernel
theorem dX2_enter_72 : decode cX2_enter 72 = .ok (.lload_n 2, 1) := by decide +kernel
theorem dX2_enter_73 : decode cX2_enter 73 = .ok (.invokestatic 145, 3) := by decide +kernel
theorem dX2_enter_76 : decode cX2_enter 76 = .ok (.putfield 27, 3) := by decide +kernel
theorem dX2_enter_79 : decode cX2_enter 79 = .ok (.return_, 1) := by decide +kernel
theorem dX1_init_0 : decode cX1_init 0 = .ok (.aload_n 0, 1) := by decide +kernel
theorem dX1_init_1 : decode cX1_init 1 = .ok (.invokespecial 1, 3) := by decide +kernel
theorem dX1_init_4 : decode cX1_init 4 = .ok (.aload_n 0, 1) := by decide +kernel
theorem dX1_init_5 : decode cX1_init 5 = .ok (.lload_n 1, 1) := by decide +kernel
theorem dX1_init_6 : decode cX1_init 6 = .ok (.putfield 7, 3) := by decide +kernel
theorem dX1_init_9 : decode cX1_init 9 = .ok (.aload_n 0, 1) := by decide +kernel
theorem dX1_init_10 : decode cX1_init 10 = .ok (.iload_n 3, 1) := by decide +kernel
theorem dX1_init_11 : decode cX1_init 11 = .ok (.putfield 13, 3) := by decide +kernel
theorem dX1_init_14 : decode cX1_init 14 = .ok (.aload_n 0, 1) := by decide +kernel
theorem dX1_init_15 : decode cX1_init 15 = .ok (.iload 4, 2) := by decide +kernel
theorem dX1_init_17 : decode cX1_init 17 = .ok (.putfield 17, 3) := by decide +kernel
theorem dX1_init_20 : decode cX1_init 20 = .ok (.aload_n 0, 1) := by decide +kernel
theorem dX1_init_21 : decode cX1_init 21 = .ok (.aload 5, 2) := by decide +kernel
theorem dX1_init_23 : decode cX1_init 23 = .ok (.putfield 21, 3) := by decide +kernel
theorem dX1_init_26 : decode cX1_init 26 = .ok (.return_, 1) := by decide +kernel
theorem dJ_max_0 : decode cJ_max 0 = .ok (.lload_n 0, 1) := by decide +kernel
theorem dJ_max_1 : decode cJ_max 1 = .ok (.lload_n 2, 1) := by decide +kernel
theorem dJ_max_2 : decode cJ_max 2 = .ok (.lcmp, 1) := by decide +kernel
theorem dJ_max_3 : decode cJ_max 3 = .ok (.ifCond .lt 7, 3) := by decide +kernel
theorem dJ_max_6 : decode cJ_max 6 = .ok (.lload_n 0, 1) := by decide +kernel
theorem dJ_max_7 : decode cJ_max 7 = .ok (.goto 4, 3) := by decide +kernel
theorem dJ_max_10 : decode cJ_max 10 = .ok (.lload_n 2, 1) := by decide +kernel
theorem dJ_max_11 : decode cJ_max 11 = .ok (.lreturn, 1) := by decide +kernel
theorem dX2_carryOut_0 : decode cX2_carryOut 0 = .ok (.iload_n 2, 1) := by decide +kernel
theorem dX2_carryOut_1 : decode cX2_carryOut 1 = .ok (.bipush 6, 2) := by decide +kernel
theorem dX2_carryOut_3 : decode cX2_carryOut 3 = .ok (.if_icmp .ne 39, 3) := by decide +kernel
theorem dX2_carryOut_6 : decode cX2_carryOut 6 = .ok (.aload_n 1, 1) := by decide +kernel
theorem dX2_carryOut_7 : decode cX2_carryOut 7 = .ok (.getfield 75, 3) := by decide +kernel
theorem dX2_carryOut_10 : decode cX2_carryOut 10 = .ok (.iconst 1, 1) := by decide +kernel
theorem dX2_carryOut_11 : decode cX2_carryOut 11 = .ok (.if_icmp .ne 31, 3) := by decide +kernel
theorem dX2_carryOut_14 : decode cX2_carryOut 14 = .ok (.aload_n 1, 1) := by decide +kernel
theorem dX2_carryOut_15 : decode cX2_carryOut 15 = .ok (.getfield 132, 3) := by decide +kernel
theorem dX2_carryOut_18 : decode cX2_carryOut 18 = .ok (.invokestatic 40, 3) := by decide +kernel
theorem dX2_carryOut_21 : decode cX2_carryOut 21 = .ok (.ifCond .eq 21, 3) := by decide +kernel
theorem dX2_carryOut_24 : decode cX2_carryOut 24 = .ok (.aload_n 1, 1) := by decide +kernel
theorem dX2_carryOut_25 : decode cX2_carryOut 25 = .ok (.dup, 1) := by decide +kernel
theorem dX2_carryOut_26 : decode cX2_carryOut 26 = .ok (.getfield 106, 3) := by decide +kernel
theorem dX2_carryOut_29 : decode cX2_carryOut 29 = .ok (.aload_n 0, 1) := by decide +kernel
theorem dX2_carryOut_30 : decode cX2_carryOut 30 = .ok (.getfield 23, 3) := by decide +kernel
theorem dX2_carryOut_33 : decode cX2_carryOut 33 = .ok (.aload_n 1, 1) := by decide +kernel
theorem dX2_carryOut_34 : decode cX2_carryOut 34 = .ok (.getfield 132, 3) := by decide +kernel
theorem dX2_carryOut_37 : decode cX2_carryOut 37 = .ok (.iaload, 1) := by decide +kernel
theorem dX2_carryOut_38 : decode cX2_carryOut 38 = .ok (.iadd, 1) := by decide +kernel
theorem dX2_carryOut_39 : decode cX2_carryOut 39 = .ok (.putfield 106, 3) := by decide +kernel
theorem dX2_carryOut_42 : decode cX2_carryOut 42 = .ok (.iload_n 2, 1) := by decide +kernel
theorem dX2_carryOut_43 : decode cX2_carryOut 43 = .ok (.iconst 2, 1) := by decide +kernel
theorem dX2_carryOut_44 : decode cX2_carryOut 44 = .ok (.if_icmp .ne 8, 3) := by decide +kernel
theorem dX2_carryOut_47 : decode cX2_carryOut 47 = .ok (.aload_n 1, 1) := by decide +kernel
theorem dX2_carryOut_48 : decode cX2_carryOut 48 = .ok (.iload_n 3, 1) := by decide +kernel
theorem dX2_carryOut_49 : decode cX2_carryOut 49 = .ok (.putfield 68, 3) := by decide +kernel
theorem dX2_carryOut_52 : decode cX2_carryOut 52 = .ok (.iload_n 2, 1) := by decide +kernel
theorem dX2_carryOut_53 : decode cX2_carryOut 53 = .ok (.ifCond .ne 18, 3) := by decide +kernel
theorem dX2_carryOut_56 : decode cX2_carryOut 56 = .ok (.aload_n 1, 1) := by decide +kernel
theorem dX2_carryOut_57 : decode cX2_carryOut 57 = .ok (.getfield 93, 3) := by decide +kernel
theorem dX2_carryOut_60 : decode cX2_carryOut 60 = .ok (.ifCond .eq 11, 3) := by decide +kernel
theorem dX2_carryOut_63 : decode cX2_carryOut 63 = .ok (.aload_n 1, 1) := by decide +kernel
theorem dX2_carryOut_64 : decode cX2_carryOut 64 = .ok (.aload_n 1, 1) := by decide +kernel
theorem dX2_carryOut_65 : decode cX2_carryOut 65 = .ok (.getfield 68, 3) := by decide +kernel
theorem dX2_carryOut_68 : decode cX2_carryOut 68 = .ok (.putfield 97, 3) := by decide +kernel
theorem dX2_carryOut_71 : decode cX2_carryOut 71 = .ok (.aload_n 1, 1) := by decide +kernel
theorem dX2_carryOut_72 : decode cX2_carryOut 72 = .ok (.iload_n 2, 1) := by decide +kernel
theorem dX2_carryOut_73 : decode cX2_carryOut 73 = .ok (.putfield 75, 3) := by decide +kernel
theorem dX2_carryOut_76 : decode cX2_carryOut 76 = .ok (.aload_n 1, 1) := by decide +kernel
theorem dX2_carryOut_77 : decode cX2_carryOut 77 = .ok (.iconst (-1), 1) := by decide +kernel
theorem dX2_carryOut_78 : decode cX2_carryOut 78 = .ok (.putfield 103, 3) := by decide +kernel
theorem dX2_carryOut_81 : decode cX2_carryOut 81 = .ok (.return_, 1) := by decide +kernel
theorem dX2_state_0 : decode cX2_state 0 = .ok (.aload_n 0, 1) := by decide +kernel
theorem dX2_state_1 : decode cX2_state 1 = .ok (.iload_n 1, 1) := by decide +kernel
theorem dX2_state_2 : decode cX2_state 2 = .ok (.invokevirtual 62, 3) := by decide +kernel
theorem dX2_state_5 : decode cX2_state 5 = .ok (.astore 4, 2) := by decide +kernel
theorem dX2_state_7 : decode cX2_state 7 = .ok (.aload 4, 2) := by decide +kernel
theorem dX2_state_9 : decode cX2_state 9 = .ok (.ifnonnull 7, 3) := by decide +kernel
theorem dX2_state_12 : decode cX2_state 12 = .ok (.iconst (-1), 1) := by decide +kernel
theorem dX2_state_13 : decode cX2_state 13 = .ok (.goto 9, 3) := by decide +kernel
theorem dX2_state_16 : decode cX2_state 16 = .ok (.aload 4, 2) := by decide +kernel
theorem dX2_state_18 : decode cX2_state 18 = .ok (.lload_n 2, 1) := by decide +kernel
theorem dX2_state_19 : decode cX2_state 19 = .ok (.invokestatic 71, 3) := by decide +kernel
theorem dX2_state_22 : decode cX2_state 22 = .ok (.ireturn, 1) := by decide +kernel
theorem dX2_place_0 : decode cX2_place 0 = .ok (.aload_n 0, 1) := by decide +kernel
theorem dX2_place_1 : decode cX2_place 1 = .ok (.iload_n 1, 1) := by decide +kernel
theorem dX2_place_2 : decode cX2_place 2 = .ok (.invokevirtual 62, 3) := by decide +kernel
theorem dX2_place_5 : decode cX2_place 5 = .ok (.astore_n 2, 1) := by decide +kernel
theorem dX2_place_6 : decode cX2_place 6 = .ok (.aload_n 2, 1) := by decide +kernel
theorem dX2_place_7 : decode cX2_place 7 = .ok (.ifnonnull 7, 3) := by decide +kernel
theorem dX2_place_10 : decode cX2_place 10 = .ok (.iconst (-1), 1) := by decide +kernel
theorem dX2_place_11 : decode cX2_place 11 = .ok (.goto 7, 3) := by decide +kernel
theorem dX2_place_14 : decode cX2_place 14 = .ok (.aload_n 2, 1) := by decide +kernel
theorem dX2_place_15 : decode cX2_place 15 = .ok (.getfield 68, 3) := by decide +kernel
theorem dX2_place_18 : decode cX2_place 18 = .ok (.ireturn, 1) := by decide +kernel
theorem dX2_floats_0 : decode cX2_floats 0 = .ok (.aload_n 0, 1) := by decide +kernel
theorem dX2_floats_1 : decode cX2_floats 1 = .ok (.iload_n 1, 1) := by decide +kernel
theorem dX2_floats_2 : decode cX2_floats 2 = .ok (.invokevirtual 62, 3) := by decide +kernel
theorem dX2_floats_5 : decode cX2_floats 5 = .ok (.astore_n 3, 1) := by decide +kernel
theorem dX2_floats_6 : decode cX2_floats 6 = .ok (.aload_n 3, 1) := by decide +kernel
theorem dX2_floats_7 : decode cX2_floats 7 = .ok (.ifnonnull 5, 3) := by decide +kernel
theorem dX2_floats_10 : decode cX2_floats 10 = .ok (.iconst 0, 1) := by decide +kernel
theorem dX2_floats_11 : decode cX2_floats 11 = .ok (.ireturn, 1) := by decide +kernel
theorem dX2_floats_12 : decode cX2_floats 12 = .ok (.aload_n 3, 1) := by decide +kernel
theorem dX2_floats_13 : decode cX2_floats 13 = .ok (.getfield 93, 3) := by decide +kernel
theorem dX2_floats_16 : decode cX2_floats 16 = .ok (.istore 4, 2) := by decide +kernel
theorem dX2_floats_18 : decode cX2_floats 18 = .ok (.aload_n 3, 1) := by decide +kernel
theorem dX2_floats_19 : decode cX2_floats 19 = .ok (.iload_n 2, 1) := by decide +kernel
theorem dX2_floats_20 : decode cX2_floats 20 = .ok (.putfield 93, 3) := by decide +kernel
theorem dX2_floats_23 : decode cX2_floats 23 = .ok (.iload 4, 2) := by decide +kernel
theorem dX2_floats_25 : decode cX2_floats 25 = .ok (.ireturn, 1) := by decide +kernel
theorem dX2_home_0 : decode cX2_home 0 = .ok (.aload_n 0, 1) := by decide +kernel
theorem dX2_home_1 : decode cX2_home 1 = .ok (.iload_n 1, 1) := by decide +kernel
theorem dX2_home_2 : decode cX2_home 2 = .ok (.invokevirtual 62, 3) := by decide +kernel
theorem dX2_home_5 : decode cX2_home 5 = .ok (.astore_n 2, 1) := by decide +kernel
theorem dX2_home_6 : decode cX2_home 6 = .ok (.aload_n 2, 1) := by decide +kernel
theorem dX2_home_7 : decode cX2_home 7 = .ok (.ifnonnull 7, 3) := by decide +kernel
theorem dX2_home_10 : decode cX2_home 10 = .ok (.iconst (-1), 1) := by decide +kernel
theorem dX2_home_11 : decode cX2_home 11 = .ok (.goto 7, 3) := by decide +kernel
theorem dX2_home_14 : decode cX2_home 14 = .ok (.aload_n 2, 1) := by decide +kernel
theorem dX2_home_15 : decode cX2_home 15 = .ok (.getfield 97, 3) := by decide +kernel
theorem dX2_home_18 : decode cX2_home 18 = .ok (.ireturn, 1) := by decide +kernel
theorem dX2_weed_0 : decode cX2_weed 0 = .ok (.aload_n 0, 1) := by decide +kernel
theorem dX2_weed_1 : decode cX2_weed 1 = .ok (.iload_n 1, 1) := by decide +kernel
theorem dX2_weed_2 : decode cX2_weed 2 = .ok (.invokevirtual 62, 3) := by decide +kernel
theorem dX2_weed_5 : decode cX2_weed 5 = .ok (.astore_n 3, 1) := by decide +kernel
theorem dX2_weed_6 : decode cX2_weed 6 = .ok (.aload_n 3, 1) := by decide +kernel
theorem dX2_weed_7 : decode cX2_weed 7 = .ok (.ifnull 23, 3) := by decide +kernel
theorem dX2_weed_10 : decode cX2_weed 10 = .ok (.iload_n 2, 1) := by decide +kernel
theorem dX2_weed_11 : decode cX2_weed 11 = .ok (.ifCond .lt 19, 3) := by decide +kernel
theorem dX2_weed_14 : decode cX2_weed 14 = .ok (.iload_n 2, 1) := by decide +kernel
theorem dX2_weed_15 : decode cX2_weed 15 = .ok (.bipush 100, 2) := by decide +kernel
theorem dX2_weed_17 : decode cX2_weed 17 = .ok (.if_icmp .ge 13, 3) := by decide +kernel
theorem dX2_weed_20 : decode cX2_weed 20 = .ok (.aload_n 0, 1) := by decide +kernel
theorem dX2_weed_21 : decode cX2_weed 21 = .ok (.getfield 31, 3) := by decide +kernel
theorem dX2_weed_24 : decode cX2_weed 24 = .ok (.sipush 512, 3) := by decide +kernel
theorem dX2_weed_27 : decode cX2_weed 27 = .ok (.if_icmp .lt 5, 3) := by decide +kernel
theorem dX2_weed_30 : decode cX2_weed 30 = .ok (.iconst (-1), 1) := by decide +kernel
theorem dX2_weed_31 : decode cX2_weed 31 = .ok (.ireturn, 1) := by decide +kernel
theorem dX2_weed_32 : decode cX2_weed 32 = .ok (.aload_n 3, 1) := by decide +kernel
theorem dX2_weed_33 : decode cX2_weed 33 = .ok (.getfield 75, 3) := by decide +kernel
theorem dX2_weed_36 : decode cX2_weed 36 = .ok (.invokestatic 100, 3) := by decide +kernel
theorem dX2_weed_39 : decode cX2_weed 39 = .ok (.ifCond .eq 11, 3) := by decide +kernel
theorem dX2_weed_42 : decode cX2_weed 42 = .ok (.aload_n 3, 1) := by decide +kernel
theorem dX2_weed_43 : decode cX2_weed 43 = .ok (.getfield 103, 3) := by decide +kernel
theorem dX2_weed_46 : decode cX2_weed 46 = .ok (.iload_n 2, 1) := by decide +kernel
theorem dX2_weed_47 : decode cX2_weed 47 = .ok (.if_icmp .ne 6, 3) := by decide +kernel
theorem dX2_weed_50 : decode cX2_weed 50 = .ok (.bipush (-2), 2) := by decide +kernel
theorem dX2_weed_52 : decode cX2_weed 52 = .ok (.ireturn, 1) := by decide +kernel
theorem dX2_weed_53 : decode cX2_weed 53 = .ok (.aload_n 3, 1) := by decide +kernel
theorem dX2_weed_54 : decode cX2_weed 54 = .ok (.getfield 103, 3) := by decide +kernel
theorem dX2_weed_57 : decode cX2_weed 57 = .ok (.iconst (-1), 1) := by decide +kernel
theorem dX2_weed_58 : decode cX2_weed 58 = .ok (.if_icmp .ne 10, 3) := by decide +kernel
theorem dX2_weed_61 : decode cX2_weed 61 = .ok (.aload_n 3, 1) := by decide +kernel
theorem dX2_weed_62 : decode cX2_weed 62 = .ok (.iload_n 2, 1) := by decide +kernel
theorem dX2_weed_63 : decode cX2_weed 63 = .ok (.putfield 103, 3) := by decide +kernel
theorem dX2_weed_66 : decode cX2_weed 66 = .ok (.iconst 1, 1) := by decide +kernel
theorem dX2_weed_67 : decode cX2_weed 67 = .ok (.ireturn, 1) := by decide +kernel
theorem dX2_weed_68 : decode cX2_weed 68 = .ok (.aload_n 0, 1) := by decide +kernel
theorem dX2_weed_69 : decode cX2_weed 69 = .ok (.aload_n 3, 1) := by decide +kernel
theorem dX2_weed_70 : decode cX2_weed 70 = .ok (.aload_n 0, 1) := by decide +kernel
theorem dX2_weed_71 : decode cX2_weed 71 = .ok (.getfield 27, 3) := by decide +kernel
theorem dX2_weed_74 : decode cX2_weed 74 = .ok (.lconst 1, 1) := by decide +kernel
theorem dX2_weed_75 : decode cX2_weed 75 = .ok (.ladd, 1) := by decide +kernel
theorem dX2_weed_76 : decode cX2_weed 76 = .ok (.bipush 7, 2) := by decide +kernel
theorem dX2_weed_78 : decode cX2_weed 78 = .ok (.iconst 0, 1) := by decide +kernel
theorem dX2_weed_79 : decode cX2_weed 79 = .ok (.invokevirtual 85, 3) := by decide +kernel
theorem dX2_weed_82 : decode cX2_weed 82 = .ok (.aload_n 3, 1) := by decide +kernel
theorem dX2_weed_83 : decode cX2_weed 83 = .ok (.bipush 7, 2) := by decide +kernel
theorem dX2_weed_85 : decode cX2_weed 85 = .ok (.putfield 75, 3) := by decide +kernel
theorem dX2_weed_88 : decode cX2_weed 88 = .ok (.iconst 2, 1) := by decide +kernel
theorem dX2_weed_89 : decode cX2_weed 89 = .ok (.ireturn, 1) := by decide +kernel
theorem dX2_canBeWeeded_0 : decode cX2_canBeWeeded 0 = .ok (.iload_n 0, 1) := by decide +kernel
theorem dX2_canBeWeeded_1 : decode cX2_canBeWeeded 1 = .ok (.ifCond .eq 14, 3) := by decide +kernel
theorem dX2_canBeWeeded_4 : decode cX2_canBeWeeded 4 = .ok (.iload_n 0, 1) := by decide +kernel
theorem dX2_canBeWeeded_5 : decode cX2_canBeWeeded 5 = .ok (.iconst 3, 1) := by decide +kernel
theorem dX2_canBeWeeded_6 : decode cX2_canBeWeeded 6 = .ok (.if_icmp .eq 9, 3) := by decide +kernel
theorem dX2_canBeWeeded_9 : decode cX2_canBeWeeded 9 = .ok (.iload_n 0, 1) := by decide +kernel
theorem dX2_canBeWeeded_10 : decode cX2_canBeWeeded 10 = .ok (.bipush 6, 2) := by decide +kernel
theorem dX2_canBeWeeded_12 : decode cX2_canBeWeeded 12 = .ok (.if_icmp .ne 7, 3) := by decide +kernel
theorem dX2_canBeWeeded_15 : decode cX2_canBeWeeded 15 = .ok (.iconst 1, 1) := by decide +kernel
theorem dX2_canBeWeeded_16 : decode cX2_canBeWeeded 16 = .ok (.goto 4, 3) := by decide +kernel
theorem dX2_canBeWeeded_19 : decode cX2_canBeWeeded 19 = .ok (.iconst 0, 1) := by decide +kernel
theorem dX2_canBeWeeded_20 : decode cX2_canBeWeeded 20 = .ok (.ireturn, 1) := by decide +kernel
theorem dX2_owed_0 : decode cX2_owed 0 = .ok (.aload_n 0, 1) := by decide +kernel
theorem dX2_owed_1 : decode cX2_owed 1 = .ok (.iload_n 1, 1) := by decide +kernel
theorem dX2_owed_2 : decode cX2_owed 2 = .ok (.invokevirtual 62, 3) := by decide +kernel
theorem dX2_owed_5 : decode cX2_owed 5 = .ok (.astore_n 2, 1) := by decide +kernel
theorem dX2_owed_6 : decode cX2_owed 6 = .ok (.aload_n 2, 1) := by decide +kernel
theorem dX2_owed_7 : decode cX2_owed 7 = .ok (.ifnonnull 7, 3) := by decide +kernel
theorem dX2_owed_10 : decode cX2_owed 10 = .ok (.iconst (-1), 1) := by decide +kernel
theorem dX2_owed_11 : decode cX2_owed 11 = .ok (.goto 7, 3) := by decide +kernel
theorem dX2_owed_14 : decode cX2_owed 14 = .ok (.aload_n 2, 1) := by decide +kernel
theorem dX2_owed_15 : decode cX2_owed 15 = .ok (.getfield 106, 3) := by decide +kernel
theorem dX2_owed_18 : decode cX2_owed 18 = .ok (.ireturn, 1) := by decide +kernel
theorem dX2_history_0 : decode cX2_history 0 = .ok (.aload_n 0, 1) := by decide +kernel
theorem dX2_history_1 : decode cX2_history 1 = .ok (.iload_n 1, 1) := by decide +kernel
theorem dX2_history_2 : decode cX2_history 2 = .ok (.invokevirtual 62, 3) := by decide +kernel
theorem dX2_history_5 : decode cX2_history 5 = .ok (.astore 4, 2) := by decide +kernel
theorem dX2_history_7 : decode cX2_history 7 = .ok (.aload 4, 2) := by decide +kernel
theorem dX2_history_9 : decode cX2_history 9 = .ok (.ifnull 16, 3) := by decide +kernel
theorem dX2_history_12 : decode cX2_history 12 = .ok (.iload_n 2, 1) := by decide +kernel
theorem dX2_history_13 : decode cX2_history 13 = .ok (.ifCond .lt 12, 3) := by decide +kernel
theorem dX2_history_16 : decode cX2_history 16 = .ok (.iload_n 3, 1) := by decide +kernel
theorem dX2_history_17 : decode cX2_history 17 = .ok (.ifCond .lt 8, 3) := by decide +kernel
theorem dX2_history_20 : decode cX2_history 20 = .ok (.iload_n 3, 1) := by decide +kernel
theorem dX2_history_21 : decode cX2_history 21 = .ok (.iconst 1, 1) := by decide +kernel
theorem dX2_history_22 : decode cX2_history 22 = .ok (.if_icmp .le 5, 3) := by decide +kernel
theorem dX2_history_25 : decode cX2_history 25 = .ok (.iconst (-1), 1) := by decide +kernel
theorem dX2_history_26 : decode cX2_history 26 = .ok (.ireturn, 1) := by decide +kernel
theorem dX2_history_27 : decode cX2_history 27 = .ok (.aload 4, 2) := by decide +kernel
theorem dX2_history_29 : decode cX2_history 29 = .ok (.getfield 109, 3) := by decide +kernel
theorem dX2_history_32 : decode cX2_history 32 = .ok (.astore 5, 2) := by decide +kernel
theorem dX2_history_34 : decode cX2_history 34 = .ok (.iconst 0, 1) := by decide +kernel
theorem dX2_history_35 : decode cX2_history 35 = .ok (.istore 6, 2) := by decide +kernel
theorem dX2_history_37 : decode cX2_history 37 = .ok (.iload 6, 2) := by decide +kernel
theorem dX2_history_39 : decode cX2_history 39 = .ok (.iload_n 2, 1) := by decide +kernel
theorem dX2_history_40 : decode cX2_history 40 = .ok (.if_icmp .ge 21, 3) := by decide +kernel
theorem dX2_history_43 : decode cX2_history 43 = .ok (.aload 5, 2) := by decide +kernel
theorem dX2_history_45 : decode cX2_history 45 = .ok (.ifnull 16, 3) := by decide +kernel
theorem dX2_history_48 : decode cX2_history 48 = .ok (.aload 5, 2) := by decide +kernel
theorem dX2_history_50 : decode cX2_history 50 = .ok (.getfield 113, 3) := by decide +kernel
theorem dX2_history_53 : decode cX2_history 53 = .ok (.astore 5, 2) := by decide +kernel
theorem dX2_history_55 : decode cX2_history 55 = .ok (.iinc 6 1, 3) := by decide +kernel
theorem dX2_history_58 : decode cX2_history 58 = .ok (.goto (-21), 3) := by decide +kernel
theorem dX2_history_61 : decode cX2_history 61 = .ok (.aload 5, 2) := by decide +kernel
theorem dX2_history_63 : decode cX2_history 63 = .ok (.ifnonnull 5, 3) := by decide +kernel
theorem dX2_history_66 : decode cX2_history 66 = .ok (.iconst (-1), 1) := by decide +kernel
theorem dX2_history_67 : decode cX2_history 67 = .ok (.ireturn, 1) := by decide +kernel
theorem dX2_history_68 : decode cX2_history 68 = .ok (.iload_n 3, 1) := by decide +kernel
theorem dX2_history_69 : decode cX2_history 69 = .ok (.ifCond .ne 9, 3) := by decide +kernel
theorem dX2_history_72 : decode cX2_history 72 = .ok (.aload 5, 2) := by decide +kernel
theorem dX2_history_74 : decode cX2_history 74 = .ok (.getfield 118, 3) := by decide +kernel
theorem dX2_history_77 : decode cX2_history 77 = .ok (.ireturn, 1) := by decide +kernel
theorem dX2_history_78 : decode cX2_history 78 = .ok (.aload 5, 2) := by decide +kernel
theorem dX2_history_80 : decode cX2_history 80 = .ok (.getfield 119, 3) := by decide +kernel
theorem dX2_history_83 : decode cX2_history 83 = .ok (.ifCond .eq 7, 3) := by decide +kernel
theorem dX2_history_86 : decode cX2_history 86 = .ok (.iconst 1, 1) := by decide +kernel
theorem dX2_history_87 : decode cX2_history 87 = .ok (.goto 4, 3) := by decide +kernel
theorem dX2_history_90 : decode cX2_history 90 = .ok (.iconst 0, 1) := by decide +kernel
theorem dX2_history_91 : decode cX2_history 91 = .ok (.ireturn, 1) := by decide +kernel
theorem dX2_count_0 : decode cX2_count 0 = .ok (.iconst 0, 1) := by decide +kernel
theorem dX2_count_1 : decode cX2_count 1 = .ok (.istore_n 3, 1) := by decide +kernel
theorem dX2_count_2 : decode cX2_count 2 = .ok (.iconst 1, 1) := by decide +kernel
theorem dX2_count_3 : decode cX2_count 3 = .ok (.istore 4, 2) := by decide +kernel
theorem dX2_count_5 : decode cX2_count 5 = .ok (.iload 4, 2) := by decide +kernel
theorem dX2_count_7 : decode cX2_count 7 = .ok (.aload_n 0, 1) := by decide +kernel
theorem dX2_count_8 : decode cX2_count 8 = .ok (.getfield 15, 3) := by decide +kernel
theorem dX2_count_11 : decode cX2_count 11 = .ok (.if_icmp .gt 48, 3) := by decide +kernel
theorem dX2_count_14 : decode cX2_count 14 = .ok (.aload_n 0, 1) := by decide +kernel
theorem dX2_count_15 : decode cX2_count 15 = .ok (.iload 4, 2) := by decide +kernel
theorem dX2_count_17 : decode cX2_count 17 = .ok (.invokevirtual 62, 3) := by decide +kernel
theorem dX2_count_20 : decode cX2_count 20 = .ok (.astore 5, 2) := by decide +kernel
theorem dX2_count_22 : decode cX2_count 22 = .ok (.aload 5, 2) := by decide +kernel
theorem dX2_count_24 : decode cX2_count 24 = .ok (.ifnull 29, 3) := by decide +kernel
theorem dX2_count_27 : decode cX2_count 27 = .ok (.aload 5, 2) := by decide +kernel
theorem dX2_count_29 : decode cX2_count 29 = .ok (.getfield 75, 3) := by decide +kernel
theorem dX2_count_32 : decode cX2_count 32 = .ok (.iload_n 1, 1) := by decide +kernel
theorem dX2_count_33 : decode cX2_count 33 = .ok (.if_icmp .ne 20, 3) := by decide +kernel
theorem dX2_count_36 : decode cX2_count 36 = .ok (.iload_n 2, 1) := by decide +kernel
theorem dX2_count_37 : decode cX2_count 37 = .ok (.iconst (-1), 1) := by decide +kernel
theorem dX2_count_38 : decode cX2_count 38 = .ok (.if_icmp .eq 12, 3) := by decide +kernel
theorem dX2_count_41 : decode cX2_count 41 = .ok (.aload 5, 2) := by decide +kernel
theorem dX2_count_43 : decode cX2_count 43 = .ok (.getfield 97, 3) := by decide +kernel
theorem dX2_count_46 : decode cX2_count 46 = .ok (.iload_n 2, 1) := by decide +kernel
theorem dX2_count_47 : decode cX2_count 47 = .ok (.if_icmp .ne 6, 3) := by decide +kernel
theorem dX2_count_50 : decode cX2_count 50 = .ok (.iinc 3 1, 3) := by decide +kernel
theorem dX2_count_53 : decode cX2_count 53 = .ok (.iinc 4 1, 3) := by decide +kernel
theorem dX2_count_56 : decode cX2_count 56 = .ok (.goto (-51), 3) := by decide +kernel
theorem dX2_count_59 : decode cX2_count 59 = .ok (.iload_n 3, 1) := by decide +kernel
theorem dX2_count_60 : decode cX2_count 60 = .ok (.ireturn, 1) := by decide +kernel
