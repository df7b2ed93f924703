set_option maxRecDepth 100000 in
theorem kw_17 : Cond.fieldLink "ItemStates" 15 "ItemStates" "copyCount" "I" ∈ zB := zB_in (List.mem_append_right _ (List.mem_of_getElem? (i := 17) rfl)) rfl
set_option maxRecDepth 100000 in
theorem kw_16 : Cond.fieldLink "ItemStates" 11 "ItemStates" "copies" "[LItemStates$Copy;" ∈ zB := zB_in (List.mem_append_right _ (List.mem_of_getElem? (i := 16) rfl)) rfl
set_option maxRecDepth 100000 in
theorem kw_52 : Cond.methodLink "ItemStates" 44 yX2_isPlace ∈ zB := zB_in (List.mem_append_right _ (List.mem_of_getElem? (i := 52) rfl)) rfl
set_option maxRecDepth 100000 in
theorem kw_53 : Cond.static yX2_isPlace ∈ zB := zB_in (List.mem_append_right _ (List.mem_of_getElem? (i := 53) rfl)) rfl
set_option maxRecDepth 100000 in
theorem kw_49 : Cond.methodLink "ItemStates" 40 yX2_isType ∈ zB := zB_in (List.mem_append_right _ (List.mem_of_getElem? (i := 49) rfl)) rfl
set_option maxRecDepth 100000 in
theorem kw_50 : Cond.static yX2_isType ∈ zB := zB_in (List.mem_append_right _ (List.mem_of_getElem? (i := 50) rfl)) rfl
set_option maxRecDepth 100000 in
theorem kw_18 : Cond.fieldLink "ItemStates" 19 "ItemStates" "denied" "[Z" ∈ zB := zB_in (List.mem_append_right _ (List.mem_of_getElem? (i := 18) rfl)) rfl
set_option maxRecDepth 100000 in
theorem kw_88 : Cond.fieldLinkNest "ItemStates" 75 "ItemStates$Copy" "state" "I" "ItemStates" ∈ zNest := zN_in (List.mem_append_right _ (List.mem_of_getElem? (i := 88) rfl)) rfl
set_option maxRecDepth 100000 in
theorem kw_86 : Cond.fieldLinkNest "ItemStates" 68 "ItemStates$Copy" "place" "I" "ItemStates" ∈ zNest := zN_in (List.mem_append_right _ (List.mem_of_getElem? (i := 86) rfl)) rfl
set_option maxRecDepth 100000 in
theorem kw_78 : Cond.fieldLinkNest "ItemStates" 132 "ItemStates$Copy" "type" "I" "ItemStates" ∈ zNest := zN_in (List.mem_append_right _ (List.mem_of_getElem? (i := 78) rfl)) rfl
set_option maxRecDepth 100000 in
theorem kw_68 : Cond.methodLink "ItemStates" 54 yX2_hasRight ∈ zB := zB_in (List.mem_append_right _ (List.mem_of_getElem? (i := 68) rfl)) rfl
set_option maxRecDepth 100000 in
theorem kw_70 : Cond.instanceMethod yX2_hasRight ∈ zB := zB_in (List.mem_append_right _ (List.mem_of_getElem? (i := 70) rfl)) rfl
set_option maxRecDepth 100000 in
theorem ks_3 : Cond.selects yX2_hasRight.cls yX2_hasRight yX2_hasRight ∈ zB := zB_in (List.mem_append_left _ (List.mem_of_getElem? (i := 3) rfl)) rfl
set_option maxRecDepth 100000 in
theorem kw_154 : Cond.methodLink "ItemStates$Entry" 1 Lib.objectInit ∈ zB := zB_in (List.mem_append_right _ (List.mem_of_getElem? (i := 154) rfl)) rfl
set_option maxRecDepth 100000 in
theorem kw_12 : Cond.instanceMethod Lib.objectInit ∈ zB := zB_in (List.mem_append_right _ (List.mem_of_getElem? (i := 12) rfl)) rfl
set_option maxRecDepth 100000 in
theorem kw_13 : Cond.code Lib.objectInit ⟨#[0xb1]⟩ 1 none ∈ zB := zB_in (List.mem_append_right _ (List.mem_of_getElem? (i := 13) rfl)) rfl
set_option maxRecDepth 100000 in
theorem kw_155 : Cond.fieldLink "ItemStates$Entry" 7 "ItemStates$Entry" "day" "J" ∈ zB := zB_in (List.mem_append_right _ (List.mem_of_getElem? (i := 155) rfl)) rfl
set_option maxRecDepth 100000 in
theorem kw_157 : Cond.fieldLink "ItemStates$Entry" 13 "ItemStates$Entry" "state" "I" ∈ zB := zB_in (List.mem_append_right _ (List.mem_of_getElem? (i := 157) rfl)) rfl
set_option maxRecDepth 100000 in
theorem kw_159 : Cond.fieldLink "ItemStates$Entry" 17 "ItemStates$Entry" "late" "Z" ∈ zB := zB_in (List.mem_append_right _ (List.mem_of_getElem? (i := 159) rfl)) rfl
set_option maxRecDepth 100000 in
theorem kw_161 : Cond.fieldLink "ItemStates$Entry" 21 "ItemStates$Entry" "next" "LItemStates$Entry;" ∈ zB := zB_in (List.mem_append_right _ (List.mem_of_getElem? (i := 161) rfl)) rfl
set_option maxRecDepth 100000 in
theorem kw_76 : Cond.methodLink "ItemStates$Copy" 3 Lib.objectInit ∈ zB := zB_in (List.mem_append_right _ (List.mem_of_getElem? (i := 76) rfl)) rfl
set_option maxRecDepth 100000 in
theorem kw_77 : Cond.fieldLink "ItemStates$Copy" 9 "ItemStates$Copy" "type" "I" ∈ zB := zB_in (List.mem_append_right _ (List.mem_of_getElem? (i := 77) rfl)) rfl
set_option maxRecDepth 100000 in
theorem kw_79 : Cond.fieldLink "ItemStates$Copy" 15 "ItemStates$Copy" "barcode" "J" ∈ zB := zB_in (List.mem_append_right _ (List.mem_of_getElem? (i := 79) rfl)) rfl
set_option maxRecDepth 100000 in
theorem kw_81 : Cond.fieldLink "ItemStates$Copy" 19 "ItemStates$Copy" "digits" "I" ∈ zB := zB_in (List.mem_append_right _ (List.mem_of_getElem? (i := 81) rfl)) rfl
set_option maxRecDepth 100000 in
theorem kw_83 : Cond.fieldLink "ItemStates$Copy" 22 "ItemStates$Copy" "home" "I" ∈ zB := zB_in (List.mem_append_right _ (List.mem_of_getElem? (i := 83) rfl)) rfl
set_option maxRecDepth 100000 in
theorem kw_85 : Cond.fieldLink "ItemStates$Copy" 25 "ItemStates$Copy" "place" "I" ∈ zB := zB_in (List.mem_append_right _ (List.mem_of_getElem? (i := 85) rfl)) rfl
set_option maxRecDepth 100000 in
theorem kw_87 : Cond.fieldLink "ItemStates$Copy" 28 "ItemStates$Copy" "state" "I" ∈ zB := zB_in (List.mem_append_right _ (List.mem_of_getElem? (i := 87) rfl)) rfl
set_option maxRecDepth 100000 in
theorem kw_89 : Cond.fieldLink "ItemStates$Copy" 31 "ItemStates$Copy" "floats" "Z" ∈ zB := zB_in (List.mem_append_right _ (List.mem_of_getElem? (i := 89) rfl)) rfl
set_option maxRecDepth 100000 in
theorem kw_91 : Cond.fieldLink "ItemStates$Copy" 35 "ItemStates$Copy" "owed" "I" ∈ zB := zB_in (List.mem_append_right _ (List.mem_of_getElem? (i := 91) rfl)) rfl
set_option maxRecDepth 100000 in
theorem kw_93 : Cond.fieldLink "ItemStates$Copy" 38 "ItemStates$Copy" "wantedBy" "I" ∈ zB := zB_in (List.mem_append_right _ (List.mem_of_getElem? (i := 93) rfl)) rfl
set_option maxRecDepth 100000 in
theorem kw_95 : Cond.fieldLink "ItemStates$Copy" 41 "ItemStates$Copy" "first" "LItemStates$Entry;" ∈ zB := zB_in (List.mem_append_right _ (List.mem_of_getElem? (i := 95) rfl)) rfl
set_option maxRecDepth 100000 in
theorem kw_96 : Cond.fieldLinkNest "ItemStates" 109 "ItemStates$Copy" "first" "LItemStates$Entry;" "ItemStates" ∈ zNest := zN_in (List.mem_append_right _ (List.mem_of_getElem? (i := 96) rfl)) rfl
set_option maxRecDepth 100000 in
theorem kw_156 : Cond.fieldLinkNest "ItemStates" 135 "ItemStates$Entry" "day" "J" "ItemStates" ∈ zNest := zN_in (List.mem_append_right _ (List.mem_of_getElem? (i := 156) rfl)) rfl
set_option maxRecDepth 100000 in
theorem kw_162 : Cond.fieldLinkNest "ItemStates" 113 "ItemStates$Entry" "next" "LItemStates$Entry;" "ItemStates" ∈ zNest := zN_in (List.mem_append_right _ (List.mem_of_getElem? (i := 162) rfl)) rfl
set_option maxRecDepth 100000 in
theorem kw_135 : Cond.methodLink "ItemStates" 138 yX2_lastUpTo ∈ zB := zB_in (List.mem_append_right _ (List.mem_of_getElem? (i := 135) rfl)) rfl
set_option maxRecDepth 100000 in
theorem kw_136 : Cond.static yX2_lastUpTo ∈ zB := zB_in (List.mem_append_right _ (List.mem_of_getElem? (i := 136) rfl)) rfl
set_option maxRecDepth 100000 in
theorem kw_158 : Cond.fieldLinkNest "ItemStates" 118 "ItemStates$Entry" "state" "I" "ItemStates" ∈ zNest := zN_in (List.mem_append_right _ (List.mem_of_getElem? (i := 158) rfl)) rfl
set_option maxRecDepth 100000 in
theorem kw_149 : Cond.classLink "ItemStates" 114 "ItemStates$Entry" ∈ zB := zB_in (List.mem_append_right _ (List.mem_of_getElem? (i := 149) rfl)) rfl
set_option maxRecDepth 100000 in
theorem kw_150 : Cond.instantiable "ItemStates$Entry" 4 ∈ zB := zB_in (List.mem_append_right _ (List.mem_of_getElem? (i := 150) rfl)) rfl
set_option maxRecDepth 100000 in
theorem kw_4 : Cond.initialized "ItemStates$Entry" ∈ zB := zB_in (List.mem_append_right _ (List.mem_of_getElem? (i := 4) rfl)) rfl
set_option maxRecDepth 100000 in
theorem kw_151 : Cond.methodLinkNest "ItemStates" 142 yX1_init "ItemStates" ∈ zNest := zN_in (List.mem_append_right _ (List.mem_of_getElem? (i := 151) rfl)) rfl
set_option maxRecDepth 100000 in
theorem kw_152 : Cond.instanceMethod yX1_init ∈ zB := zB_in (List.mem_append_right _ (List.mem_of_getElem? (i := 152) rfl)) rfl
set_option maxRecDepth 100000 in
theorem kw_21 : Cond.fieldLink "ItemStates" 31 "ItemStates" "entryCount" "I" ∈ zB := zB_in (List.mem_append_right _ (List.mem_of_getElem? (i := 21) rfl)) rfl
set_option maxRecDepth 100000 in
theorem kw_20 : Cond.fieldLink "ItemStates" 27 "ItemStates" "greatestDay" "J" ∈ zB := zB_in (List.mem_append_right _ (List.mem_of_getElem? (i := 20) rfl)) rfl
set_option maxRecDepth 100000 in
theorem kw_172 : Cond.methodLink "ItemStates" 145 Lib.MathLoose.max_long.x ∈ zB := zB_in (List.mem_append_right _ (List.mem_of_getElem? (i := 172) rfl)) rfl
set_option maxRecDepth 100000 in
theorem kw_173 : Cond.static Lib.MathLoose.max_long.x ∈ zB := zB_in (List.mem_append_right _ (List.mem_of_getElem? (i := 173) rfl)) rfl
set_option maxRecDepth 100000 in
theorem kw_5 : Cond.initialized "java/lang/Math" ∈ zB := zB_in (List.mem_append_right _ (List.mem_of_getElem? (i := 5) rfl)) rfl
set_option maxRecDepth 100000 in
theorem kw_174 : Cond.code Lib.MathLoose.max_long.x Lib.MathLoose.max_long.code 4 (some .long) ∈ zB := zB_in (List.mem_append_right _ (List.mem_of_getElem? (i := 174) rfl)) rfl
set_option maxRecDepth 100000 in
theorem kw_94 : Cond.fieldLinkNest "ItemStates" 103 "ItemStates$Copy" "wantedBy" "I" "ItemStates" ∈ zNest := zN_in (List.mem_append_right _ (List.mem_of_getElem? (i := 94) rfl)) rfl
set_option maxRecDepth 100000 in
theorem kw_90 : Cond.fieldLinkNest "ItemStates" 93 "ItemStates$Copy" "floats" "Z" "ItemStates" ∈ zNest := zN_in (List.mem_append_right _ (List.mem_of_getElem? (i := 90) rfl)) rfl
set_option maxRecDepth 100000 in
theorem kw_84 : Cond.fieldLinkNest "ItemStates" 97 "ItemStates$Copy" "home" "I" "ItemStates" ∈ zNest := zN_in (List.mem_append_right _ (List.mem_of_getElem? (i := 84) rfl)) rfl
set_option maxRecDepth 100000 in
theorem kw_92 : Cond.fieldLinkNest "ItemStates" 106 "ItemStates$Copy" "owed" "I" "ItemStates" ∈ zNest := zN_in (List.mem_append_right _ (List.mem_of_getElem? (i := 92) rfl)) rfl
set_option maxRecDepth 100000 in
theorem kw_19 : Cond.fieldLink "ItemStates" 23 "ItemStates" "fees" "[I" ∈ zB := zB_in (List.mem_append_right _ (List.mem_of_getElem? (i := 19) rfl)) rfl
set_option maxRecDepth 100000 in
theorem kw_64 : Cond.methodLink "ItemStates" 62 yX2_find ∈ zB := zB_in (List.mem_append_right _ (List.mem_of_getElem? (i := 64) rfl)) rfl
set_option maxRecDepth 100000 in
theorem kw_66 : Cond.instanceMethod yX2_find ∈ zB := zB_in (List.mem_append_right _ (List.mem_of_getElem? (i := 66) rfl)) rfl
set_option maxRecDepth 100000 in
theorem ks_2 : Cond.selects yX2_find.cls yX2_find yX2_find ∈ zB := zB_in (List.mem_append_left _ (List.mem_of_getElem? (i := 2) rfl)) rfl
set_option maxRecDepth 100000 in
theorem kw_132 : Cond.methodLink "ItemStates" 71 yX2_stateOn ∈ zB := zB_in (List.mem_append_right _ (List.mem_of_getElem? (i := 132) rfl)) rfl
set_option maxRecDepth 100000 in
theorem kw_133 : Cond.static yX2_stateOn ∈ zB := zB_in (List.mem_append_right _ (List.mem_of_getElem? (i := 133) rfl)) rfl
set_option maxRecDepth 100000 in
theorem kw_126 : Cond.constant "ItemStates" 61 1000000 ∈ zB := zB_in (List.mem_append_right _ (List.mem_of_getElem? (i := 126) rfl)) rfl
set_option maxRecDepth 100000 in
theorem kw_41 : Cond.constantLong "ItemStates" 34 10 ∈ zB := zB_in (List.mem_append_right _ (List.mem_of_getElem? (i := 41) rfl)) rfl
set_option maxRecDepth 100000 in
theorem kw_42 : Cond.methodLink "ItemStates" 36 yX2_doubled ∈ zB := zB_in (List.mem_append_right _ (List.mem_of_getElem? (i := 42) rfl)) rfl
set_option maxRecDepth 100000 in
theorem kw_43 : Cond.static yX2_doubled ∈ zB := zB_in (List.mem_append_right _ (List.mem_of_getElem? (i := 43) rfl)) rfl
set_option maxRecDepth 100000 in
theorem kw_59 : Cond.methodLink "ItemStates" 122 yX2_check ∈ zB := zB_in (List.mem_append_right _ (List.mem_of_getElem? (i := 59) rfl)) rfl
set_option maxRecDepth 100000 in
theorem kw_38 : Cond.instanceMethod yX2_check ∈ zB := zB_in (List.mem_append_right _ (List.mem_of_getElem? (i := 38) rfl)) rfl
set_option maxRecDepth 100000 in
theorem kw_39 : Cond.selects yX2_check.cls yX2_check yX2_check ∈ zB := zB_in (List.mem_append_right _ (List.mem_of_getElem? (i := 39) rfl)) rfl
set_option maxRecDepth 100000 in
theorem kw_80 : Cond.fieldLinkNest "ItemStates" 126 "ItemStates$Copy" "barcode" "J" "ItemStates" ∈ zNest := zN_in (List.mem_append_right _ (List.mem_of_getElem? (i := 80) rfl)) rfl
set_option maxRecDepth 100000 in
theorem kw_82 : Cond.fieldLinkNest "ItemStates" 129 "ItemStates$Copy" "digits" "I" "ItemStates" ∈ zNest := zN_in (List.mem_append_right _ (List.mem_of_getElem? (i := 82) rfl)) rfl
set_option maxRecDepth 100000 in
theorem kw_160 : Cond.fieldLinkNest "ItemStates" 119 "ItemStates$Entry" "late" "Z" "ItemStates" ∈ zNest := zN_in (List.mem_append_right _ (List.mem_of_getElem? (i := 160) rfl)) rfl
set_option maxRecDepth 100000 in
theorem kw_11 : Cond.methodLink "ItemStates" 1 Lib.objectInit ∈ zB := zB_in (List.mem_append_right _ (List.mem_of_getElem? (i := 11) rfl)) rfl
set_option maxRecDepth 100000 in
theorem kw_14 : Cond.classLink "ItemStates" 9 "ItemStates$Copy" ∈ zB := zB_in (List.mem_append_right _ (List.mem_of_getElem? (i := 14) rfl)) rfl
set_option maxRecDepth 100000 in
theorem kw_15 : Cond.arrayOver (.object "ItemStates$Copy") ∈ zNest := zN_in (List.mem_append_right _ (List.mem_of_getElem? (i := 15) rfl)) rfl
set_option maxRecDepth 100000 in
theorem kw_35 : Cond.arrayClass .boolean ∈ zB := zB_in (List.mem_append_right _ (List.mem_of_getElem? (i := 35) rfl)) rfl
set_option maxRecDepth 100000 in
theorem kw_36 : Cond.arrayClass .int ∈ zB := zB_in (List.mem_append_right _ (List.mem_of_getElem? (i := 36) rfl)) rfl
set_option maxRecDepth 100000 in
theorem kw_55 : Cond.methodLink "ItemStates" 47 yX2_isBarcode ∈ zB := zB_in (List.mem_append_right _ (List.mem_of_getElem? (i := 55) rfl)) rfl
set_option maxRecDepth 100000 in
theorem kw_57 : Cond.instanceMethod yX2_isBarcode ∈ zB := zB_in (List.mem_append_right _ (List.mem_of_getElem? (i := 57) rfl)) rfl
set_option maxRecDepth 100000 in
theorem ks_0 : Cond.selects yX2_isBarcode.cls yX2_isBarcode yX2_isBarcode ∈ zB := zB_in (List.mem_append_left _ (List.mem_of_getElem? (i := 0) rfl)) rfl
set_option maxRecDepth 100000 in
theorem kw_60 : Cond.methodLink "ItemStates" 51 yX2_isTaken ∈ zB := zB_in (List.mem_append_right _ (List.mem_of_getElem? (i := 60) rfl)) rfl
set_option maxRecDepth 100000 in
theorem kw_62 : Cond.instanceMethod yX2_isTaken ∈ zB := zB_in (List.mem_append_right _ (List.mem_of_getElem? (i := 62) rfl)) rfl
set_option maxRecDepth 100000 in
theorem ks_1 : Cond.selects yX2_isTaken.cls yX2_isTaken yX2_isTaken ∈ zB := zB_in (List.mem_append_left _ (List.mem_of_getElem? (i := 1) rfl)) rfl
set_option maxRecDepth 100000 in
theorem kw_72 : Cond.instantiable "ItemStates$Copy" 10 ∈ zB := zB_in (List.mem_append_right _ (List.mem_of_getElem? (i := 72) rfl)) rfl
set_option maxRecDepth 100000 in
theorem kw_3 : Cond.initialized "ItemStates$Copy" ∈ zB := zB_in (List.mem_append_right _ (List.mem_of_getElem? (i := 3) rfl)) rfl
set_option maxRecDepth 100000 in
theorem kw_73 : Cond.methodLinkNest "ItemStates" 58 yX0_init "ItemStates" ∈ zNest := zN_in (List.mem_append_right _ (List.mem_of_getElem? (i := 73) rfl)) rfl
set_option maxRecDepth 100000 in
theorem kw_74 : Cond.instanceMethod yX0_init ∈ zB := zB_in (List.mem_append_right _ (List.mem_of_getElem? (i := 74) rfl)) rfl
set_option maxRecDepth 100000 in
theorem kw_199 : Cond.methodLink "ItemStates" 100 yX2_canBeWeeded ∈ zB := zB_in (List.mem_append_right _ (List.mem_of_getElem? (i := 199) rfl)) rfl
set_option maxRecDepth 100000 in
theorem kw_200 : Cond.static yX2_canBeWeeded ∈ zB := zB_in (List.mem_append_right _ (List.mem_of_getElem? (i := 200) rfl)) rfl
set_option maxRecDepth 100000 in
theorem kw_145 : Cond.methodLink "ItemStates" 85 yX2_enter ∈ zB := zB_in (List.mem_append_right _ (List.mem_of_getElem? (i := 145) rfl)) rfl
set_option maxRecDepth 100000 in
theorem kw_147 : Cond.instanceMethod yX2_enter ∈ zB := zB_in (List.mem_append_right _ (List.mem_of_getElem? (i := 147) rfl)) rfl
set_option maxRecDepth 100000 in
theorem ks_5 : Cond.selects yX2_enter.cls yX2_enter yX2_enter ∈ zB := zB_in (List.mem_append_left _ (List.mem_of_getElem? (i := 5) rfl)) rfl
set_option maxRecDepth 100000 in
theorem kw_131 : Cond.constantLong "ItemStates" 66 1000000000000 ∈ zB := zB_in (List.mem_append_right _ (List.mem_of_getElem? (i := 131) rfl)) rfl
set_option maxRecDepth 100000 in
theorem kw_138 : Cond.methodLink "ItemStates" 78 yX2_canFollow ∈ zB := zB_in (List.mem_append_right _ (List.mem_of_getElem? (i := 138) rfl)) rfl
set_option maxRecDepth 100000 in
theorem kw_139 : Cond.static yX2_canFollow ∈ zB := zB_in (List.mem_append_right _ (List.mem_of_getElem? (i := 139) rfl)) rfl
set_option maxRecDepth 100000 in
theorem kw_141 : Cond.methodLink "ItemStates" 81 yX2_lacksRight ∈ zB := zB_in (List.mem_append_right _ (List.mem_of_getElem? (i := 141) rfl)) rfl
set_option maxRecDepth 100000 in
theorem kw_143 : Cond.instanceMethod yX2_lacksRight ∈ zB := zB_in (List.mem_append_right _ (List.mem_of_getElem? (i := 143) rfl)) rfl
set_option maxRecDepth 100000 in
theorem ks_4 : Cond.selects yX2_lacksRight.cls yX2_lacksRight yX2_lacksRight ∈ zB := zB_in (List.mem_append_left _ (List.mem_of_getElem? (i := 4) rfl)) rfl
set_option maxRecDepth 100000 in
theorem kw_175 : Cond.methodLink "ItemStates" 89 yX2_carryOut ∈ zB := zB_in (List.mem_append_right _ (List.mem_of_getElem? (i := 175) rfl)) rfl
set_option maxRecDepth 100000 in
theorem kw_177 : Cond.instanceMethod yX2_carryOut ∈ zB := zB_in (List.mem_append_right _ (List.mem_of_getElem? (i := 177) rfl)) rfl
set_option maxRecDepth 100000 in
theorem ks_6 : Cond.selects yX2_carryOut.cls yX2_carryOut yX2_carryOut ∈ zB := zB_in (List.mem_append_left _ (List.mem_of_getElem? (i := 6) rfl)) rfl
set_option maxRecDepth 100000 in
theorem kw_221 : Cond.fieldLink "ItemStatesModel" 71 "ItemStatesModel" "copies" "I" ∈ zB := zB_in (List.mem_append_right _ (List.mem_of_getElem? (i := 221) rfl)) rfl
set_option maxRecDepth 100000 in
theorem kw_220 : Cond.fieldLink "ItemStatesModel" 57 "ItemStatesModel" "thrown" "I" ∈ zB := zB_in (List.mem_append_right _ (List.mem_of_getElem? (i := 220) rfl)) rfl
set_option maxRecDepth 100000 in
theorem kw_307 : Cond.methodLink "ItemStatesModel" 78 yX3_isCopy ∈ zB := zB_in (List.mem_append_right _ (List.mem_of_getElem? (i := 307) rfl)) rfl
set_option maxRecDepth 100000 in
theorem kw_309 : Cond.instanceMethod yX3_isCopy ∈ zB := zB_in (List.mem_append_right _ (List.mem_of_getElem? (i := 309) rfl)) rfl
set_option maxRecDepth 100000 in
theorem ks_7 : Cond.selects yX3_isCopy.cls yX3_isCopy yX3_isCopy ∈ zB := zB_in (List.mem_append_left _ (List.mem_of_getElem? (i := 7) rfl)) rfl
set_option maxRecDepth 100000 in
theorem kw_226 : Cond.fieldLink "ItemStatesModel" 23 "ItemStatesModel" "stands" "[I" ∈ zB := zB_in (List.mem_append_right _ (List.mem_of_getElem? (i := 226) rfl)) rfl
set_option maxRecDepth 100000 in
theorem kw_225 : Cond.fieldLink "ItemStatesModel" 20 "ItemStatesModel" "homes" "[I" ∈ zB := zB_in (List.mem_append_right _ (List.mem_of_getElem? (i := 225) rfl)) rfl
set_option maxRecDepth 100000 in
theorem kw_230 : Cond.fieldLink "ItemStatesModel" 36 "ItemStatesModel" "owes" "[I" ∈ zB := zB_in (List.mem_append_right _ (List.mem_of_getElem? (i := 230) rfl)) rfl
set_option maxRecDepth 100000 in
theorem kw_228 : Cond.fieldLink "ItemStatesModel" 29 "ItemStatesModel" "floats" "[Z" ∈ zB := zB_in (List.mem_append_right _ (List.mem_of_getElem? (i := 228) rfl)) rfl
set_option maxRecDepth 100000 in
theorem kw_231 : Cond.fieldLink "ItemStatesModel" 39 "ItemStatesModel" "barred" "[Z" ∈ zB := zB_in (List.mem_append_right _ (List.mem_of_getElem? (i := 231) rfl)) rfl
set_option maxRecDepth 100000 in
theorem kw_302 : Cond.constant "ItemStatesModel" 74 1000000 ∈ zB := zB_in (List.mem_append_right _ (List.mem_of_getElem? (i := 302) rfl)) rfl
set_option maxRecDepth 100000 in
theorem kw_232 : Cond.fieldLink "ItemStatesModel" 42 "ItemStatesModel" "fees" "[I" ∈ zB := zB_in (List.mem_append_right _ (List.mem_of_getElem? (i := 232) rfl)) rfl
set_option maxRecDepth 100000 in
theorem kw_286 : Cond.constantLong "ItemStatesModel" 61 10 ∈ zB := zB_in (List.mem_append_right _ (List.mem_of_getElem? (i := 286) rfl)) rfl
set_option maxRecDepth 100000 in
theorem kw_233 : Cond.fieldLink "ItemStatesModel" 75 "ItemStatesModel" "acts" "I" ∈ zB := zB_in (List.mem_append_right _ (List.mem_of_getElem? (i := 233) rfl)) rfl
set_option maxRecDepth 100000 in
theorem kw_234 : Cond.fieldLink "ItemStatesModel" 45 "ItemStatesModel" "actCopy" "[I" ∈ zB := zB_in (List.mem_append_right _ (List.mem_of_getElem? (i := 234) rfl)) rfl
set_option maxRecDepth 100000 in
theorem kw_237 : Cond.fieldLink "ItemStatesModel" 54 "ItemStatesModel" "actDay" "[J" ∈ zB := zB_in (List.mem_append_right _ (List.mem_of_getElem? (i := 237) rfl)) rfl
set_option maxRecDepth 100000 in
theorem kw_283 : Cond.methodLink "ItemStatesModel" 63 yX3_ten ∈ zB := zB_in (List.mem_append_right _ (List.mem_of_getElem? (i := 283) rfl)) rfl
set_option maxRecDepth 100000 in
theorem kw_284 : Cond.static yX3_ten ∈ zB := zB_in (List.mem_append_right _ (List.mem_of_getElem? (i := 284) rfl)) rfl
set_option maxRecDepth 100000 in
theorem kw_287 : Cond.methodLink "ItemStatesModel" 67 yX3_sign ∈ zB := zB_in (List.mem_append_right _ (List.mem_of_getElem? (i := 287) rfl)) rfl
set_option maxRecDepth 100000 in
theorem kw_288 : Cond.static yX3_sign ∈ zB := zB_in (List.mem_append_right _ (List.mem_of_getElem? (i := 288) rfl)) rfl
set_option maxRecDepth 100000 in
theorem kw_311 : Cond.methodLink "ItemStatesModel" 82 yX3_last ∈ zB := zB_in (List.mem_append_right _ (List.mem_of_getElem? (i := 311) rfl)) rfl
set_option maxRecDepth 100000 in
theorem kw_313 : Cond.instanceMethod yX3_last ∈ zB := zB_in (List.mem_append_right _ (List.mem_of_getElem? (i := 313) rfl)) rfl
set_option maxRecDepth 100000 in
theorem ks_8 : Cond.selects yX3_last.cls yX3_last yX3_last ∈ zB := zB_in (List.mem_append_left _ (List.mem_of_getElem? (i := 8) rfl)) rfl
set_option maxRecDepth 100000 in
theorem kw_235 : Cond.fieldLink "ItemStatesModel" 48 "ItemStatesModel" "actState" "[I" ∈ zB := zB_in (List.mem_append_right _ (List.mem_of_getElem? (i := 235) rfl)) rfl
set_option maxRecDepth 100000 in
theorem kw_227 : Cond.fieldLink "ItemStatesModel" 26 "ItemStatesModel" "states" "[I" ∈ zB := zB_in (List.mem_append_right _ (List.mem_of_getElem? (i := 227) rfl)) rfl
set_option maxRecDepth 100000 in
theorem kw_236 : Cond.fieldLink "ItemStatesModel" 51 "ItemStatesModel" "actLate" "[Z" ∈ zB := zB_in (List.mem_append_right _ (List.mem_of_getElem? (i := 236) rfl)) rfl
set_option maxRecDepth 100000 in
theorem kw_238 : Cond.fieldLink "ItemStatesModel" 86 "ItemStatesModel" "greatest" "J" ∈ zB := zB_in (List.mem_append_right _ (List.mem_of_getElem? (i := 238) rfl)) rfl
set_option maxRecDepth 100000 in
theorem kw_229 : Cond.fieldLink "ItemStatesModel" 33 "ItemStatesModel" "wants" "[I" ∈ zB := zB_in (List.mem_append_right _ (List.mem_of_getElem? (i := 229) rfl)) rfl
set_option maxRecDepth 100000 in
theorem kw_323 : Cond.methodLink "ItemStatesModel" 96 yX3_enter ∈ zB := zB_in (List.mem_append_right _ (List.mem_of_getElem? (i := 323) rfl)) rfl
set_option maxRecDepth 100000 in
theorem kw_325 : Cond.instanceMethod yX3_enter ∈ zB := zB_in (List.mem_append_right _ (List.mem_of_getElem? (i := 325) rfl)) rfl
set_option maxRecDepth 100000 in
theorem ks_9 : Cond.selects yX3_enter.cls yX3_enter yX3_enter ∈ zB := zB_in (List.mem_append_left _ (List.mem_of_getElem? (i := 9) rfl)) rfl
set_option maxRecDepth 100000 in
theorem kw_319 : Cond.constantLong "ItemStatesModel" 90 1000000000000 ∈ zB := zB_in (List.mem_append_right _ (List.mem_of_getElem? (i := 319) rfl)) rfl
set_option maxRecDepth 100000 in
theorem kw_320 : Cond.methodLink "ItemStatesModel" 92 yX3_follows ∈ zB := zB_in (List.mem_append_right _ (List.mem_of_getElem? (i := 320) rfl)) rfl
set_option maxRecDepth 100000 in
theorem kw_321 : Cond.static yX3_follows ∈ zB := zB_in (List.mem_append_right _ (List.mem_of_getElem? (i := 321) rfl)) rfl
set_option maxRecDepth 100000 in
theorem kw_222 : Cond.fieldLink "ItemStatesModel" 7 "ItemStatesModel" "types" "[I" ∈ zB := zB_in (List.mem_append_right _ (List.mem_of_getElem? (i := 222) rfl)) rfl
set_option maxRecDepth 100000 in
theorem kw_223 : Cond.fieldLink "ItemStatesModel" 13 "ItemStatesModel" "barcodes" "[J" ∈ zB := zB_in (List.mem_append_right _ (List.mem_of_getElem? (i := 223) rfl)) rfl
set_option maxRecDepth 100000 in
theorem kw_224 : Cond.fieldLink "ItemStatesModel" 17 "ItemStatesModel" "sizes" "[I" ∈ zB := zB_in (List.mem_append_right _ (List.mem_of_getElem? (i := 224) rfl)) rfl
set_option maxRecDepth 100000 in
theorem kw_219 : Cond.methodLink "ItemStatesModel" 1 Lib.objectInit ∈ zB := zB_in (List.mem_append_right _ (List.mem_of_getElem? (i := 219) rfl)) rfl
set_option maxRecDepth 100000 in
theorem kw_278 : Cond.arrayClass .long ∈ zB := zB_in (List.mem_append_right _ (List.mem_of_getElem? (i := 278) rfl)) rfl
set_option maxRecDepth 100000 in
theorem kw_355 : Cond.constantLong "ItemStatesLaw" 13 4294967295 ∈ zB := zB_in (List.mem_append_right _ (List.mem_of_getElem? (i := 355) rfl)) rfl
set_option maxRecDepth 100000 in
theorem kw_37 : Cond.methodLink "ItemStatesLaw" 15 yX2_check ∈ zB := zB_in (List.mem_append_right _ (List.mem_of_getElem? (i := 37) rfl)) rfl
set_option maxRecDepth 100000 in
theorem kw_279 : Cond.methodLink "ItemStatesLaw" 19 yX3_check ∈ zB := zB_in (List.mem_append_right _ (List.mem_of_getElem? (i := 279) rfl)) rfl
set_option maxRecDepth 100000 in
theorem kw_280 : Cond.instanceMethod yX3_check ∈ zB := zB_in (List.mem_append_right _ (List.mem_of_getElem? (i := 280) rfl)) rfl
set_option maxRecDepth 100000 in
theorem kw_281 : Cond.selects yX3_check.cls yX3_check yX3_check ∈ zB := zB_in (List.mem_append_right _ (List.mem_of_getElem? (i := 281) rfl)) rfl
set_option maxRecDepth 100000 in
theorem kw_45 : Cond.methodLink "ItemStatesLaw" 20 yX2_copy ∈ zB := zB_in (List.mem_append_right _ (List.mem_of_getElem? (i := 45) rfl)) rfl
set_option maxRecDepth 100000 in
theorem kw_46 : Cond.instanceMethod yX2_copy ∈ zB := zB_in (List.mem_append_right _ (List.mem_of_getElem? (i := 46) rfl)) rfl
set_option maxRecDepth 100000 in
theorem kw_47 : Cond.selects yX2_copy.cls yX2_copy yX2_copy ∈ zB := zB_in (List.mem_append_right _ (List.mem_of_getElem? (i := 47) rfl)) rfl
set_option maxRecDepth 100000 in
theorem kw_290 : Cond.methodLink "ItemStatesLaw" 24 yX3_copy ∈ zB := zB_in (List.mem_append_right _ (List.mem_of_getElem? (i := 290) rfl)) rfl
set_option maxRecDepth 100000 in
theorem kw_291 : Cond.instanceMethod yX3_copy ∈ zB := zB_in (List.mem_append_right _ (List.mem_of_getElem? (i := 291) rfl)) rfl
set_option maxRecDepth 100000 in
theorem kw_292 : Cond.selects yX3_copy.cls yX3_copy yX3_copy ∈ zB := zB_in (List.mem_append_right _ (List.mem_of_getElem? (i := 292) rfl)) rfl
set_option maxRecDepth 100000 in
theorem kw_118 : Cond.methodLink "ItemStatesLaw" 25 yX2_right ∈ zB := zB_in (List.mem_append_right _ (List.mem_of_getElem? (i := 118) rfl)) rfl
set_option maxRecDepth 100000 in
theorem kw_119 : Cond.instanceMethod yX2_right ∈ zB := zB_in (List.mem_append_right _ (List.mem_of_getElem? (i := 119) rfl)) rfl
set_option maxRecDepth 100000 in
theorem kw_120 : Cond.selects yX2_right.cls yX2_right yX2_right ∈ zB := zB_in (List.mem_append_right _ (List.mem_of_getElem? (i := 120) rfl)) rfl
set_option maxRecDepth 100000 in
theorem kw_294 : Cond.methodLink "ItemStatesLaw" 29 yX3_right ∈ zB := zB_in (List.mem_append_right _ (List.mem_of_getElem? (i := 294) rfl)) rfl
set_option maxRecDepth 100000 in
theorem kw_295 : Cond.instanceMethod yX3_right ∈ zB := zB_in (List.mem_append_right _ (List.mem_of_getElem? (i := 295) rfl)) rfl
set_option maxRecDepth 100000 in
theorem kw_296 : Cond.selects yX3_right.cls yX3_right yX3_right ∈ zB := zB_in (List.mem_append_right _ (List.mem_of_getElem? (i := 296) rfl)) rfl
set_option maxRecDepth 100000 in
theorem kw_122 : Cond.methodLink "ItemStatesLaw" 30 yX2_fee ∈ zB := zB_in (List.mem_append_right _ (List.mem_of_getElem? (i := 122) rfl)) rfl
set_option maxRecDepth 100000 in
theorem kw_123 : Cond.instanceMethod yX2_fee ∈ zB := zB_in (List.mem_append_right _ (List.mem_of_getElem? (i := 123) rfl)) rfl
set_option maxRecDepth 100000 in
theorem kw_124 : Cond.selects yX2_fee.cls yX2_fee yX2_fee ∈ zB := zB_in (List.mem_append_right _ (List.mem_of_getElem? (i := 124) rfl)) rfl
set_option maxRecDepth 100000 in
theorem kw_298 : Cond.methodLink "ItemStatesLaw" 34 yX3_fee ∈ zB := zB_in (List.mem_append_right _ (List.mem_of_getElem? (i := 298) rfl)) rfl
set_option maxRecDepth 100000 in
theorem kw_299 : Cond.instanceMethod yX3_fee ∈ zB := zB_in (List.mem_append_right _ (List.mem_of_getElem? (i := 299) rfl)) rfl
set_option maxRecDepth 100000 in
theorem kw_300 : Cond.selects yX3_fee.cls yX3_fee yX3_fee ∈ zB := zB_in (List.mem_append_right _ (List.mem_of_getElem? (i := 300) rfl)) rfl
set_option maxRecDepth 100000 in
theorem kw_127 : Cond.methodLink "ItemStatesLaw" 35 yX2_act ∈ zB := zB_in (List.mem_append_right _ (List.mem_of_getElem? (i := 127) rfl)) rfl
set_option maxRecDepth 100000 in
theorem kw_128 : Cond.instanceMethod yX2_act ∈ zB := zB_in (List.mem_append_right _ (List.mem_of_getElem? (i := 128) rfl)) rfl
set_option maxRecDepth 100000 in
theorem kw_129 : Cond.selects yX2_act.cls yX2_act yX2_act ∈ zB := zB_in (List.mem_append_right _ (List.mem_of_getElem? (i := 129) rfl)) rfl
set_option maxRecDepth 100000 in
theorem kw_315 : Cond.methodLink "ItemStatesLaw" 39 yX3_act ∈ zB := zB_in (List.mem_append_right _ (List.mem_of_getElem? (i := 315) rfl)) rfl
set_option maxRecDepth 100000 in
theorem kw_316 : Cond.instanceMethod yX3_act ∈ zB := zB_in (List.mem_append_right _ (List.mem_of_getElem? (i := 316) rfl)) rfl
set_option maxRecDepth 100000 in
theorem kw_317 : Cond.selects yX3_act.cls yX3_act yX3_act ∈ zB := zB_in (List.mem_append_right _ (List.mem_of_getElem? (i := 317) rfl)) rfl
set_option maxRecDepth 100000 in
theorem kw_179 : Cond.methodLink "ItemStatesLaw" 40 yX2_state ∈ zB := zB_in (List.mem_append_right _ (List.mem_of_getElem? (i := 179) rfl)) rfl
set_option maxRecDepth 100000 in
theorem kw_180 : Cond.instanceMethod yX2_state ∈ zB := zB_in (List.mem_append_right _ (List.mem_of_getElem? (i := 180) rfl)) rfl
set_option maxRecDepth 100000 in
theorem kw_181 : Cond.selects yX2_state.cls yX2_state yX2_state ∈ zB := zB_in (List.mem_append_right _ (List.mem_of_getElem? (i := 181) rfl)) rfl
set_option maxRecDepth 100000 in
theorem kw_303 : Cond.methodLink "ItemStatesLaw" 44 yX3_state ∈ zB := zB_in (List.mem_append_right _ (List.mem_of_getElem? (i := 303) rfl)) rfl
set_option maxRecDepth 100000 in
theorem kw_304 : Cond.instanceMethod yX3_state ∈ zB := zB_in (List.mem_append_right _ (List.mem_of_getElem? (i := 304) rfl)) rfl
set_option maxRecDepth 100000 in
theorem kw_305 : Cond.selects yX3_state.cls yX3_state yX3_state ∈ zB := zB_in (List.mem_append_right _ (List.mem_of_getElem? (i := 305) rfl)) rfl
set_option maxRecDepth 100000 in
theorem kw_183 : Cond.methodLink "ItemStatesLaw" 45 yX2_place ∈ zB := zB_in (List.mem_append_right _ (List.mem_of_getElem? (i := 183) rfl)) rfl
set_option maxRecDepth 100000 in
theorem kw_184 : Cond.instanceMethod yX2_place ∈ zB := zB_in (List.mem_append_right _ (List.mem_of_getElem? (i := 184) rfl)) rfl
set_option maxRecDepth 100000 in
theorem kw_185 : Cond.selects yX2_place.cls yX2_place yX2_place ∈ zB := zB_in (List.mem_append_right _ (List.mem_of_getElem? (i := 185) rfl)) rfl
set_option maxRecDepth 100000 in
theorem kw_331 : Cond.methodLink "ItemStatesLaw" 49 yX3_place ∈ zB := zB_in (List.mem_append_right _ (List.mem_of_getElem? (i := 331) rfl)) rfl
set_option maxRecDepth 100000 in
theorem kw_332 : Cond.instanceMethod yX3_place ∈ zB := zB_in (List.mem_append_right _ (List.mem_of_getElem? (i := 332) rfl)) rfl
set_option maxRecDepth 100000 in
theorem kw_333 : Cond.selects yX3_place.cls yX3_place yX3_place ∈ zB := zB_in (List.mem_append_right _ (List.mem_of_getElem? (i := 333) rfl)) rfl
set_option maxRecDepth 100000 in
theorem kw_187 : Cond.methodLink "ItemStatesLaw" 50 yX2_floats ∈ zB := zB_in (List.mem_append_right _ (List.mem_of_getElem? (i := 187) rfl)) rfl
set_option maxRecDepth 100000 in
theorem kw_188 : Cond.instanceMethod yX2_floats ∈ zB := zB_in (List.mem_append_right _ (List.mem_of_getElem? (i := 188) rfl)) rfl
set_option maxRecDepth 100000 in
theorem kw_189 : Cond.selects yX2_floats.cls yX2_floats yX2_floats ∈ zB := zB_in (List.mem_append_right _ (List.mem_of_getElem? (i := 189) rfl)) rfl
set_option maxRecDepth 100000 in
theorem kw_335 : Cond.methodLink "ItemStatesLaw" 54 yX3_floats ∈ zB := zB_in (List.mem_append_right _ (List.mem_of_getElem? (i := 335) rfl)) rfl
set_option maxRecDepth 100000 in
theorem kw_336 : Cond.instanceMethod yX3_floats ∈ zB := zB_in (List.mem_append_right _ (List.mem_of_getElem? (i := 336) rfl)) rfl
set_option maxRecDepth 100000 in
theorem kw_337 : Cond.selects yX3_floats.cls yX3_floats yX3_floats ∈ zB := zB_in (List.mem_append_right _ (List.mem_of_getElem? (i := 337) rfl)) rfl
set_option maxRecDepth 100000 in
theorem kw_191 : Cond.methodLink "ItemStatesLaw" 55 yX2_home ∈ zB := zB_in (List.mem_append_right _ (List.mem_of_getElem? (i := 191) rfl)) rfl
set_option maxRecDepth 100000 in
theorem kw_192 : Cond.instanceMethod yX2_home ∈ zB := zB_in (List.mem_append_right _ (List.mem_of_getElem? (i := 192) rfl)) rfl
set_option maxRecDepth 100000 in
theorem kw_193 : Cond.selects yX2_home.cls yX2_home yX2_home ∈ zB := zB_in (List.mem_append_right _ (List.mem_of_getElem? (i := 193) rfl)) rfl
set_option maxRecDepth 100000 in
theorem kw_339 : Cond.methodLink "ItemStatesLaw" 58 yX3_home ∈ zB := zB_in (List.mem_append_right _ (List.mem_of_getElem? (i := 339) rfl)) rfl
set_option maxRecDepth 100000 in
theorem kw_340 : Cond.instanceMethod yX3_home ∈ zB := zB_in (List.mem_append_right _ (List.mem_of_getElem? (i := 340) rfl)) rfl
set_option maxRecDepth 100000 in
theorem kw_341 : Cond.selects yX3_home.cls yX3_home yX3_home ∈ zB := zB_in (List.mem_append_right _ (List.mem_of_getElem? (i := 341) rfl)) rfl
set_option maxRecDepth 100000 in
theorem kw_195 : Cond.methodLink "ItemStatesLaw" 59 yX2_weed ∈ zB := zB_in (List.mem_append_right _ (List.mem_of_getElem? (i := 195) rfl)) rfl
set_option maxRecDepth 100000 in
theorem kw_196 : Cond.instanceMethod yX2_weed ∈ zB := zB_in (List.mem_append_right _ (List.mem_of_getElem? (i := 196) rfl)) rfl
set_option maxRecDepth 100000 in
theorem kw_197 : Cond.selects yX2_weed.cls yX2_weed yX2_weed ∈ zB := zB_in (List.mem_append_right _ (List.mem_of_getElem? (i := 197) rfl)) rfl
set_option maxRecDepth 100000 in
theorem kw_327 : Cond.methodLink "ItemStatesLaw" 62 yX3_weed ∈ zB := zB_in (List.mem_append_right _ (List.mem_of_getElem? (i := 327) rfl)) rfl
set_option maxRecDepth 100000 in
theorem kw_328 : Cond.instanceMethod yX3_weed ∈ zB := zB_in (List.mem_append_right _ (List.mem_of_getElem? (i := 328) rfl)) rfl
set_option maxRecDepth 100000 in
theorem kw_329 : Cond.selects yX3_weed.cls yX3_weed yX3_weed ∈ zB := zB_in (List.mem_append_right _ (List.mem_of_getElem? (i := 329) rfl)) rfl
set_option maxRecDepth 100000 in
theorem kw_202 : Cond.methodLink "ItemStatesLaw" 63 yX2_owed ∈ zB := zB_in (List.mem_append_right _ (List.mem_of_getElem? (i := 202) rfl)) rfl
set_option maxRecDepth 100000 in
theorem kw_203 : Cond.instanceMethod yX2_owed ∈ zB := zB_in (List.mem_append_right _ (List.mem_of_getElem? (i := 203) rfl)) rfl
set_option maxRecDepth 100000 in
theorem kw_204 : Cond.selects yX2_owed.cls yX2_owed yX2_owed ∈ zB := zB_in (List.mem_append_right _ (List.mem_of_getElem? (i := 204) rfl)) rfl
set_option maxRecDepth 100000 in
theorem kw_343 : Cond.methodLink "ItemStatesLaw" 66 yX3_owed ∈ zB := zB_in (List.mem_append_right _ (List.mem_of_getElem? (i := 343) rfl)) rfl
set_option maxRecDepth 100000 in
theorem kw_344 : Cond.instanceMethod yX3_owed ∈ zB := zB_in (List.mem_append_right _ (List.mem_of_getElem? (i := 344) rfl)) rfl
set_option maxRecDepth 100000 in
theorem kw_345 : Cond.selects yX3_owed.cls yX3_owed yX3_owed ∈ zB := zB_in (List.mem_append_right _ (List.mem_of_getElem? (i := 345) rfl)) rfl
set_option maxRecDepth 100000 in
theorem kw_206 : Cond.methodLink "ItemStatesLaw" 67 yX2_history ∈ zB := zB_in (List.mem_append_right _ (List.mem_of_getElem? (i := 206) rfl)) rfl
set_option maxRecDepth 100000 in
theorem kw_207 : Cond.instanceMethod yX2_history ∈ zB := zB_in (List.mem_append_right _ (List.mem_of_getElem? (i := 207) rfl)) rfl
set_option maxRecDepth 100000 in
theorem kw_208 : Cond.selects yX2_history.cls yX2_history yX2_history ∈ zB := zB_in (List.mem_append_right _ (List.mem_of_getElem? (i := 208) rfl)) rfl
set_option maxRecDepth 100000 in
theorem kw_347 : Cond.methodLink "ItemStatesLaw" 71 yX3_history ∈ zB := zB_in (List.mem_append_right _ (List.mem_of_getElem? (i := 347) rfl)) rfl
set_option maxRecDepth 100000 in
theorem kw_348 : Cond.instanceMethod yX3_history ∈ zB := zB_in (List.mem_append_right _ (List.mem_of_getElem? (i := 348) rfl)) rfl
set_option maxRecDepth 100000 in
theorem kw_349 : Cond.selects yX3_history.cls yX3_history yX3_history ∈ zB := zB_in (List.mem_append_right _ (List.mem_of_getElem? (i := 349) rfl)) rfl
set_option maxRecDepth 100000 in
theorem kw_210 : Cond.methodLink "ItemStatesLaw" 72 yX2_count ∈ zB := zB_in (List.mem_append_right _ (List.mem_of_getElem? (i := 210) rfl)) rfl
set_option maxRecDepth 100000 in
theorem kw_211 : Cond.instanceMethod yX2_count ∈ zB := zB_in (List.mem_append_right _ (List.mem_of_getElem? (i := 211) rfl)) rfl
set_option maxRecDepth 100000 in
theorem kw_212 : Cond.selects yX2_count.cls yX2_count yX2_count ∈ zB := zB_in (List.mem_append_right _ (List.mem_of_getElem? (i := 212) rfl)) rfl
set_option maxRecDepth 100000 in
theorem kw_351 : Cond.methodLink "ItemStatesLaw" 75 yX3_count ∈ zB := zB_in (List.mem_append_right _ (List.mem_of_getElem? (i := 351) rfl)) rfl
set_option maxRecDepth 100000 in
theorem kw_352 : Cond.instanceMethod yX3_count ∈ zB := zB_in (List.mem_append_right _ (List.mem_of_getElem? (i := 352) rfl)) rfl
set_option maxRecDepth 100000 in
theorem kw_353 : Cond.selects yX3_count.cls yX3_count yX3_count ∈ zB := zB_in (List.mem_append_right _ (List.mem_of_getElem? (i := 353) rfl)) rfl
set_option maxRecDepth 100000 in
theorem kw_6 : Cond.classLink "ItemStatesLaw" 7 "ItemStates" ∈ zB := zB_in (List.mem_append_right _ (List.mem_of_getElem? (i := 6) rfl)) rfl
set_option maxRecDepth 100000 in
theorem kw_214 : Cond.classLink "ItemStatesLaw" 10 "ItemStatesModel" ∈ zB := zB_in (List.mem_append_right _ (List.mem_of_getElem? (i := 214) rfl)) rfl
set_option maxRecDepth 100000 in
theorem kw_7 : Cond.instantiable "ItemStates" 6 ∈ zB := zB_in (List.mem_append_right _ (List.mem_of_getElem? (i := 7) rfl)) rfl
set_option maxRecDepth 100000 in
theorem kw_215 : Cond.instantiable "ItemStatesModel" 19 ∈ zB := zB_in (List.mem_append_right _ (List.mem_of_getElem? (i := 215) rfl)) rfl
set_option maxRecDepth 100000 in
theorem kw_1 : Cond.initialized "ItemStates" ∈ zB := zB_in (List.mem_append_right _ (List.mem_of_getElem? (i := 1) rfl)) rfl
set_option maxRecDepth 100000 in
theorem kw_8 : Cond.methodLink "ItemStatesLaw" 9 yX2_init ∈ zB := zB_in (List.mem_append_right _ (List.mem_of_getElem? (i := 8) rfl)) rfl
set_option maxRecDepth 100000 in
theorem kw_9 : Cond.instanceMethod yX2_init ∈ zB := zB_in (List.mem_append_right _ (List.mem_of_getElem? (i := 9) rfl)) rfl
set_option maxRecDepth 100000 in
theorem kw_2 : Cond.initialized "ItemStatesModel" ∈ zB := zB_in (List.mem_append_right _ (List.mem_of_getElem? (i := 2) rfl)) rfl
set_option maxRecDepth 100000 in
theorem kw_216 : Cond.methodLink "ItemStatesLaw" 12 yX3_init ∈ zB := zB_in (List.mem_append_right _ (List.mem_of_getElem? (i := 216) rfl)) rfl
set_option maxRecDepth 100000 in
theorem kw_217 : Cond.instanceMethod yX3_init ∈ zB := zB_in (List.mem_append_right _ (List.mem_of_getElem? (i := 217) rfl)) rfl
set_option maxRecDepth 100000 in
theorem kw_10 : Cond.code yX2_init cX2_init 1 none ∈ zB := zB_in (List.mem_append_right _ (List.mem_of_getElem? (i := 10) rfl)) rfl
set_option maxRecDepth 100000 in
theorem kw_40 : Cond.code yX2_check cX2_check 9 (some .int) ∈ zB := zB_in (List.mem_append_right _ (List.mem_of_getElem? (i := 40) rfl)) rfl
set_option maxRecDepth 100000 in
theorem kw_44 : Cond.code yX2_doubled cX2_doubled 2 (some .int) ∈ zB := zB_in (List.mem_append_right _ (List.mem_of_getElem? (i := 44) rfl)) rfl
set_option maxRecDepth 100000 in
theorem kw_48 : Cond.code yX2_copy cX2_copy 6 (some .int) ∈ zB := zB_in (List.mem_append_right _ (List.mem_of_getElem? (i := 48) rfl)) rfl
set_option maxRecDepth 100000 in
theorem kw_51 : Cond.code yX2_isType cX2_isType 1 (some .boolean) ∈ zB := zB_in (List.mem_append_right _ (List.mem_of_getElem? (i := 51) rfl)) rfl
set_option maxRecDepth 100000 in
theorem kw_54 : Cond.code yX2_isPlace cX2_isPlace 1 (some .boolean) ∈ zB := zB_in (List.mem_append_right _ (List.mem_of_getElem? (i := 54) rfl)) rfl
set_option maxRecDepth 100000 in
theorem kw_58 : Cond.code yX2_isBarcode cX2_isBarcode 4 (some .boolean) ∈ zB := zB_in (List.mem_append_right _ (List.mem_of_getElem? (i := 58) rfl)) rfl
set_option maxRecDepth 100000 in
theorem kw_63 : Cond.code yX2_isTaken cX2_isTaken 6 (some .boolean) ∈ zB := zB_in (List.mem_append_right _ (List.mem_of_getElem? (i := 63) rfl)) rfl
set_option maxRecDepth 100000 in
theorem kw_67 : Cond.code yX2_find cX2_find 2 (some (.object "ItemStates$Copy")) ∈ zB := zB_in (List.mem_append_right _ (List.mem_of_getElem? (i := 67) rfl)) rfl
set_option maxRecDepth 100000 in
theorem kw_71 : Cond.code yX2_hasRight cX2_hasRight 3 (some .boolean) ∈ zB := zB_in (List.mem_append_right _ (List.mem_of_getElem? (i := 71) rfl)) rfl
set_option maxRecDepth 100000 in
theorem kw_75 : Cond.code yX0_init cX0_init 6 none ∈ zB := zB_in (List.mem_append_right _ (List.mem_of_getElem? (i := 75) rfl)) rfl
set_option maxRecDepth 100000 in
theorem kw_121 : Cond.code yX2_right cX2_right 5 (some .boolean) ∈ zB := zB_in (List.mem_append_right _ (List.mem_of_getElem? (i := 121) rfl)) rfl
set_option maxRecDepth 100000 in
theorem kw_125 : Cond.code yX2_fee cX2_fee 4 (some .int) ∈ zB := zB_in (List.mem_append_right _ (List.mem_of_getElem? (i := 125) rfl)) rfl
set_option maxRecDepth 100000 in
theorem kw_130 : Cond.code yX2_act cX2_act 9 (some .int) ∈ zB := zB_in (List.mem_append_right _ (List.mem_of_getElem? (i := 130) rfl)) rfl
set_option maxRecDepth 100000 in
theorem kw_134 : Cond.code yX2_stateOn cX2_stateOn 4 (some .int) ∈ zB := zB_in (List.mem_append_right _ (List.mem_of_getElem? (i := 134) rfl)) rfl
set_option maxRecDepth 100000 in
theorem kw_137 : Cond.code yX2_lastUpTo cX2_lastUpTo 5 (some (.object "ItemStates$Entry")) ∈ zB := zB_in (List.mem_append_right _ (List.mem_of_getElem? (i := 137) rfl)) rfl
set_option maxRecDepth 100000 in
theorem kw_140 : Cond.code yX2_canFollow cX2_canFollow 2 (some .boolean) ∈ zB := zB_in (List.mem_append_right _ (List.mem_of_getElem? (i := 140) rfl)) rfl
set_option maxRecDepth 100000 in
theorem kw_144 : Cond.code yX2_lacksRight cX2_lacksRight 6 (some .boolean) ∈ zB := zB_in (List.mem_append_right _ (List.mem_of_getElem? (i := 144) rfl)) rfl
set_option maxRecDepth 100000 in
theorem kw_148 : Cond.code yX2_enter cX2_enter 7 none ∈ zB := zB_in (List.mem_append_right _ (List.mem_of_getElem? (i := 148) rfl)) rfl
set_option maxRecDepth 100000 in
theorem kw_153 : Cond.code yX1_init cX1_init 6 none ∈ zB := zB_in (List.mem_append_right _ (List.mem_of_getElem? (i := 153) rfl)) rfl
set_option maxRecDepth 100000 in
theorem kw_178 : Cond.code yX2_carryOut cX2_carryOut 4 none ∈ zB := zB_in (List.mem_append_right _ (List.mem_of_getElem? (i := 178) rfl)) rfl
set_option maxRecDepth 100000 in
theorem kw_182 : Cond.code yX2_state cX2_state 5 (some .int) ∈ zB := zB_in (List.mem_append_right _ (List.mem_of_getElem? (i := 182) rfl)) rfl
set_option maxRecDepth 100000 in
theorem kw_186 : Cond.code yX2_place cX2_place 3 (some .int) ∈ zB := zB_in (List.mem_append_right _ (List.mem_of_getElem? (i := 186) rfl)) rfl
set_option maxRecDepth 100000 in
theorem kw_190 : Cond.code yX2_floats cX2_floats 5 (some .boolean) ∈ zB := zB_in (List.mem_append_right _ (List.mem_of_getElem? (i := 190) rfl)) rfl
set_option maxRecDepth 100000 in
theorem kw_194 : Cond.code yX2_home cX2_home 3 (some .int) ∈ zB := zB_in (List.mem_append_right _ (List.mem_of_getElem? (i := 194) rfl)) rfl
set_option maxRecDepth 100000 in
theorem kw_198 : Cond.code yX2_weed cX2_weed 4 (some .int) ∈ zB := zB_in (List.mem_append_right _ (List.mem_of_getElem? (i := 198) rfl)) rfl
set_option maxRecDepth 100000 in
theorem kw_201 : Cond.code yX2_canBeWeeded cX2_canBeWeeded 1 (some .boolean) ∈ zB := zB_in (List.mem_append_right _ (List.mem_of_getElem? (i := 201) rfl)) rfl
set_option maxRecDepth 100000 in
theorem kw_205 : Cond.code yX2_owed cX2_owed 3 (some .int) ∈ zB := zB_in (List.mem_append_right _ (List.mem_of_getElem? (i := 205) rfl)) rfl
set_option maxRecDepth 100000 in
theorem kw_209 : Cond.code yX2_history cX2_history 7 (some .int) ∈ zB := zB_in (List.mem_append_right _ (List.mem_of_getElem? (i := 209) rfl)) rfl
set_option maxRecDepth 100000 in
theorem kw_213 : Cond.code yX2_count cX2_count 6 (some .int) ∈ zB := zB_in (List.mem_append_right _ (List.mem_of_getElem? (i := 213) rfl)) rfl
set_option maxRecDepth 100000 in
theorem kw_218 : Cond.code yX3_init cX3_init 1 none ∈ zB := zB_in (List.mem_append_right _ (List.mem_of_getElem? (i := 218) rfl)) rfl
set_option maxRecDepth 100000 in
theorem kw_282 : Cond.code yX3_check cX3_check 4 (some .int) ∈ zB := zB_in (List.mem_append_right _ (List.mem_of_getElem? (i := 282) rfl)) rfl
set_option maxRecDepth 100000 in
theorem kw_285 : Cond.code yX3_ten cX3_ten 4 (some .long) ∈ zB := zB_in (List.mem_append_right _ (List.mem_of_getElem? (i := 285) rfl)) rfl
set_option maxRecDepth 100000 in
theorem kw_289 : Cond.code yX3_sign cX3_sign 8 (some .int) ∈ zB := zB_in (List.mem_append_right _ (List.mem_of_getElem? (i := 289) rfl)) rfl
set_option maxRecDepth 100000 in
theorem kw_293 : Cond.code yX3_copy cX3_copy 7 (some .int) ∈ zB := zB_in (List.mem_append_right _ (List.mem_of_getElem? (i := 293) rfl)) rfl
set_option maxRecDepth 100000 in
theorem kw_297 : Cond.code yX3_right cX3_right 5 (some .boolean) ∈ zB := zB_in (List.mem_append_right _ (List.mem_of_getElem? (i := 297) rfl)) rfl
set_option maxRecDepth 100000 in
theorem kw_301 : Cond.code yX3_fee cX3_fee 4 (some .int) ∈ zB := zB_in (List.mem_append_right _ (List.mem_of_getElem? (i := 301) rfl)) rfl
set_option maxRecDepth 100000 in
theorem kw_306 : Cond.code yX3_state cX3_state 5 (some .int) ∈ zB := zB_in (List.mem_append_right _ (List.mem_of_getElem? (i := 306) rfl)) rfl
set_option maxRecDepth 100000 in
theorem kw_310 : Cond.code yX3_isCopy cX3_isCopy 2 (some .boolean) ∈ zB := zB_in (List.mem_append_right _ (List.mem_of_getElem? (i := 310) rfl)) rfl
set_option maxRecDepth 100000 in
theorem kw_314 : Cond.code yX3_last cX3_last 5 (some .int) ∈ zB := zB_in (List.mem_append_right _ (List.mem_of_getElem? (i := 314) rfl)) rfl
set_option maxRecDepth 100000 in
theorem kw_318 : Cond.code yX3_act cX3_act 9 (some .int) ∈ zB := zB_in (List.mem_append_right _ (List.mem_of_getElem? (i := 318) rfl)) rfl
set_option maxRecDepth 100000 in
theorem kw_322 : Cond.code yX3_follows cX3_follows 2 (some .boolean) ∈ zB := zB_in (List.mem_append_right _ (List.mem_of_getElem? (i := 322) rfl)) rfl
set_option maxRecDepth 100000 in
theorem kw_326 : Cond.code yX3_enter cX3_enter 7 none ∈ zB := zB_in (List.mem_append_right _ (List.mem_of_getElem? (i := 326) rfl)) rfl
set_option maxRecDepth 100000 in
theorem kw_330 : Cond.code yX3_weed cX3_weed 4 (some .int) ∈ zB := zB_in (List.mem_append_right _ (List.mem_of_getElem? (i := 330) rfl)) rfl
set_option maxRecDepth 100000 in
theorem kw_334 : Cond.code yX3_place cX3_place 2 (some .int) ∈ zB := zB_in (List.mem_append_right _ (List.mem_of_getElem? (i := 334) rfl)) rfl
set_option maxRecDepth 100000 in
theorem kw_338 : Cond.code yX3_floats cX3_floats 4 (some .boolean) ∈ zB := zB_in (List.mem_append_right _ (List.mem_of_getElem? (i := 338) rfl)) rfl
set_option maxRecDepth 100000 in
theorem kw_342 : Cond.code yX3_home cX3_home 2 (some .int) ∈ zB := zB_in (List.mem_append_right _ (List.mem_of_getElem? (i := 342) rfl)) rfl
set_option maxRecDepth 100000 in
theorem kw_346 : Cond.code yX3_owed cX3_owed 2 (some .int) ∈ zB := zB_in (List.mem_append_right _ (List.mem_of_getElem? (i := 346) rfl)) rfl
set_option maxRecDepth 100000 in
theorem kw_350 : Cond.code yX3_history cX3_history 6 (some .int) ∈ zB := zB_in (List.mem_append_right _ (List.mem_of_getElem? (i := 350) rfl)) rfl
set_option maxRecDepth 100000 in
theorem kw_354 : Cond.code yX3_count cX3_count 5 (some .int) ∈ zB := zB_in (List.mem_append_right _ (List.mem_of_getElem? (i := 354) rfl)) rfl
theorem ok_X2_init : zOK yX2_init cX2_init 1 none 0 := ⟨kw_10, kw_1, by decide, by decide, by decide +kernel⟩
theorem ok_X2_check : zOK yX2_check cX2_check 9 (some .int) 2 := ⟨kw_40, kw_1, by decide, by decide, by decide +kernel⟩
theorem ok_X2_doubled : zOK yX2_doubled cX2_doubled 2 (some .int) 1 := ⟨kw_44, kw_1, by decide, by decide, by decide +kernel⟩
theorem ok_X2_copy : zOK yX2_copy cX2_copy 6 (some .int) 4 := ⟨kw_48, kw_1, by decide, by decide, by decide +kernel⟩
theorem ok_X2_isType : zOK yX2_isType cX2_isType 1 (some .boolean) 1 := ⟨kw_51, kw_1, by decide, by decide, by decide +kernel⟩
theorem ok_X2_isPlace : zOK yX2_isPlace cX2_isPlace 1 (some .boolean) 1 := ⟨kw_54, kw_1, by decide, by decide, by decide +kernel⟩
theorem ok_X2_isBarcode : zOK yX2_isBarcode cX2_isBarcode 4 (some .boolean) 2 := ⟨kw_58, kw_1, by decide, by decide, by decide +kernel⟩
theorem ok_X2_isTaken : zOK yX2_isTaken cX2_isTaken 6 (some .boolean) 2 := ⟨kw_63, kw_1, by decide, by decide, by decide +kernel⟩
theorem ok_X2_find : zOK yX2_find cX2_find 2 (some (.object "ItemStates$Copy")) 1 := ⟨kw_67, kw_1, by decide, by decide, by decide +kernel⟩
theorem ok_X2_hasRight : zOK yX2_hasRight cX2_hasRight 3 (some .boolean) 2 := ⟨kw_71, kw_1, by decide, by decide, by decide +kernel⟩
theorem ok_X0_init : zOK yX0_init cX0_init 6 none 4 := ⟨kw_75, kw_3, by decide, by decide, by decide +kernel⟩
theorem ok_X2_right : zOK yX2_right cX2_right 5 (some .boolean) 3 := ⟨kw_121, kw_1, by decide, by decide, by decide +kernel⟩
theorem ok_X2_fee : zOK yX2_fee cX2_fee 4 (some .int) 2 := ⟨kw_125, kw_1, by decide, by decide, by decide +kernel⟩
theorem ok_X2_act : zOK yX2_act cX2_act 9 (some .int) 4 := ⟨kw_130, kw_1, by decide, by decide, by decide +kernel⟩
theorem ok_X2_stateOn : zOK yX2_stateOn cX2_stateOn 4 (some .int) 2 := ⟨kw_134, kw_1, by decide, by decide, by decide +kernel⟩
theorem ok_X2_lastUpTo : zOK yX2_lastUpTo cX2_lastUpTo 5 (some (.object "ItemStates$Entry")) 2 := ⟨kw_137, kw_1, by decide, by decide, by decide +kernel⟩
theorem ok_X2_canFollow : zOK yX2_canFollow cX2_canFollow 2 (some .boolean) 2 := ⟨kw_140, kw_1, by decide, by decide, by decide +kernel⟩
theorem ok_X2_lacksRight : zOK yX2_lacksRight cX2_lacksRight 6 (some .boolean) 4 := ⟨kw_144, kw_1, by decide, by decide, by decide +kernel⟩
theorem ok_X2_enter : zOK yX2_enter cX2_enter 7 none 4 := ⟨kw_148, kw_1, by decide, by decide, by decide +kernel⟩
theorem ok_X1_init : zOK yX1_init cX1_init 6 none 4 := ⟨kw_153, kw_4, by decide, by decide, by decide +kernel⟩
theorem ok_X2_carryOut : zOK yX2_carryOut cX2_carryOut 4 none 3 := ⟨kw_178, kw_1, by decide, by decide, by decide +kernel⟩
theorem ok_X2_state : zOK yX2_state cX2_state 5 (some .int) 2 := ⟨kw_182, kw_1, by decide, by decide, by decide +kernel⟩
theorem ok_X2_place : zOK yX2_place cX2_place 3 (some .int) 1 := ⟨kw_186, kw_1, by decide, by decide, by decide +kernel⟩
theorem ok_X2_floats : zOK yX2_floats cX2_floats 5 (some .boolean) 2 := ⟨kw_190, kw_1, by decide, by decide, by decide +kernel⟩
theorem ok_X2_home : zOK yX2_home cX2_home 3 (some .int) 1 := ⟨kw_194, kw_1, by decide, by decide, by decide +kernel⟩
theorem ok_X2_weed : zOK yX2_weed cX2_weed 4 (some .int) 2 := ⟨kw_198, kw_1, by decide, by decide, by decide +kernel⟩
theorem ok_X2_canBeWeeded : zOK yX2_canBeWeeded cX2_canBeWeeded 1 (some .boolean) 1 := ⟨kw_201, kw_1, by decide, by decide, by decide +kernel⟩
theorem ok_X2_owed : zOK yX2_owed cX2_owed 3 (some .int) 1 := ⟨kw_205, kw_1, by decide, by decide, by decide +kernel⟩
theorem ok_X2_history : zOK yX2_history cX2_history 7 (some .int) 3 := ⟨kw_209, kw_1, by decide, by decide, by decide +kernel⟩
theorem ok_X2_count : zOK yX2_count cX2_count 6 (some .int) 2 := ⟨kw_213, kw_1, by decide, by decide, by decide +kernel⟩
theorem ok_X3_init : zOK yX3_init cX3_init 1 none 0 := ⟨kw_218, kw_2, by decide, by decide, by decide +kernel⟩
theorem ok_X3_check : zOK yX3_check cX3_check 4 (some .int) 2 := ⟨kw_282, kw_2, by decide, by decide, by decide +kernel⟩
theorem ok_X3_ten : zOK yX3_ten cX3_ten 4 (some .long) 1 := ⟨kw_285, kw_2, by decide, by decide, by decide +kernel⟩
theorem ok_X3_sign : zOK yX3_sign cX3_sign 8 (some .int) 1 := ⟨kw_289, kw_2, by decide, by decide, by decide +kernel⟩
theorem ok_X3_copy : zOK yX3_copy cX3_copy 7 (some .int) 4 := ⟨kw_293, kw_2, by decide, by decide, by decide +kernel⟩
theorem ok_X3_right : zOK yX3_right cX3_right 5 (some .boolean) 3 := ⟨kw_297, kw_2, by decide, by decide, by decide +kernel⟩
theorem ok_X3_fee : zOK yX3_fee cX3_fee 4 (some .int) 2 := ⟨kw_301, kw_2, by decide, by decide, by decide +kernel⟩
theorem ok_X3_state : zOK yX3_state cX3_state 5 (some .int) 2 := ⟨kw_306, kw_2, by decide, by decide, by decide +kernel⟩
theorem ok_X3_isCopy : zOK yX3_isCopy cX3_isCopy 2 (some .boolean) 1 := ⟨kw_310, kw_2, by decide, by decide, by decide +kernel⟩
theorem ok_X3_last : zOK yX3_last cX3_last 5 (some .int) 2 := ⟨kw_314, kw_2, by decide, by decide, by decide +kernel⟩
theorem ok_X3_act : zOK yX3_act cX3_act 9 (some .int) 4 := ⟨kw_318, kw_2, by decide, by decide, by decide +kernel⟩
theorem ok_X3_follows : zOK yX3_follows cX3_follows 2 (some .boolean) 2 := ⟨kw_322, kw_2, by decide, by decide, by decide +kernel⟩
theorem ok_X3_enter : zOK yX3_enter cX3_enter 7 none 4 := ⟨kw_326, kw_2, by decide, by decide, by decide +kernel⟩
theorem ok_X3_weed : zOK yX3_weed cX3_weed 4 (some .int) 2 := ⟨kw_330, kw_2, by decide, by decide, by decide +kernel⟩
theorem ok_X3_place : zOK yX3_place cX3_place 2 (some .int) 1 := ⟨kw_334, kw_2, by decide, by decide, by decide +kernel⟩
theorem ok_X3_floats : zOK yX3_floats cX3_floats 4 (some .boolean) 2 := ⟨kw_338, kw_2, by decide, by decide, by decide +kernel⟩
theorem ok_X3_home : zOK yX3_home cX3_home 2 (some .int) 1 := ⟨kw_342, kw_2, by decide, by decide, by decide +kernel⟩
theorem ok_X3_owed : zOK yX3_owed cX3_owed 2 (some .int) 1 := ⟨kw_346, kw_2, by decide, by decide, by decide +kernel⟩
theorem ok_X3_history : zOK yX3_history cX3_history 6 (some .int) 3 := ⟨kw_350, kw_2, by decide, by decide, by decide +kernel⟩
theorem ok_X3_count : zOK yX3_count cX3_count 5 (some .int) 2 := ⟨kw_354, kw_2, by decide, by decide, by decide +kernel⟩
theorem in0X0 : ∀ w ∈ u_ws RX0 TX0 10, w ∈ lw_tbl := by decide +kernel
theorem gd0X0 : ∀ w ∈ u_ws RX0 TX0 10, goodWord w = true := by decide +kernel
theorem kX0 : zCls 0 RX0 TX0 10 tyX0 := ⟨rfl, fun w h => zB_in (in0X0 w h) (gd0X0 w h), tyX0_ok, nmX0⟩
theorem in0X1 : ∀ w ∈ u_ws RX1 TX1 4, w ∈ lw_tbl := by decide +kernel
theorem gd0X1 : ∀ w ∈ u_ws RX1 TX1 4, goodWord w = true := by decide +kernel
theorem kX1 : zCls 1 RX1 TX1 4 tyX1 := ⟨rfl, fun w h => zB_in (in0X1 w h) (gd0X1 w h), tyX1_ok, nmX1⟩
theorem in0X2 : ∀ w ∈ u_ws RX2 TX2 6, w ∈ lw_tbl := by decide +kernel
theorem gd0X2 : ∀ w ∈ u_ws RX2 TX2 6, goodWord w = true := by decide +kernel
theorem kX2 : zCls 2 RX2 TX2 6 tyX2 := ⟨rfl, fun w h => zB_in (in0X2 w h) (gd0X2 w h), tyX2_ok, nmX2⟩
theorem in0X3 : ∀ w ∈ u_ws RX3 TX3 19, w ∈ lw_tbl := by decide +kernel
theorem gd0X3 : ∀ w ∈ u_ws RX3 TX3 19, goodWord w = true := by decide +kernel
theorem kX3 : zCls 3 RX3 TX3 19 tyX3 := ⟨rfl, fun w h => zB_in (in0X3 w h) (gd0X3 w h), tyX3_ok, nmX3⟩
