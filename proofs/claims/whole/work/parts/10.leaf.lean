set_option maxHeartbeats 4000000 in
set_option maxRecDepth 100000 in
theorem c_X2_isType (l : Launch) (A : Nat → Prop) (G : zG) (M : zMap) (p0 : Int32) : zMet l yX2_isType cX2_isType 1 (some .boolean) { frames := 0, cells := 0, slots := 0, locals := 0 } [.int p0] A G M (fun r M1 => r = some (.int (zb (zTy p0))) ∧ M1 = M) := by
  refine zMet.of (by decide) (Nat.le_of_ble_eq_true rfl) ?_
  intro p e s m args below meth c ls S hr hlocks hnm hK hM hA hS hl
  have hl : lv_has ls 1 [(0, .int p0)] := hl
  have hx := S.1
  have hb := S.2.1
  have hown := S.2.2.2.1
  have hts := S.2.2.2.2
  have hr : meth.sig.returnType = some .boolean := hr
  refine lv_iload_n hx hb dX2_isType_0 rfl (lv_at hl 0 rfl) ?_
  refine lv_if_lt (tgt := 14) hx hb dX2_isType_1 (by decide) (fun c_1 => ?_) (fun c_1 => ?_)
  · refine lv_iconst (v := 0) hx hb dX2_isType_14 (by decide) ?_
    exact z_zret S hr hlocks (by decide) hM hS ⟨by simp [zb, zTy, c_1], rfl⟩ (Nat.le_of_ble_eq_true rfl) (Nat.le_of_ble_eq_true rfl) dX2_isType_15
  · refine lv_iload_n hx hb dX2_isType_4 rfl (lv_at hl 0 rfl) ?_
    refine lv_bipush (v := 6) hx hb dX2_isType_5 (by decide) ?_
    refine lv_icmp_ge (tgt := 14) hx hb dX2_isType_7 (by decide) (fun c_2 => ?_) (fun c_2 => ?_)
    · refine lv_iconst (v := 0) hx hb dX2_isType_14 (by decide) ?_
      exact z_zret S hr hlocks (by decide) hM hS ⟨by simp [zb, zTy, c_1, c_2], rfl⟩ (Nat.le_of_ble_eq_true rfl) (Nat.le_of_ble_eq_true rfl) dX2_isType_15
    · refine lv_iconst (v := 1) hx hb dX2_isType_10 (by decide) ?_
      refine lv_goto (tgt := 15) hx hb dX2_isType_11 (by decide) ?_
      exact z_zret S hr hlocks (by decide) hM hS ⟨by simp [zb, zTy, c_1, c_2], rfl⟩ (Nat.le_of_ble_eq_true rfl) (Nat.le_of_ble_eq_true rfl) dX2_isType_15
set_option maxHeartbeats 4000000 in
set_option maxRecDepth 100000 in
theorem c_X2_isPlace (l : Launch) (A : Nat → Prop) (G : zG) (M : zMap) (p0 : Int32) : zMet l yX2_isPlace cX2_isPlace 1 (some .boolean) { frames := 0, cells := 0, slots := 0, locals := 0 } [.int p0] A G M (fun r M1 => r = some (.int (zb (zPl p0))) ∧ M1 = M) := by
  refine zMet.of (by decide) (Nat.le_of_ble_eq_true rfl) ?_
  intro p e s m args below meth c ls S hr hlocks hnm hK hM hA hS hl
  have hl : lv_has ls 1 [(0, .int p0)] := hl
  have hx := S.1
  have hb := S.2.1
  have hown := S.2.2.2.1
  have hts := S.2.2.2.2
  have hr : meth.sig.returnType = some .boolean := hr
  refine lv_iload_n hx hb dX2_isPlace_0 rfl (lv_at hl 0 rfl) ?_
  refine lv_if_lt (tgt := 14) hx hb dX2_isPlace_1 (by decide) (fun c_1 => ?_) (fun c_1 => ?_)
  · refine lv_iconst (v := 0) hx hb dX2_isPlace_14 (by decide) ?_
    exact z_zret S hr hlocks (by decide) hM hS ⟨by simp [zb, zPl, c_1], rfl⟩ (Nat.le_of_ble_eq_true rfl) (Nat.le_of_ble_eq_true rfl) dX2_isPlace_15
  · refine lv_iload_n hx hb dX2_isPlace_4 rfl (lv_at hl 0 rfl) ?_
    refine lv_bipush (v := 10) hx hb dX2_isPlace_5 (by decide) ?_
    refine lv_icmp_ge (tgt := 14) hx hb dX2_isPlace_7 (by decide) (fun c_2 => ?_) (fun c_2 => ?_)
    · refine lv_iconst (v := 0) hx hb dX2_isPlace_14 (by decide) ?_
      exact z_zret S hr hlocks (by decide) hM hS ⟨by simp [zb, zPl, c_1, c_2], rfl⟩ (Nat.le_of_ble_eq_true rfl) (Nat.le_of_ble_eq_true rfl) dX2_isPlace_15
    · refine lv_iconst (v := 1) hx hb dX2_isPlace_10 (by decide) ?_
      refine lv_goto (tgt := 15) hx hb dX2_isPlace_11 (by decide) ?_
      exact z_zret S hr hlocks (by decide) hM hS ⟨by simp [zb, zPl, c_1, c_2], rfl⟩ (Nat.le_of_ble_eq_true rfl) (Nat.le_of_ble_eq_true rfl) dX2_isPlace_15
set_option maxHeartbeats 4000000 in
set_option maxRecDepth 100000 in
theorem c_X2_doubled (l : Launch) (A : Nat → Prop) (G : zG) (M : zMap) (p0 : Int32) : zMet l yX2_doubled cX2_doubled 2 (some .int) { frames := 0, cells := 0, slots := 0, locals := 0 } [.int p0] A G M (fun r M1 => r = some (.int (zdb p0)) ∧ M1 = M) := by
  refine zMet.of (by decide) (Nat.le_of_ble_eq_true rfl) ?_
  intro p e s m args below meth c ls S hr hlocks hnm hK hM hA hS hl
  have hl : lv_has ls 2 [(0, .int p0)] := hl
  have hx := S.1
  have hb := S.2.1
  have hown := S.2.2.2.1
  have hts := S.2.2.2.2
  have hr : meth.sig.returnType = some .int := hr
  refine lv_iconst (v := 2) hx hb dX2_doubled_0 (by decide) ?_
  refine lv_iload_n hx hb dX2_doubled_1 rfl (lv_at hl 0 rfl) ?_
  refine lv_imul hx hb dX2_doubled_2 ?_
  refine lv_istore_n (lv' := [(1, .int (2 * p0)), (0, .int p0)]) hx hb dX2_doubled_3 rfl hl (by decide) rfl (fun ls hl => ?_)
  refine lv_iload_n hx hb dX2_doubled_4 rfl (lv_at hl 0 rfl) ?_
  refine lv_bipush (v := 9) hx hb dX2_doubled_5 (by decide) ?_
  refine lv_icmp_le (tgt := 17) hx hb dX2_doubled_7 (by decide) (fun c_1 => ?_) (fun c_1 => ?_)
  · refine lv_iload_n hx hb dX2_doubled_17 rfl (lv_at hl 0 rfl) ?_
    exact z_iret S hr hlocks hM hS ⟨by simp [zdb, c_1], rfl⟩ (Nat.le_of_ble_eq_true rfl) (Nat.le_of_ble_eq_true rfl) dX2_doubled_18
  · refine lv_iload_n hx hb dX2_doubled_10 rfl (lv_at hl 0 rfl) ?_
    refine lv_bipush (v := 9) hx hb dX2_doubled_11 (by decide) ?_
    refine lv_isub hx hb dX2_doubled_13 ?_
    refine lv_goto (tgt := 18) hx hb dX2_doubled_14 (by decide) ?_
    exact z_iret S hr hlocks hM hS ⟨by simp [zdb, c_1], rfl⟩ (Nat.le_of_ble_eq_true rfl) (Nat.le_of_ble_eq_true rfl) dX2_doubled_18
set_option maxHeartbeats 4000000 in
set_option maxRecDepth 100000 in
theorem c_X2_canBeWeeded (l : Launch) (A : Nat → Prop) (G : zG) (M : zMap) (p0 : Int32) : zMet l yX2_canBeWeeded cX2_canBeWeeded 1 (some .boolean) { frames := 0, cells := 0, slots := 0, locals := 0 } [.int p0] A G M (fun r M1 => r = some (.int (zb (zWd p0))) ∧ M1 = M) := by
  refine zMet.of (by decide) (Nat.le_of_ble_eq_true rfl) ?_
  intro p e s m args below meth c ls S hr hlocks hnm hK hM hA hS hl
  have hl : lv_has ls 1 [(0, .int p0)] := hl
  have hx := S.1
  have hb := S.2.1
  have hown := S.2.2.2.1
  have hts := S.2.2.2.2
  have hr : meth.sig.returnType = some .boolean := hr
  refine lv_iload_n hx hb dX2_canBeWeeded_0 rfl (lv_at hl 0 rfl) ?_
  refine lv_if_eq (tgt := 15) hx hb dX2_canBeWeeded_1 (by decide) (fun c_1 => ?_) (fun c_1 => ?_)
  · refine lv_iconst (v := 1) hx hb dX2_canBeWeeded_15 (by decide) ?_
    refine lv_goto (tgt := 20) hx hb dX2_canBeWeeded_16 (by decide) ?_
    exact z_zret S hr hlocks (by decide) hM hS ⟨by simp [zb, zWd, c_1], rfl⟩ (Nat.le_of_ble_eq_true rfl) (Nat.le_of_ble_eq_true rfl) dX2_canBeWeeded_20
  · refine lv_iload_n hx hb dX2_canBeWeeded_4 rfl (lv_at hl 0 rfl) ?_
    refine lv_iconst (v := 3) hx hb dX2_canBeWeeded_5 (by decide) ?_
    refine lv_icmp_eq (tgt := 15) hx hb dX2_canBeWeeded_6 (by decide) (fun c_2 => ?_) (fun c_2 => ?_)
    · refine lv_iconst (v := 1) hx hb dX2_canBeWeeded_15 (by decide) ?_
      refine lv_goto (tgt := 20) hx hb dX2_canBeWeeded_16 (by decide) ?_
      exact z_zret S hr hlocks (by decide) hM hS ⟨by simp [zb, zWd, c_1, c_2], rfl⟩ (Nat.le_of_ble_eq_true rfl) (Nat.le_of_ble_eq_true rfl) dX2_canBeWeeded_20
    · refine lv_iload_n hx hb dX2_canBeWeeded_9 rfl (lv_at hl 0 rfl) ?_
      refine lv_bipush (v := 6) hx hb dX2_canBeWeeded_10 (by decide) ?_
      refine lv_icmp_ne (tgt := 19) hx hb dX2_canBeWeeded_12 (by decide) (fun c_3 => ?_) (fun c_3 => ?_)
      · refine lv_iconst (v := 0) hx hb dX2_canBeWeeded_19 (by decide) ?_
        exact z_zret S hr hlocks (by decide) hM hS ⟨by simp [zb, zWd, c_1, c_2, c_3], rfl⟩ (Nat.le_of_ble_eq_true rfl) (Nat.le_of_ble_eq_true rfl) dX2_canBeWeeded_20
      · refine lv_iconst (v := 1) hx hb dX2_canBeWeeded_15 (by decide) ?_
        refine lv_goto (tgt := 20) hx hb dX2_canBeWeeded_16 (by decide) ?_
        exact z_zret S hr hlocks (by decide) hM hS ⟨by simp [zb, zWd, c_1, c_2, c_3], rfl⟩ (Nat.le_of_ble_eq_true rfl) (Nat.le_of_ble_eq_true rfl) dX2_canBeWeeded_20
set_option maxHeartbeats 4000000 in
set_option maxRecDepth 100000 in
theorem c_X2_canFollow (l : Launch) (A : Nat → Prop) (G : zG) (M : zMap) (p0 p1 : Int32) : zMet l yX2_canFollow cX2_canFollow 2 (some .boolean) { frames := 0, cells := 0, slots := 0, locals := 0 } [.int p0, .int p1] A G M (fun r M1 => r = some (.int (zb (zFo p0 p1))) ∧ M1 = M) := by
  refine zMet.of (by decide) (Nat.le_of_ble_eq_true rfl) ?_
  intro p e s m args below meth c ls S hr hlocks hnm hK hM hA hS hl
  have hl : lv_has ls 2 [(0, .int p0), (1, .int p1)] := hl
  have hx := S.1
  have hb := S.2.1
  have hown := S.2.2.2.1
  have hts := S.2.2.2.2
  have hr : meth.sig.returnType = some .boolean := hr
  refine lv_iload_n hx hb dX2_canFollow_0 rfl (lv_at hl 0 rfl) ?_
  by_cases hk_0 : p0 = 0
  · subst hk_0
    refine lv_tableIn (tgt := 44) hx hb dX2_canFollow_1 (by decide) (by decide) rfl (by decide) ?_
    refine lv_iload_n hx hb dX2_canFollow_44 rfl (lv_at hl 1 rfl) ?_
    refine lv_iconst (v := 1) hx hb dX2_canFollow_45 (by decide) ?_
    refine lv_icmp_lt (tgt := 59) hx hb dX2_canFollow_46 (by decide) (fun c_1 => ?_) (fun c_1 => ?_)
    · refine lv_iconst (v := 0) hx hb dX2_canFollow_59 (by decide) ?_
      exact z_zret S hr hlocks (by decide) hM hS ⟨by simp [zb, zFo, c_1], rfl⟩ (Nat.le_of_ble_eq_true rfl) (Nat.le_of_ble_eq_true rfl) dX2_canFollow_60
    · refine lv_iload_n hx hb dX2_canFollow_49 rfl (lv_at hl 1 rfl) ?_
      refine lv_bipush (v := 6) hx hb dX2_canFollow_50 (by decide) ?_
      refine lv_icmp_gt (tgt := 59) hx hb dX2_canFollow_52 (by decide) (fun c_2 => ?_) (fun c_2 => ?_)
      · refine lv_iconst (v := 0) hx hb dX2_canFollow_59 (by decide) ?_
        exact z_zret S hr hlocks (by decide) hM hS ⟨by simp [zb, zFo, c_1, c_2], rfl⟩ (Nat.le_of_ble_eq_true rfl) (Nat.le_of_ble_eq_true rfl) dX2_canFollow_60
      · refine lv_iconst (v := 1) hx hb dX2_canFollow_55 (by decide) ?_
        refine lv_goto (tgt := 60) hx hb dX2_canFollow_56 (by decide) ?_
        exact z_zret S hr hlocks (by decide) hM hS ⟨by simp [zb, zFo, c_1, c_2], rfl⟩ (Nat.le_of_ble_eq_true rfl) (Nat.le_of_ble_eq_true rfl) dX2_canFollow_60
  by_cases hk_1 : p0 = 1
  · subst hk_1
    refine lv_tableIn (tgt := 61) hx hb dX2_canFollow_1 (by decide) (by decide) rfl (by decide) ?_
    refine lv_iload_n hx hb dX2_canFollow_61 rfl (lv_at hl 1 rfl) ?_
    refine lv_if_eq (tgt := 70) hx hb dX2_canFollow_62 (by decide) (fun c_3 => ?_) (fun c_3 => ?_)
    · refine lv_iconst (v := 1) hx hb dX2_canFollow_70 (by decide) ?_
      refine lv_goto (tgt := 75) hx hb dX2_canFollow_71 (by decide) ?_
      exact z_zret S hr hlocks (by decide) hM hS ⟨by simp [zb, zFo, c_3], rfl⟩ (Nat.le_of_ble_eq_true rfl) (Nat.le_of_ble_eq_true rfl) dX2_canFollow_75
    · refine lv_iload_n hx hb dX2_canFollow_65 rfl (lv_at hl 1 rfl) ?_
      refine lv_iconst (v := 4) hx hb dX2_canFollow_66 (by decide) ?_
      refine lv_icmp_ne (tgt := 74) hx hb dX2_canFollow_67 (by decide) (fun c_4 => ?_) (fun c_4 => ?_)
      · refine lv_iconst (v := 0) hx hb dX2_canFollow_74 (by decide) ?_
        exact z_zret S hr hlocks (by decide) hM hS ⟨by simp [zb, zFo, c_3, c_4], rfl⟩ (Nat.le_of_ble_eq_true rfl) (Nat.le_of_ble_eq_true rfl) dX2_canFollow_75
      · refine lv_iconst (v := 1) hx hb dX2_canFollow_70 (by decide) ?_
        refine lv_goto (tgt := 75) hx hb dX2_canFollow_71 (by decide) ?_
        exact z_zret S hr hlocks (by decide) hM hS ⟨by simp [zb, zFo, c_3, c_4], rfl⟩ (Nat.le_of_ble_eq_true rfl) (Nat.le_of_ble_eq_true rfl) dX2_canFollow_75
  by_cases hk_2 : p0 = 2
  · subst hk_2
    refine lv_tableIn (tgt := 76) hx hb dX2_canFollow_1 (by decide) (by decide) rfl (by decide) ?_
    refine lv_iload_n hx hb dX2_canFollow_76 rfl (lv_at hl 1 rfl) ?_
    refine lv_if_eq (tgt := 85) hx hb dX2_canFollow_77 (by decide) (fun c_5 => ?_) (fun c_5 => ?_)
    · refine lv_iconst (v := 1) hx hb dX2_canFollow_85 (by decide) ?_
      refine lv_goto (tgt := 90) hx hb dX2_canFollow_86 (by decide) ?_
      exact z_zret S hr hlocks (by decide) hM hS ⟨by simp [zb, zFo, c_5], rfl⟩ (Nat.le_of_ble_eq_true rfl) (Nat.le_of_ble_eq_true rfl) dX2_canFollow_90
    · refine lv_iload_n hx hb dX2_canFollow_80 rfl (lv_at hl 1 rfl) ?_
      refine lv_iconst (v := 3) hx hb dX2_canFollow_81 (by decide) ?_
      refine lv_icmp_ne (tgt := 89) hx hb dX2_canFollow_82 (by decide) (fun c_6 => ?_) (fun c_6 => ?_)
      · refine lv_iconst (v := 0) hx hb dX2_canFollow_89 (by decide) ?_
        exact z_zret S hr hlocks (by decide) hM hS ⟨by simp [zb, zFo, c_5, c_6], rfl⟩ (Nat.le_of_ble_eq_true rfl) (Nat.le_of_ble_eq_true rfl) dX2_canFollow_90
      · refine lv_iconst (v := 1) hx hb dX2_canFollow_85 (by decide) ?_
        refine lv_goto (tgt := 90) hx hb dX2_canFollow_86 (by decide) ?_
        exact z_zret S hr hlocks (by decide) hM hS ⟨by simp [zb, zFo, c_5, c_6], rfl⟩ (Nat.le_of_ble_eq_true rfl) (Nat.le_of_ble_eq_true rfl) dX2_canFollow_90
  by_cases hk_3 : p0 = 3
  · subst hk_3
    refine lv_tableIn (tgt := 91) hx hb dX2_canFollow_1 (by decide) (by decide) rfl (by decide) ?_
    refine lv_iload_n hx hb dX2_canFollow_91 rfl (lv_at hl 1 rfl) ?_
    refine lv_if_eq (tgt := 101) hx hb dX2_canFollow_92 (by decide) (fun c_7 => ?_) (fun c_7 => ?_)
    · refine lv_iconst (v := 1) hx hb dX2_canFollow_101 (by decide) ?_
      refine lv_goto (tgt := 106) hx hb dX2_canFollow_102 (by decide) ?_
      exact z_zret S hr hlocks (by decide) hM hS ⟨by simp [zb, zFo, c_7], rfl⟩ (Nat.le_of_ble_eq_true rfl) (Nat.le_of_ble_eq_true rfl) dX2_canFollow_106
    · refine lv_iload_n hx hb dX2_canFollow_95 rfl (lv_at hl 1 rfl) ?_
      refine lv_bipush (v := 6) hx hb dX2_canFollow_96 (by decide) ?_
      refine lv_icmp_ne (tgt := 105) hx hb dX2_canFollow_98 (by decide) (fun c_8 => ?_) (fun c_8 => ?_)
      · refine lv_iconst (v := 0) hx hb dX2_canFollow_105 (by decide) ?_
        exact z_zret S hr hlocks (by decide) hM hS ⟨by simp [zb, zFo, c_7, c_8], rfl⟩ (Nat.le_of_ble_eq_true rfl) (Nat.le_of_ble_eq_true rfl) dX2_canFollow_106
      · refine lv_iconst (v := 1) hx hb dX2_canFollow_101 (by decide) ?_
        refine lv_goto (tgt := 106) hx hb dX2_canFollow_102 (by decide) ?_
        exact z_zret S hr hlocks (by decide) hM hS ⟨by simp [zb, zFo, c_7, c_8], rfl⟩ (Nat.le_of_ble_eq_true rfl) (Nat.le_of_ble_eq_true rfl) dX2_canFollow_106
  by_cases hk_4 : p0 = 4
  · subst hk_4
    refine lv_tableIn (tgt := 107) hx hb dX2_canFollow_1 (by decide) (by decide) rfl (by decide) ?_
    refine lv_iload_n hx hb dX2_canFollow_107 rfl (lv_at hl 1 rfl) ?_
    refine lv_if_ne (tgt := 115) hx hb dX2_canFollow_108 (by decide) (fun c_9 => ?_) (fun c_9 => ?_)
    · refine lv_iconst (v := 0) hx hb dX2_canFollow_115 (by decide) ?_
      exact z_zret S hr hlocks (by decide) hM hS ⟨by simp [zb, zFo, c_9], rfl⟩ (Nat.le_of_ble_eq_true rfl) (Nat.le_of_ble_eq_true rfl) dX2_canFollow_116
    · refine lv_iconst (v := 1) hx hb dX2_canFollow_111 (by decide) ?_
      refine lv_goto (tgt := 116) hx hb dX2_canFollow_112 (by decide) ?_
      exact z_zret S hr hlocks (by decide) hM hS ⟨by simp [zb, zFo, c_9], rfl⟩ (Nat.le_of_ble_eq_true rfl) (Nat.le_of_ble_eq_true rfl) dX2_canFollow_116
  by_cases hk_5 : p0 = 5
  · subst hk_5
    refine lv_tableIn (tgt := 76) hx hb dX2_canFollow_1 (by decide) (by decide) rfl (by decide) ?_
    refine lv_iload_n hx hb dX2_canFollow_76 rfl (lv_at hl 1 rfl) ?_
    refine lv_if_eq (tgt := 85) hx hb dX2_canFollow_77 (by decide) (fun c_10 => ?_) (fun c_10 => ?_)
    · refine lv_iconst (v := 1) hx hb dX2_canFollow_85 (by decide) ?_
      refine lv_goto (tgt := 90) hx hb dX2_canFollow_86 (by decide) ?_
      exact z_zret S hr hlocks (by decide) hM hS ⟨by simp [zb, zFo, c_10], rfl⟩ (Nat.le_of_ble_eq_true rfl) (Nat.le_of_ble_eq_true rfl) dX2_canFollow_90
    · refine lv_iload_n hx hb dX2_canFollow_80 rfl (lv_at hl 1 rfl) ?_
      refine lv_iconst (v := 3) hx hb dX2_canFollow_81 (by decide) ?_
      refine lv_icmp_ne (tgt := 89) hx hb dX2_canFollow_82 (by decide) (fun c_11 => ?_) (fun c_11 => ?_)
      · refine lv_iconst (v := 0) hx hb dX2_canFollow_89 (by decide) ?_
        exact z_zret S hr hlocks (by decide) hM hS ⟨by simp [zb, zFo, c_10, c_11], rfl⟩ (Nat.le_of_ble_eq_true rfl) (Nat.le_of_ble_eq_true rfl) dX2_canFollow_90
      · refine lv_iconst (v := 1) hx hb dX2_canFollow_85 (by decide) ?_
        refine lv_goto (tgt := 90) hx hb dX2_canFollow_86 (by decide) ?_
        exact z_zret S hr hlocks (by decide) hM hS ⟨by simp [zb, zFo, c_10, c_11], rfl⟩ (Nat.le_of_ble_eq_true rfl) (Nat.le_of_ble_eq_true rfl) dX2_canFollow_90
  by_cases hk_6 : p0 = 6
  · subst hk_6
    refine lv_tableIn (tgt := 117) hx hb dX2_canFollow_1 (by decide) (by decide) rfl (by decide) ?_
    refine lv_iload_n hx hb dX2_canFollow_117 rfl (lv_at hl 1 rfl) ?_
    refine lv_if_lt (tgt := 130) hx hb dX2_canFollow_118 (by decide) (fun c_12 => ?_) (fun c_12 => ?_)
    · refine lv_iconst (v := 0) hx hb dX2_canFollow_130 (by decide) ?_
      exact z_zret S hr hlocks (by decide) hM hS ⟨by simp [zb, zFo, c_12], rfl⟩ (Nat.le_of_ble_eq_true rfl) (Nat.le_of_ble_eq_true rfl) dX2_canFollow_131
    · refine lv_iload_n hx hb dX2_canFollow_121 rfl (lv_at hl 1 rfl) ?_
      refine lv_iconst (v := 5) hx hb dX2_canFollow_122 (by decide) ?_
      refine lv_icmp_gt (tgt := 130) hx hb dX2_canFollow_123 (by decide) (fun c_13 => ?_) (fun c_13 => ?_)
      · refine lv_iconst (v := 0) hx hb dX2_canFollow_130 (by decide) ?_
        exact z_zret S hr hlocks (by decide) hM hS ⟨by simp [zb, zFo, c_12, c_13], rfl⟩ (Nat.le_of_ble_eq_true rfl) (Nat.le_of_ble_eq_true rfl) dX2_canFollow_131
      · refine lv_iconst (v := 1) hx hb dX2_canFollow_126 (by decide) ?_
        refine lv_goto (tgt := 131) hx hb dX2_canFollow_127 (by decide) ?_
        exact z_zret S hr hlocks (by decide) hM hS ⟨by simp [zb, zFo, c_12, c_13], rfl⟩ (Nat.le_of_ble_eq_true rfl) (Nat.le_of_ble_eq_true rfl) dX2_canFollow_131
  refine lv_tableOut (tgt := 132) hx hb dX2_canFollow_1 (zsw7 hk_0 hk_1 hk_2 hk_3 hk_4 hk_5 hk_6) (by decide) ?_
  refine lv_iconst (v := 0) hx hb dX2_canFollow_132 (by decide) ?_
  exact z_zret S hr hlocks (by decide) hM hS ⟨by simp [zb, zFo, hk_0, hk_1, hk_2, hk_3, hk_4, hk_5, hk_6], rfl⟩ (Nat.le_of_ble_eq_true rfl) (Nat.le_of_ble_eq_true rfl) dX2_canFollow_133
set_option maxHeartbeats 4000000 in
set_option maxRecDepth 100000 in
theorem c_X2_find (l : Launch) (A : Nat → Prop) (G : zG) (M : zMap) (h0 cps : Nat) (n : Int32) (den fee : Nat) (gd : Int64) (ec : Int32) (f : Nat → Option Nat) (k : Int32) (h : M h0 = some (oI cps n den fee gd ec)) (hc : M cps = some (.inl (G.2.2 2, 80, .inr (.inr (.inr (.inr f)))))) : zMet l yX2_find cX2_find 2 (some (.object "ItemStates$Copy")) { frames := 0, cells := 0, slots := 0, locals := 0 } [.ref h0, .int k] A G M (fun r M1 => r = some (va_rf (zFi n f k)) ∧ M1 = M) := by
  refine zMet.of (by decide) (Nat.le_of_ble_eq_true rfl) ?_
  intro p e s m args below meth c ls S hr hlocks hnm hK hM hA hS hl
  have hl : lv_has ls 2 [(0, .ref h0), (1, .int k)] := hl
  have hx := S.1
  have hb := S.2.1
  have hown := S.2.2.2.1
  have hts := S.2.2.2.2
  have hr : meth.sig.returnType = some (.object "ItemStates$Copy") := hr
  refine lv_iload_n hx hb dX2_find_0 rfl (lv_at hl 1 rfl) ?_
  refine lv_iconst (v := 1) hx hb dX2_find_1 (by decide) ?_
  refine lv_icmp_lt (tgt := 22) hx hb dX2_find_2 (by decide) (fun c_1 => ?_) (fun c_1 => ?_)
  · refine lv_null hx hb dX2_find_22 ?_
    exact z_aret S hr hlocks (Or.inl rfl) hM hS ⟨by simp [zFi, va_rf, c_1], rfl⟩ (Nat.le_of_ble_eq_true rfl) (Nat.le_of_ble_eq_true rfl) dX2_find_23
  · refine lv_iload_n hx hb dX2_find_5 rfl (lv_at hl 1 rfl) ?_
    refine lv_aload_n hx hb dX2_find_6 rfl (lv_at hl 0 rfl) ?_
    refine z_get (v := .int n) S kX2 hK hM h 1 (by decide) kw_17 rfl dX2_find_7 ?_
    refine lv_icmp_gt (tgt := 22) hx hb dX2_find_10 (by decide) (fun c_2 => ?_) (fun c_2 => ?_)
    · refine lv_null hx hb dX2_find_22 ?_
      exact z_aret S hr hlocks (Or.inl rfl) hM hS ⟨by simp [zFi, va_rf, c_1, c_2], rfl⟩ (Nat.le_of_ble_eq_true rfl) (Nat.le_of_ble_eq_true rfl) dX2_find_23
    · refine lv_iload_n hx hb dX2_find_13 rfl (lv_at hl 1 rfl) ?_
      refine lv_aload_n hx hb dX2_find_14 rfl (lv_at hl 0 rfl) ?_
      refine z_get (v := .ref cps) S kX2 hK hM h 0 (by decide) kw_16 rfl dX2_find_15 ?_
      refine z_alen (v := 80) S hK hM 2 hc rfl rfl dX2_find_18 ?_
      refine lv_icmp_le (tgt := 24) hx hb dX2_find_19 (by decide) (fun c_3 => ?_) (fun c_3 => ?_)
      · replace c_3 := Int32.not_lt.mpr c_3
        refine lv_aload_n hx hb dX2_find_24 rfl (lv_at hl 0 rfl) ?_
        refine z_get (v := .ref cps) S kX2 hK hM h 0 (by decide) kw_16 rfl dX2_find_25 ?_
        refine lv_iload_n hx hb dX2_find_28 rfl (lv_at hl 1 rfl) ?_
        refine lv_iconst (v := 1) hx hb dX2_find_29 (by decide) ?_
        refine lv_isub hx hb dX2_find_30 ?_
        refine z_aald S hK hM 2 hc rfl (zFi_in c_1 c_3) dX2_find_31 ?_
        exact z_aret S hr hlocks (z_rf _) hM hS ⟨by simp [zFi, va_rf, c_1, c_2, c_3], rfl⟩ (Nat.le_of_ble_eq_true rfl) (Nat.le_of_ble_eq_true rfl) dX2_find_32
      · replace c_3 := Int32.not_le.mp c_3
        refine lv_null hx hb dX2_find_22 ?_
        exact z_aret S hr hlocks (Or.inl rfl) hM hS ⟨by simp [zFi, va_rf, c_1, c_2, c_3], rfl⟩ (Nat.le_of_ble_eq_true rfl) (Nat.le_of_ble_eq_true rfl) dX2_find_23
set_option maxHeartbeats 4000000 in
set_option maxRecDepth 100000 in
theorem c_X2_hasRight (l : Launch) (A : Nat → Prop) (G : zG) (M : zMap) (h0 cps : Nat) (n : Int32) (den fee : Nat) (gd : Int64) (ec : Int32) (dn : Nat → Int32) (p0 p1 : Int32) (h : M h0 = some (oI cps n den fee gd ec)) (hd : M den = some (.inl (G.2.2 1, 60, .inl dn))) : zMet l yX2_hasRight cX2_hasRight 3 (some .boolean) { frames := 1, cells := 0, slots := 0, locals := 40 } [.ref h0, .int p0, .int p1] A G M (fun r M1 => r = some (.int (zb (zRi dn p0 p1))) ∧ M1 = M) := by
  refine zMet.of (by decide) (Nat.le_of_ble_eq_true rfl) ?_
  intro p e s m args below meth c ls S hr hlocks hnm hK hM hA hS hl
  have hl : lv_has ls 3 [(0, .ref h0), (1, .int p0), (2, .int p1)] := hl
  have hx := S.1
  have hb := S.2.1
  have hown := S.2.2.2.1
  have hts := S.2.2.2.2
  have hr : meth.sig.returnType = some .boolean := hr
  refine lv_iload_n hx hb dX2_hasRight_0 rfl (lv_at hl 1 rfl) ?_
  refine z_callS (As := [.int p0]) (rest := []) S (c_X2_isPlace l A G M p0) ok_X2_isPlace kw_52 kw_53 ⟨Nat.le_of_ble_eq_true rfl, Nat.le_of_ble_eq_true rfl⟩ hK hM hS hA rfl hl.1 rfl (Nat.le_of_ble_eq_true rfl) dX2_hasRight_1 ⟨Nat.le_of_ble_eq_true rfl, Nat.le_of_ble_eq_true rfl⟩ (fun r_3 M_1 H locs hp_2 hM hS => ?_)
  obtain ⟨rfl, hM9⟩ := hp_2
  rw [hM9] at hM
  refine W.eq (g2 := F0 m 4 ls [.int (zb (zPl p0))]) rfl ?_
  refine lv_if_eq (tgt := 32) hx hb dX2_hasRight_4 (by decide) (fun c_4 => ?_) (fun c_4 => ?_)
  · rw [zb_0] at c_4
    refine lv_iconst (v := 0) hx hb dX2_hasRight_32 (by decide) ?_
    exact z_zret S hr hlocks (by decide) hM hS ⟨by rw [zb_f (fun q => c_4 q.1)], rfl⟩ (Nat.le_of_ble_eq_true rfl) (Nat.le_of_ble_eq_true rfl) dX2_hasRight_33
  · rw [zb_0n] at c_4
    refine lv_iload_n hx hb dX2_hasRight_7 rfl (lv_at hl 2 rfl) ?_
    refine z_callS (As := [.int p1]) (rest := []) S (c_X2_isType l A G M p1) ok_X2_isType kw_49 kw_50 ⟨Nat.le_of_ble_eq_true rfl, Nat.le_of_ble_eq_true rfl⟩ hK hM hS hA rfl hl.1 rfl (Nat.le_of_ble_eq_true rfl) dX2_hasRight_8 ⟨Nat.le_of_ble_eq_true rfl, Nat.le_of_ble_eq_true rfl⟩ (fun r_7 M_5 H locs hp_6 hM hS => ?_)
    obtain ⟨rfl, hM9⟩ := hp_6
    rw [hM9] at hM
    refine W.eq (g2 := F0 m 11 ls [.int (zb (zTy p1))]) rfl ?_
    refine lv_if_eq (tgt := 32) hx hb dX2_hasRight_11 (by decide) (fun c_8 => ?_) (fun c_8 => ?_)
    · rw [zb_0] at c_8
      refine lv_iconst (v := 0) hx hb dX2_hasRight_32 (by decide) ?_
      exact z_zret S hr hlocks (by decide) hM hS ⟨by rw [zb_f (fun q => c_8 q.2.1)], rfl⟩ (Nat.le_of_ble_eq_true rfl) (Nat.le_of_ble_eq_true rfl) dX2_hasRight_33
    · rw [zb_0n] at c_8
      refine lv_aload_n hx hb dX2_hasRight_14 rfl (lv_at hl 0 rfl) ?_
      refine z_get (v := .ref den) S kX2 hK hM h 2 (by decide) kw_18 rfl dX2_hasRight_15 ?_
      refine lv_iload_n hx hb dX2_hasRight_18 rfl (lv_at hl 1 rfl) ?_
      refine lv_bipush (v := 6) hx hb dX2_hasRight_19 (by decide) ?_
      refine lv_imul hx hb dX2_hasRight_21 ?_
      refine lv_iload_n hx hb dX2_hasRight_22 rfl (lv_at hl 2 rfl) ?_
      refine lv_iadd hx hb dX2_hasRight_23 ?_
      refine z_zald S hK hM 1 hd rfl (zRi_in c_4 c_8) dX2_hasRight_24 ?_
      refine lv_if_ne (tgt := 32) hx hb dX2_hasRight_25 (by decide) (fun c_9 => ?_) (fun c_9 => ?_)
      · refine lv_iconst (v := 0) hx hb dX2_hasRight_32 (by decide) ?_
        exact z_zret S hr hlocks (by decide) hM hS ⟨by rw [zb_f (fun q => c_9 q.2.2)], rfl⟩ (Nat.le_of_ble_eq_true rfl) (Nat.le_of_ble_eq_true rfl) dX2_hasRight_33
      · refine lv_iconst (v := 1) hx hb dX2_hasRight_28 (by decide) ?_
        refine lv_goto (tgt := 33) hx hb dX2_hasRight_29 (by decide) ?_
        exact z_zret S hr hlocks (by decide) hM hS ⟨by rw [zb_t ⟨c_4, c_8, c_9⟩], rfl⟩ (Nat.le_of_ble_eq_true rfl) (Nat.le_of_ble_eq_true rfl) dX2_hasRight_33
set_option maxHeartbeats 4000000 in
set_option maxRecDepth 100000 in
theorem c_X2_lacksRight (l : Launch) (A : Nat → Prop) (G : zG) (M : zMap) (h0 cps : Nat) (n : Int32) (den fee : Nat) (gd : Int64) (ec : Int32) (dn : Nat → Int32) (it : Nat) (ty : Int32) (bc : Int64) (dg hm pl st fl ow wb : Int32) (fi : Option Nat) (kind place late : Int32) (h : M h0 = some (oI cps n den fee gd ec)) (hd : M den = some (.inl (G.2.2 1, 60, .inl dn))) (hi : M it = some (oC ty bc dg hm pl st fl ow wb fi)) : zMet l yX2_lacksRight cX2_lacksRight 6 (some .boolean) { frames := 2, cells := 0, slots := 0, locals := 80 } [.ref h0, .ref it, .int kind, .int place, .int late] A G M (fun r M1 => r = some (.int (zb (zLk dn kind place late st pl ty))) ∧ M1 = M) := by
  refine zMet.of (by decide) (Nat.le_of_ble_eq_true rfl) ?_
  intro p e s m args below meth c ls S hr hlocks hnm hK hM hA hS hl
  have hl : lv_has ls 6 [(0, .ref h0), (1, .ref it), (2, .int kind), (3, .int place), (4, .int late)] := hl
  have hx := S.1
  have hb := S.2.1
  have hown := S.2.2.2.1
  have hts := S.2.2.2.2
  have hr : meth.sig.returnType = some .boolean := hr
  refine lv_iload_n hx hb dX2_lacksRight_0 rfl (lv_at hl 2 rfl) ?_
  refine lv_iconst (v := 2) hx hb dX2_lacksRight_1 (by decide) ?_
  refine lv_icmp_ne (tgt := 23) hx hb dX2_lacksRight_2 (by decide) (fun c_1 => ?_) (fun c_1 => ?_)
  · refine lv_iload_n hx hb dX2_lacksRight_23 rfl (lv_at hl 2 rfl) ?_
    refine lv_if_ne (tgt := 44) hx hb dX2_lacksRight_24 (by decide) (fun c_2 => ?_) (fun c_2 => ?_)
    · refine lv_iconst (v := 0) hx hb dX2_lacksRight_44 (by decide) ?_
      refine lv_istore (lv' := [(5, .int 0), (0, .ref h0), (1, .ref it), (2, .int kind), (3, .int place), (4, .int late)]) hx hb dX2_lacksRight_45 hl (by decide) rfl (fun ls hl => ?_)
      refine lv_iload hx hb dX2_lacksRight_47 (lv_at hl 0 rfl) ?_
      refine lv_if_eq (tgt := 71) hx hb dX2_lacksRight_49 (by decide) (fun c_3 => ?_) (fun c_3 => absurd c_3 (by decide))
      refine lv_iconst (v := 0) hx hb dX2_lacksRight_71 (by decide) ?_
      exact z_zret S hr hlocks (by decide) hM hS ⟨by simp only [zb]; simp [zLk, c_1, c_2], rfl⟩ (Nat.le_of_ble_eq_true rfl) (Nat.le_of_ble_eq_true rfl) dX2_lacksRight_72
    · refine lv_aload_n hx hb dX2_lacksRight_27 rfl (lv_at hl 1 rfl) ?_
      refine z_getN (v := .int st) S kX0 hK hM hi 5 (by decide) kw_88 rfl dX2_lacksRight_28 ?_
      refine lv_iconst (v := 2) hx hb dX2_lacksRight_31 (by decide) ?_
      refine lv_icmp_ne (tgt := 44) hx hb dX2_lacksRight_32 (by decide) (fun c_4 => ?_) (fun c_4 => ?_)
      · refine lv_iconst (v := 0) hx hb dX2_lacksRight_44 (by decide) ?_
        refine lv_istore (lv' := [(5, .int 0), (0, .ref h0), (1, .ref it), (2, .int kind), (3, .int place), (4, .int late)]) hx hb dX2_lacksRight_45 hl (by decide) rfl (fun ls hl => ?_)
        refine lv_iload hx hb dX2_lacksRight_47 (lv_at hl 0 rfl) ?_
        refine lv_if_eq (tgt := 71) hx hb dX2_lacksRight_49 (by decide) (fun c_5 => ?_) (fun c_5 => absurd c_5 (by decide))
        refine lv_iconst (v := 0) hx hb dX2_lacksRight_71 (by decide) ?_
        exact z_zret S hr hlocks (by decide) hM hS ⟨by simp only [zb]; simp [zLk, c_1, c_2, c_4], rfl⟩ (Nat.le_of_ble_eq_true rfl) (Nat.le_of_ble_eq_true rfl) dX2_lacksRight_72
      · refine lv_iload hx hb dX2_lacksRight_35 (lv_at hl 4 rfl) ?_
        refine lv_if_ne (tgt := 44) hx hb dX2_lacksRight_37 (by decide) (fun c_6 => ?_) (fun c_6 => ?_)
        · refine lv_iconst (v := 0) hx hb dX2_lacksRight_44 (by decide) ?_
          refine lv_istore (lv' := [(5, .int 0), (0, .ref h0), (1, .ref it), (2, .int kind), (3, .int place), (4, .int late)]) hx hb dX2_lacksRight_45 hl (by decide) rfl (fun ls hl => ?_)
          refine lv_iload hx hb dX2_lacksRight_47 (lv_at hl 0 rfl) ?_
          refine lv_if_eq (tgt := 71) hx hb dX2_lacksRight_49 (by decide) (fun c_7 => ?_) (fun c_7 => absurd c_7 (by decide))
          refine lv_iconst (v := 0) hx hb dX2_lacksRight_71 (by decide) ?_
          exact z_zret S hr hlocks (by decide) hM hS ⟨by simp only [zb]; simp [zLk, c_1, c_2, c_4, c_6], rfl⟩ (Nat.le_of_ble_eq_true rfl) (Nat.le_of_ble_eq_true rfl) dX2_lacksRight_72
        · refine lv_iconst (v := 1) hx hb dX2_lacksRight_40 (by decide) ?_
          refine lv_goto (tgt := 45) hx hb dX2_lacksRight_41 (by decide) ?_
          refine lv_istore (lv' := [(5, .int 1), (0, .ref h0), (1, .ref it), (2, .int kind), (3, .int place), (4, .int late)]) hx hb dX2_lacksRight_45 hl (by decide) rfl (fun ls hl => ?_)
          refine lv_iload hx hb dX2_lacksRight_47 (lv_at hl 0 rfl) ?_
          refine lv_if_eq (tgt := 71) hx hb dX2_lacksRight_49 (by decide) (fun c_8 => absurd c_8 (by decide)) (fun c_8 => ?_)
          refine lv_aload_n hx hb dX2_lacksRight_52 rfl (lv_at hl 1 rfl) ?_
          refine lv_aload_n hx hb dX2_lacksRight_53 rfl (lv_at hl 2 rfl) ?_
          refine z_getN (v := .int pl) S kX0 hK hM hi 4 (by decide) kw_86 rfl dX2_lacksRight_54 ?_
          refine lv_aload_n hx hb dX2_lacksRight_57 rfl (lv_at hl 2 rfl) ?_
          refine z_getN (v := .int ty) S kX0 hK hM hi 0 (by decide) kw_78 rfl dX2_lacksRight_58 ?_
          refine z_callV (As := [.int pl, .int ty]) (rest := []) S (c_X2_hasRight l A G M h0 cps n den fee gd ec dn pl ty h hd) ok_X2_hasRight kw_68 kw_70 ks_3 ⟨Nat.le_of_ble_eq_true rfl, Nat.le_of_ble_eq_true rfl⟩ hK hM hS hA h rfl rfl hl.1 rfl (Nat.le_of_ble_eq_true rfl) dX2_lacksRight_61 ⟨Nat.le_of_ble_eq_true rfl, Nat.le_of_ble_eq_true rfl⟩ (fun r_11 M_9 H locs hp_10 hM hS => ?_)
          obtain ⟨rfl, hM9⟩ := hp_10
          rw [hM9] at hM
          refine W.eq (g2 := F0 m 64 ls [.int (zb (zRi dn pl ty))]) rfl ?_
          refine lv_if_ne (tgt := 71) hx hb dX2_lacksRight_64 (by decide) (fun c_12 => ?_) (fun c_12 => ?_)
          · rw [zb_0n] at c_12
            refine lv_iconst (v := 0) hx hb dX2_lacksRight_71 (by decide) ?_
            exact z_zret S hr hlocks (by decide) hM hS ⟨by simp only [zb]; simp [zLk, c_1, c_2, c_4, c_6, c_12], rfl⟩ (Nat.le_of_ble_eq_true rfl) (Nat.le_of_ble_eq_true rfl) dX2_lacksRight_72
          · rw [zb_0] at c_12
            refine lv_iconst (v := 1) hx hb dX2_lacksRight_67 (by decide) ?_
            refine lv_goto (tgt := 72) hx hb dX2_lacksRight_68 (by decide) ?_
            exact z_zret S hr hlocks (by decide) hM hS ⟨by simp only [zb]; simp [zLk, c_1, c_2, c_4, c_6, c_12], rfl⟩ (Nat.le_of_ble_eq_true rfl) (Nat.le_of_ble_eq_true rfl) dX2_lacksRight_72
  · refine lv_aload_n hx hb dX2_lacksRight_5 rfl (lv_at hl 0 rfl) ?_
    refine lv_iload_n hx hb dX2_lacksRight_6 rfl (lv_at hl 3 rfl) ?_
    refine lv_aload_n hx hb dX2_lacksRight_7 rfl (lv_at hl 1 rfl) ?_
    refine z_getN (v := .int ty) S kX0 hK hM hi 0 (by decide) kw_78 rfl dX2_lacksRight_8 ?_
    refine z_callV (As := [.int place, .int ty]) (rest := []) S (c_X2_hasRight l A G M h0 cps n den fee gd ec dn place ty h hd) ok_X2_hasRight kw_68 kw_70 ks_3 ⟨Nat.le_of_ble_eq_true rfl, Nat.le_of_ble_eq_true rfl⟩ hK hM hS hA h rfl rfl hl.1 rfl (Nat.le_of_ble_eq_true rfl) dX2_lacksRight_11 ⟨Nat.le_of_ble_eq_true rfl, Nat.le_of_ble_eq_true rfl⟩ (fun r_15 M_13 H locs hp_14 hM hS => ?_)
    obtain ⟨rfl, hM9⟩ := hp_14
    rw [hM9] at hM
    refine W.eq (g2 := F0 m 14 ls [.int (zb (zRi dn place ty))]) rfl ?_
    refine lv_if_ne (tgt := 21) hx hb dX2_lacksRight_14 (by decide) (fun c_16 => ?_) (fun c_16 => ?_)
    · rw [zb_0n] at c_16
      refine lv_iconst (v := 0) hx hb dX2_lacksRight_21 (by decide) ?_
      exact z_zret S hr hlocks (by decide) hM hS ⟨by simp only [zb]; simp [zLk, c_1, c_16], rfl⟩ (Nat.le_of_ble_eq_true rfl) (Nat.le_of_ble_eq_true rfl) dX2_lacksRight_22
    · rw [zb_0] at c_16
      refine lv_iconst (v := 1) hx hb dX2_lacksRight_17 (by decide) ?_
      refine lv_goto (tgt := 22) hx hb dX2_lacksRight_18 (by decide) ?_
      exact z_zret S hr hlocks (by decide) hM hS ⟨by simp only [zb]; simp [zLk, c_1, c_16], rfl⟩ (Nat.le_of_ble_eq_true rfl) (Nat.le_of_ble_eq_true rfl) dX2_lacksRight_22
