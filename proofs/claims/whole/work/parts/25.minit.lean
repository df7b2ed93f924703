set_option maxHeartbeats 4000000 in
set_option maxRecDepth 100000 in
theorem c_X3_init (l : Launch) (A : Nat → Prop) (G : zG) (M : zMap) (m0 : Nat) (v0 v1 v2 v3 v4 v5 v6 v7 v8 v9 v10 v11 v12 v13 v14 : Option Nat) (h : M m0 = some (.inr (3, [.int 0, .int 0, va_rf v0, va_rf v1, va_rf v2, va_rf v3, va_rf v4, va_rf v5, va_rf v6, va_rf v7, va_rf v8, va_rf v9, va_rf v10, .int 0, va_rf v11, va_rf v12, va_rf v13, va_rf v14, .long 0]))) : zMet l yX3_init cX3_init 1 none { frames := 1, cells := 15, slots := 20795, locals := 40 } [.ref m0] A G M (fun r M1 => r = none ∧ ∃ ar : Nat → Nat, zJ G M1 m0 ar 0 0 0 0 (fun _ _ => 0) (fun _ _ => 0)) := by
  refine zMet.of (by decide) (Nat.le_of_ble_eq_true rfl) ?_
  intro p e s m args below meth c ls S hr hlocks hnm hK hM hA hS hl
  have hl : lv_has ls 1 [(0, .ref m0)] := hl
  have hx := S.1
  have hb := S.2.1
  have hown := S.2.2.2.1
  have hts := S.2.2.2.2
  have hr : meth.sig.returnType = none := hr
  have hnm : meth.name = "<init>" := hnm
  refine lv_aload_n hx hb dX3_init_0 rfl (lv_at hl 0 rfl) ?_
  refine z_objInit S hl.1 kw_219 kw_12 kw_13 dX3_init_1 (Nat.le_of_ble_eq_true rfl) (Nat.le_of_ble_eq_true rfl) ?_
  refine lv_aload_n hx hb dX3_init_4 rfl (lv_at hl 0 rfl) ?_
  refine lv_bipush (v := 81) hx hb dX3_init_5 (by decide) ?_
  refine z_newa (atype := .int) (N' := 81) (a0 := (81, .inl (fun _ => 0))) S hK hM hS hA kw_36 rfl 0 rfl (fun C h9 => by cases h9) (fun _ => rfl) (by decide) (by decide) (by decide) (Nat.le_of_ble_eq_true rfl) (Nat.le_of_ble_eq_true rfl) dX3_init_7 (fun q0 H hq0 hAq0 hM hS => ?_)
  obtain ⟨M_1, eM_2⟩ : ∃ z : zMap, z = zu M q0 (.inl (G.2.2 0, 81, .inl (fun _ => 0))) := ⟨_, rfl⟩
  replace hM : zM A G M_1 H := by rw [eM_2]; exact hM
  have he_3 : M_1 q0 = some (.inl (G.2.2 0, 81, .inl (fun _ => 0))) := by rw [eM_2]; exact zu_s _ _ _
  have he_4 := (show M_1 m0 = M m0 by rw [eM_2]; exact zu_n (znf h hq0)).trans h
  refine z_putF S kX3 hK hM hS he_4 2 (by decide) kw_222 rfl hnm rfl rfl rfl (Nat.le_of_ble_eq_true rfl) dX3_init_9 (fun H locs hM hS => ?_)
  obtain ⟨M_5, eM_6⟩ : ∃ z : zMap, z = zu M_1 m0 (.inr (3, [.int 0, .int 0, .ref q0, va_rf v1, va_rf v2, va_rf v3, va_rf v4, va_rf v5, va_rf v6, va_rf v7, va_rf v8, va_rf v9, va_rf v10, .int 0, va_rf v11, va_rf v12, va_rf v13, va_rf v14, .long 0])) := ⟨_, rfl⟩
  replace hM : zM A G M_5 H := by rw [eM_6]; exact hM
  have he_7 : M_5 m0 = some (.inr (3, [.int 0, .int 0, .ref q0, va_rf v1, va_rf v2, va_rf v3, va_rf v4, va_rf v5, va_rf v6, va_rf v7, va_rf v8, va_rf v9, va_rf v10, .int 0, va_rf v11, va_rf v12, va_rf v13, va_rf v14, .long 0])) := by rw [eM_6]; exact zu_s _ _ _
  have he_8 := (show M_5 q0 = M_1 q0 by rw [eM_6]; exact zu_n (zne he_3 he_4 (by simp))).trans he_3
  refine lv_aload_n hx hb dX3_init_12 rfl (lv_at hl 0 rfl) ?_
  refine lv_bipush (v := 81) hx hb dX3_init_13 (by decide) ?_
  refine z_newa (atype := .long) (N' := 81) (a0 := (81, .inr (.inl (fun _ => 0)))) S hK hM hS hA kw_278 rfl 3 rfl (fun C h9 => by cases h9) (fun _ => rfl) (by decide) (by decide) (by decide) (Nat.le_of_ble_eq_true rfl) (Nat.le_of_ble_eq_true rfl) dX3_init_15 (fun q1 H hq1 hAq1 hM hS => ?_)
  obtain ⟨M_9, eM_10⟩ : ∃ z : zMap, z = zu M_5 q1 (.inl (G.2.2 3, 81, .inr (.inl (fun _ => 0)))) := ⟨_, rfl⟩
  replace hM : zM A G M_9 H := by rw [eM_10]; exact hM
  have hn_q0_q1 : q0 ≠ q1 := znf he_8 hq1
  have he_11 : M_9 q1 = some (.inl (G.2.2 3, 81, .inr (.inl (fun _ => 0)))) := by rw [eM_10]; exact zu_s _ _ _
  have he_12 := (show M_9 m0 = M_5 m0 by rw [eM_10]; exact zu_n (znf he_7 hq1)).trans he_7
  have he_13 := (show M_9 q0 = M_5 q0 by rw [eM_10]; exact zu_n (znf he_8 hq1)).trans he_8
  refine z_putF S kX3 hK hM hS he_12 3 (by decide) kw_223 rfl hnm rfl rfl rfl (Nat.le_of_ble_eq_true rfl) dX3_init_17 (fun H locs hM hS => ?_)
  obtain ⟨M_14, eM_15⟩ : ∃ z : zMap, z = zu M_9 m0 (.inr (3, [.int 0, .int 0, .ref q0, .ref q1, va_rf v2, va_rf v3, va_rf v4, va_rf v5, va_rf v6, va_rf v7, va_rf v8, va_rf v9, va_rf v10, .int 0, va_rf v11, va_rf v12, va_rf v13, va_rf v14, .long 0])) := ⟨_, rfl⟩
  replace hM : zM A G M_14 H := by rw [eM_15]; exact hM
  have he_16 : M_14 m0 = some (.inr (3, [.int 0, .int 0, .ref q0, .ref q1, va_rf v2, va_rf v3, va_rf v4, va_rf v5, va_rf v6, va_rf v7, va_rf v8, va_rf v9, va_rf v10, .int 0, va_rf v11, va_rf v12, va_rf v13, va_rf v14, .long 0])) := by rw [eM_15]; exact zu_s _ _ _
  have he_17 := (show M_14 q0 = M_9 q0 by rw [eM_15]; exact zu_n (zne he_13 he_12 (by simp))).trans he_13
  have he_18 := (show M_14 q1 = M_9 q1 by rw [eM_15]; exact zu_n (zne he_11 he_12 (by simp))).trans he_11
  refine lv_aload_n hx hb dX3_init_20 rfl (lv_at hl 0 rfl) ?_
  refine lv_bipush (v := 81) hx hb dX3_init_21 (by decide) ?_
  refine z_newa (atype := .int) (N' := 81) (a0 := (81, .inl (fun _ => 0))) S hK hM hS hA kw_36 rfl 0 rfl (fun C h9 => by cases h9) (fun _ => rfl) (by decide) (by decide) (by decide) (Nat.le_of_ble_eq_true rfl) (Nat.le_of_ble_eq_true rfl) dX3_init_23 (fun q2 H hq2 hAq2 hM hS => ?_)
  obtain ⟨M_19, eM_20⟩ : ∃ z : zMap, z = zu M_14 q2 (.inl (G.2.2 0, 81, .inl (fun _ => 0))) := ⟨_, rfl⟩
  replace hM : zM A G M_19 H := by rw [eM_20]; exact hM
  have hn_q0_q2 : q0 ≠ q2 := znf he_17 hq2
  have hn_q1_q2 : q1 ≠ q2 := znf he_18 hq2
  have he_21 : M_19 q2 = some (.inl (G.2.2 0, 81, .inl (fun _ => 0))) := by rw [eM_20]; exact zu_s _ _ _
  have he_22 := (show M_19 m0 = M_14 m0 by rw [eM_20]; exact zu_n (znf he_16 hq2)).trans he_16
  have he_23 := (show M_19 q0 = M_14 q0 by rw [eM_20]; exact zu_n (znf he_17 hq2)).trans he_17
  have he_24 := (show M_19 q1 = M_14 q1 by rw [eM_20]; exact zu_n (znf he_18 hq2)).trans he_18
  refine z_putF S kX3 hK hM hS he_22 4 (by decide) kw_224 rfl hnm rfl rfl rfl (Nat.le_of_ble_eq_true rfl) dX3_init_25 (fun H locs hM hS => ?_)
  obtain ⟨M_25, eM_26⟩ : ∃ z : zMap, z = zu M_19 m0 (.inr (3, [.int 0, .int 0, .ref q0, .ref q1, .ref q2, va_rf v3, va_rf v4, va_rf v5, va_rf v6, va_rf v7, va_rf v8, va_rf v9, va_rf v10, .int 0, va_rf v11, va_rf v12, va_rf v13, va_rf v14, .long 0])) := ⟨_, rfl⟩
  replace hM : zM A G M_25 H := by rw [eM_26]; exact hM
  have he_27 : M_25 m0 = some (.inr (3, [.int 0, .int 0, .ref q0, .ref q1, .ref q2, va_rf v3, va_rf v4, va_rf v5, va_rf v6, va_rf v7, va_rf v8, va_rf v9, va_rf v10, .int 0, va_rf v11, va_rf v12, va_rf v13, va_rf v14, .long 0])) := by rw [eM_26]; exact zu_s _ _ _
  have he_28 := (show M_25 q0 = M_19 q0 by rw [eM_26]; exact zu_n (zne he_23 he_22 (by simp))).trans he_23
  have he_29 := (show M_25 q1 = M_19 q1 by rw [eM_26]; exact zu_n (zne he_24 he_22 (by simp))).trans he_24
  have he_30 := (show M_25 q2 = M_19 q2 by rw [eM_26]; exact zu_n (zne he_21 he_22 (by simp))).trans he_21
  refine lv_aload_n hx hb dX3_init_28 rfl (lv_at hl 0 rfl) ?_
  refine lv_bipush (v := 81) hx hb dX3_init_29 (by decide) ?_
  refine z_newa (atype := .int) (N' := 81) (a0 := (81, .inl (fun _ => 0))) S hK hM hS hA kw_36 rfl 0 rfl (fun C h9 => by cases h9) (fun _ => rfl) (by decide) (by decide) (by decide) (Nat.le_of_ble_eq_true rfl) (Nat.le_of_ble_eq_true rfl) dX3_init_31 (fun q3 H hq3 hAq3 hM hS => ?_)
  obtain ⟨M_31, eM_32⟩ : ∃ z : zMap, z = zu M_25 q3 (.inl (G.2.2 0, 81, .inl (fun _ => 0))) := ⟨_, rfl⟩
  replace hM : zM A G M_31 H := by rw [eM_32]; exact hM
  have hn_q0_q3 : q0 ≠ q3 := znf he_28 hq3
  have hn_q1_q3 : q1 ≠ q3 := znf he_29 hq3
  have hn_q2_q3 : q2 ≠ q3 := znf he_30 hq3
  have he_33 : M_31 q3 = some (.inl (G.2.2 0, 81, .inl (fun _ => 0))) := by rw [eM_32]; exact zu_s _ _ _
  have he_34 := (show M_31 m0 = M_25 m0 by rw [eM_32]; exact zu_n (znf he_27 hq3)).trans he_27
  have he_35 := (show M_31 q0 = M_25 q0 by rw [eM_32]; exact zu_n (znf he_28 hq3)).trans he_28
  have he_36 := (show M_31 q1 = M_25 q1 by rw [eM_32]; exact zu_n (znf he_29 hq3)).trans he_29
  have he_37 := (show M_31 q2 = M_25 q2 by rw [eM_32]; exact zu_n (znf he_30 hq3)).trans he_30
  refine z_putF S kX3 hK hM hS he_34 5 (by decide) kw_225 rfl hnm rfl rfl rfl (Nat.le_of_ble_eq_true rfl) dX3_init_33 (fun H locs hM hS => ?_)
  obtain ⟨M_38, eM_39⟩ : ∃ z : zMap, z = zu M_31 m0 (.inr (3, [.int 0, .int 0, .ref q0, .ref q1, .ref q2, .ref q3, va_rf v4, va_rf v5, va_rf v6, va_rf v7, va_rf v8, va_rf v9, va_rf v10, .int 0, va_rf v11, va_rf v12, va_rf v13, va_rf v14, .long 0])) := ⟨_, rfl⟩
  replace hM : zM A G M_38 H := by rw [eM_39]; exact hM
  have he_40 : M_38 m0 = some (.inr (3, [.int 0, .int 0, .ref q0, .ref q1, .ref q2, .ref q3, va_rf v4, va_rf v5, va_rf v6, va_rf v7, va_rf v8, va_rf v9, va_rf v10, .int 0, va_rf v11, va_rf v12, va_rf v13, va_rf v14, .long 0])) := by rw [eM_39]; exact zu_s _ _ _
  have he_41 := (show M_38 q0 = M_31 q0 by rw [eM_39]; exact zu_n (zne he_35 he_34 (by simp))).trans he_35
  have he_42 := (show M_38 q1 = M_31 q1 by rw [eM_39]; exact zu_n (zne he_36 he_34 (by simp))).trans he_36
  have he_43 := (show M_38 q2 = M_31 q2 by rw [eM_39]; exact zu_n (zne he_37 he_34 (by simp))).trans he_37
  have he_44 := (show M_38 q3 = M_31 q3 by rw [eM_39]; exact zu_n (zne he_33 he_34 (by simp))).trans he_33
  refine lv_aload_n hx hb dX3_init_36 rfl (lv_at hl 0 rfl) ?_
  refine lv_bipush (v := 81) hx hb dX3_init_37 (by decide) ?_
  refine z_newa (atype := .int) (N' := 81) (a0 := (81, .inl (fun _ => 0))) S hK hM hS hA kw_36 rfl 0 rfl (fun C h9 => by cases h9) (fun _ => rfl) (by decide) (by decide) (by decide) (Nat.le_of_ble_eq_true rfl) (Nat.le_of_ble_eq_true rfl) dX3_init_39 (fun q4 H hq4 hAq4 hM hS => ?_)
  obtain ⟨M_45, eM_46⟩ : ∃ z : zMap, z = zu M_38 q4 (.inl (G.2.2 0, 81, .inl (fun _ => 0))) := ⟨_, rfl⟩
  replace hM : zM A G M_45 H := by rw [eM_46]; exact hM
  have hn_q0_q4 : q0 ≠ q4 := znf he_41 hq4
  have hn_q1_q4 : q1 ≠ q4 := znf he_42 hq4
  have hn_q2_q4 : q2 ≠ q4 := znf he_43 hq4
  have hn_q3_q4 : q3 ≠ q4 := znf he_44 hq4
  have he_47 : M_45 q4 = some (.inl (G.2.2 0, 81, .inl (fun _ => 0))) := by rw [eM_46]; exact zu_s _ _ _
  have he_48 := (show M_45 m0 = M_38 m0 by rw [eM_46]; exact zu_n (znf he_40 hq4)).trans he_40
  have he_49 := (show M_45 q0 = M_38 q0 by rw [eM_46]; exact zu_n (znf he_41 hq4)).trans he_41
  have he_50 := (show M_45 q1 = M_38 q1 by rw [eM_46]; exact zu_n (znf he_42 hq4)).trans he_42
  have he_51 := (show M_45 q2 = M_38 q2 by rw [eM_46]; exact zu_n (znf he_43 hq4)).trans he_43
  have he_52 := (show M_45 q3 = M_38 q3 by rw [eM_46]; exact zu_n (znf he_44 hq4)).trans he_44
  refine z_putF S kX3 hK hM hS he_48 6 (by decide) kw_226 rfl hnm rfl rfl rfl (Nat.le_of_ble_eq_true rfl) dX3_init_41 (fun H locs hM hS => ?_)
  obtain ⟨M_53, eM_54⟩ : ∃ z : zMap, z = zu M_45 m0 (.inr (3, [.int 0, .int 0, .ref q0, .ref q1, .ref q2, .ref q3, .ref q4, va_rf v5, va_rf v6, va_rf v7, va_rf v8, va_rf v9, va_rf v10, .int 0, va_rf v11, va_rf v12, va_rf v13, va_rf v14, .long 0])) := ⟨_, rfl⟩
  replace hM : zM A G M_53 H := by rw [eM_54]; exact hM
  have he_55 : M_53 m0 = some (.inr (3, [.int 0, .int 0, .ref q0, .ref q1, .ref q2, .ref q3, .ref q4, va_rf v5, va_rf v6, va_rf v7, va_rf v8, va_rf v9, va_rf v10, .int 0, va_rf v11, va_rf v12, va_rf v13, va_rf v14, .long 0])) := by rw [eM_54]; exact zu_s _ _ _
  have he_56 := (show M_53 q0 = M_45 q0 by rw [eM_54]; exact zu_n (zne he_49 he_48 (by simp))).trans he_49
  have he_57 := (show M_53 q1 = M_45 q1 by rw [eM_54]; exact zu_n (zne he_50 he_48 (by simp))).trans he_50
  have he_58 := (show M_53 q2 = M_45 q2 by rw [eM_54]; exact zu_n (zne he_51 he_48 (by simp))).trans he_51
  have he_59 := (show M_53 q3 = M_45 q3 by rw [eM_54]; exact zu_n (zne he_52 he_48 (by simp))).trans he_52
  have he_60 := (show M_53 q4 = M_45 q4 by rw [eM_54]; exact zu_n (zne he_47 he_48 (by simp))).trans he_47
  refine lv_aload_n hx hb dX3_init_44 rfl (lv_at hl 0 rfl) ?_
  refine lv_bipush (v := 81) hx hb dX3_init_45 (by decide) ?_
  refine z_newa (atype := .int) (N' := 81) (a0 := (81, .inl (fun _ => 0))) S hK hM hS hA kw_36 rfl 0 rfl (fun C h9 => by cases h9) (fun _ => rfl) (by decide) (by decide) (by decide) (Nat.le_of_ble_eq_true rfl) (Nat.le_of_ble_eq_true rfl) dX3_init_47 (fun q5 H hq5 hAq5 hM hS => ?_)
  obtain ⟨M_61, eM_62⟩ : ∃ z : zMap, z = zu M_53 q5 (.inl (G.2.2 0, 81, .inl (fun _ => 0))) := ⟨_, rfl⟩
  replace hM : zM A G M_61 H := by rw [eM_62]; exact hM
  have hn_q0_q5 : q0 ≠ q5 := znf he_56 hq5
  have hn_q1_q5 : q1 ≠ q5 := znf he_57 hq5
  have hn_q2_q5 : q2 ≠ q5 := znf he_58 hq5
  have hn_q3_q5 : q3 ≠ q5 := znf he_59 hq5
  have hn_q4_q5 : q4 ≠ q5 := znf he_60 hq5
  have he_63 : M_61 q5 = some (.inl (G.2.2 0, 81, .inl (fun _ => 0))) := by rw [eM_62]; exact zu_s _ _ _
  have he_64 := (show M_61 m0 = M_53 m0 by rw [eM_62]; exact zu_n (znf he_55 hq5)).trans he_55
  have he_65 := (show M_61 q0 = M_53 q0 by rw [eM_62]; exact zu_n (znf he_56 hq5)).trans he_56
  have he_66 := (show M_61 q1 = M_53 q1 by rw [eM_62]; exact zu_n (znf he_57 hq5)).trans he_57
  have he_67 := (show M_61 q2 = M_53 q2 by rw [eM_62]; exact zu_n (znf he_58 hq5)).trans he_58
  have he_68 := (show M_61 q3 = M_53 q3 by rw [eM_62]; exact zu_n (znf he_59 hq5)).trans he_59
  have he_69 := (show M_61 q4 = M_53 q4 by rw [eM_62]; exact zu_n (znf he_60 hq5)).trans he_60
  refine z_putF S kX3 hK hM hS he_64 7 (by decide) kw_227 rfl hnm rfl rfl rfl (Nat.le_of_ble_eq_true rfl) dX3_init_49 (fun H locs hM hS => ?_)
  obtain ⟨M_70, eM_71⟩ : ∃ z : zMap, z = zu M_61 m0 (.inr (3, [.int 0, .int 0, .ref q0, .ref q1, .ref q2, .ref q3, .ref q4, .ref q5, va_rf v6, va_rf v7, va_rf v8, va_rf v9, va_rf v10, .int 0, va_rf v11, va_rf v12, va_rf v13, va_rf v14, .long 0])) := ⟨_, rfl⟩
  replace hM : zM A G M_70 H := by rw [eM_71]; exact hM
  have he_72 : M_70 m0 = some (.inr (3, [.int 0, .int 0, .ref q0, .ref q1, .ref q2, .ref q3, .ref q4, .ref q5, va_rf v6, va_rf v7, va_rf v8, va_rf v9, va_rf v10, .int 0, va_rf v11, va_rf v12, va_rf v13, va_rf v14, .long 0])) := by rw [eM_71]; exact zu_s _ _ _
  have he_73 := (show M_70 q0 = M_61 q0 by rw [eM_71]; exact zu_n (zne he_65 he_64 (by simp))).trans he_65
  have he_74 := (show M_70 q1 = M_61 q1 by rw [eM_71]; exact zu_n (zne he_66 he_64 (by simp))).trans he_66
  have he_75 := (show M_70 q2 = M_61 q2 by rw [eM_71]; exact zu_n (zne he_67 he_64 (by simp))).trans he_67
  have he_76 := (show M_70 q3 = M_61 q3 by rw [eM_71]; exact zu_n (zne he_68 he_64 (by simp))).trans he_68
  have he_77 := (show M_70 q4 = M_61 q4 by rw [eM_71]; exact zu_n (zne he_69 he_64 (by simp))).trans he_69
  have he_78 := (show M_70 q5 = M_61 q5 by rw [eM_71]; exact zu_n (zne he_63 he_64 (by simp))).trans he_63
  refine lv_aload_n hx hb dX3_init_52 rfl (lv_at hl 0 rfl) ?_
  refine lv_bipush (v := 81) hx hb dX3_init_53 (by decide) ?_
  refine z_newa (atype := .boolean) (N' := 81) (a0 := (81, .inl (fun _ => 0))) S hK hM hS hA kw_35 rfl 1 rfl (fun C h9 => by cases h9) (fun _ => rfl) (by decide) (by decide) (by decide) (Nat.le_of_ble_eq_true rfl) (Nat.le_of_ble_eq_true rfl) dX3_init_55 (fun q6 H hq6 hAq6 hM hS => ?_)
  obtain ⟨M_79, eM_80⟩ : ∃ z : zMap, z = zu M_70 q6 (.inl (G.2.2 1, 81, .inl (fun _ => 0))) := ⟨_, rfl⟩
  replace hM : zM A G M_79 H := by rw [eM_80]; exact hM
  have hn_q0_q6 : q0 ≠ q6 := znf he_73 hq6
  have hn_q1_q6 : q1 ≠ q6 := znf he_74 hq6
  have hn_q2_q6 : q2 ≠ q6 := znf he_75 hq6
  have hn_q3_q6 : q3 ≠ q6 := znf he_76 hq6
  have hn_q4_q6 : q4 ≠ q6 := znf he_77 hq6
  have hn_q5_q6 : q5 ≠ q6 := znf he_78 hq6
  have he_81 : M_79 q6 = some (.inl (G.2.2 1, 81, .inl (fun _ => 0))) := by rw [eM_80]; exact zu_s _ _ _
  have he_82 := (show M_79 m0 = M_70 m0 by rw [eM_80]; exact zu_n (znf he_72 hq6)).trans he_72
  have he_83 := (show M_79 q0 = M_70 q0 by rw [eM_80]; exact zu_n (znf he_73 hq6)).trans he_73
  have he_84 := (show M_79 q1 = M_70 q1 by rw [eM_80]; exact zu_n (znf he_74 hq6)).trans he_74
  have he_85 := (show M_79 q2 = M_70 q2 by rw [eM_80]; exact zu_n (znf he_75 hq6)).trans he_75
  have he_86 := (show M_79 q3 = M_70 q3 by rw [eM_80]; exact zu_n (znf he_76 hq6)).trans he_76
  have he_87 := (show M_79 q4 = M_70 q4 by rw [eM_80]; exact zu_n (znf he_77 hq6)).trans he_77
  have he_88 := (show M_79 q5 = M_70 q5 by rw [eM_80]; exact zu_n (znf he_78 hq6)).trans he_78
  refine z_putF S kX3 hK hM hS he_82 8 (by decide) kw_228 rfl hnm rfl rfl rfl (Nat.le_of_ble_eq_true rfl) dX3_init_57 (fun H locs hM hS => ?_)
  obtain ⟨M_89, eM_90⟩ : ∃ z : zMap, z = zu M_79 m0 (.inr (3, [.int 0, .int 0, .ref q0, .ref q1, .ref q2, .ref q3, .ref q4, .ref q5, .ref q6, va_rf v7, va_rf v8, va_rf v9, va_rf v10, .int 0, va_rf v11, va_rf v12, va_rf v13, va_rf v14, .long 0])) := ⟨_, rfl⟩
  replace hM : zM A G M_89 H := by rw [eM_90]; exact hM
  have he_91 : M_89 m0 = some (.inr (3, [.int 0, .int 0, .ref q0, .ref q1, .ref q2, .ref q3, .ref q4, .ref q5, .ref q6, va_rf v7, va_rf v8, va_rf v9, va_rf v10, .int 0, va_rf v11, va_rf v12, va_rf v13, va_rf v14, .long 0])) := by rw [eM_90]; exact zu_s _ _ _
  have he_92 := (show M_89 q0 = M_79 q0 by rw [eM_90]; exact zu_n (zne he_83 he_82 (by simp))).trans he_83
  have he_93 := (show M_89 q1 = M_79 q1 by rw [eM_90]; exact zu_n (zne he_84 he_82 (by simp))).trans he_84
  have he_94 := (show M_89 q2 = M_79 q2 by rw [eM_90]; exact zu_n (zne he_85 he_82 (by simp))).trans he_85
  have he_95 := (show M_89 q3 = M_79 q3 by rw [eM_90]; exact zu_n (zne he_86 he_82 (by simp))).trans he_86
  have he_96 := (show M_89 q4 = M_79 q4 by rw [eM_90]; exact zu_n (zne he_87 he_82 (by simp))).trans he_87
  have he_97 := (show M_89 q5 = M_79 q5 by rw [eM_90]; exact zu_n (zne he_88 he_82 (by simp))).trans he_88
  have he_98 := (show M_89 q6 = M_79 q6 by rw [eM_90]; exact zu_n (zne he_81 he_82 (by simp))).trans he_81
  refine lv_aload_n hx hb dX3_init_60 rfl (lv_at hl 0 rfl) ?_
  refine lv_bipush (v := 81) hx hb dX3_init_61 (by decide) ?_
  refine z_newa (atype := .int) (N' := 81) (a0 := (81, .inl (fun _ => 0))) S hK hM hS hA kw_36 rfl 0 rfl (fun C h9 => by cases h9) (fun _ => rfl) (by decide) (by decide) (by decide) (Nat.le_of_ble_eq_true rfl) (Nat.le_of_ble_eq_true rfl) dX3_init_63 (fun q7 H hq7 hAq7 hM hS => ?_)
  obtain ⟨M_99, eM_100⟩ : ∃ z : zMap, z = zu M_89 q7 (.inl (G.2.2 0, 81, .inl (fun _ => 0))) := ⟨_, rfl⟩
  replace hM : zM A G M_99 H := by rw [eM_100]; exact hM
  have hn_q0_q7 : q0 ≠ q7 := znf he_92 hq7
  have hn_q1_q7 : q1 ≠ q7 := znf he_93 hq7
  have hn_q2_q7 : q2 ≠ q7 := znf he_94 hq7
  have hn_q3_q7 : q3 ≠ q7 := znf he_95 hq7
  have hn_q4_q7 : q4 ≠ q7 := znf he_96 hq7
  have hn_q5_q7 : q5 ≠ q7 := znf he_97 hq7
  have hn_q6_q7 : q6 ≠ q7 := znf he_98 hq7
  have he_101 : M_99 q7 = some (.inl (G.2.2 0, 81, .inl (fun _ => 0))) := by rw [eM_100]; exact zu_s _ _ _
  have he_102 := (show M_99 m0 = M_89 m0 by rw [eM_100]; exact zu_n (znf he_91 hq7)).trans he_91
  have he_103 := (show M_99 q0 = M_89 q0 by rw [eM_100]; exact zu_n (znf he_92 hq7)).trans he_92
  have he_104 := (show M_99 q1 = M_89 q1 by rw [eM_100]; exact zu_n (znf he_93 hq7)).trans he_93
  have he_105 := (show M_99 q2 = M_89 q2 by rw [eM_100]; exact zu_n (znf he_94 hq7)).trans he_94
  have he_106 := (show M_99 q3 = M_89 q3 by rw [eM_100]; exact zu_n (znf he_95 hq7)).trans he_95
  have he_107 := (show M_99 q4 = M_89 q4 by rw [eM_100]; exact zu_n (znf he_96 hq7)).trans he_96
  have he_108 := (show M_99 q5 = M_89 q5 by rw [eM_100]; exact zu_n (znf he_97 hq7)).trans he_97
  have he_109 := (show M_99 q6 = M_89 q6 by rw [eM_100]; exact zu_n (znf he_98 hq7)).trans he_98
  refine z_putF S kX3 hK hM hS he_102 9 (by decide) kw_229 rfl hnm rfl rfl rfl (Nat.le_of_ble_eq_true rfl) dX3_init_65 (fun H locs hM hS => ?_)
  obtain ⟨M_110, eM_111⟩ : ∃ z : zMap, z = zu M_99 m0 (.inr (3, [.int 0, .int 0, .ref q0, .ref q1, .ref q2, .ref q3, .ref q4, .ref q5, .ref q6, .ref q7, va_rf v8, va_rf v9, va_rf v10, .int 0, va_rf v11, va_rf v12, va_rf v13, va_rf v14, .long 0])) := ⟨_, rfl⟩
  replace hM : zM A G M_110 H := by rw [eM_111]; exact hM
  have he_112 : M_110 m0 = some (.inr (3, [.int 0, .int 0, .ref q0, .ref q1, .ref q2, .ref q3, .ref q4, .ref q5, .ref q6, .ref q7, va_rf v8, va_rf v9, va_rf v10, .int 0, va_rf v11, va_rf v12, va_rf v13, va_rf v14, .long 0])) := by rw [eM_111]; exact zu_s _ _ _
  have he_113 := (show M_110 q0 = M_99 q0 by rw [eM_111]; exact zu_n (zne he_103 he_102 (by simp))).trans he_103
  have he_114 := (show M_110 q1 = M_99 q1 by rw [eM_111]; exact zu_n (zne he_104 he_102 (by simp))).trans he_104
  have he_115 := (show M_110 q2 = M_99 q2 by rw [eM_111]; exact zu_n (zne he_105 he_102 (by simp))).trans he_105
  have he_116 := (show M_110 q3 = M_99 q3 by rw [eM_111]; exact zu_n (zne he_106 he_102 (by simp))).trans he_106
  have he_117 := (show M_110 q4 = M_99 q4 by rw [eM_111]; exact zu_n (zne he_107 he_102 (by simp))).trans he_107
  have he_118 := (show M_110 q5 = M_99 q5 by rw [eM_111]; exact zu_n (zne he_108 he_102 (by simp))).trans he_108
  have he_119 := (show M_110 q6 = M_99 q6 by rw [eM_111]; exact zu_n (zne he_109 he_102 (by simp))).trans he_109
  have he_120 := (show M_110 q7 = M_99 q7 by rw [eM_111]; exact zu_n (zne he_101 he_102 (by simp))).trans he_101
  refine lv_aload_n hx hb dX3_init_68 rfl (lv_at hl 0 rfl) ?_
  refine lv_bipush (v := 81) hx hb dX3_init_69 (by decide) ?_
  refine z_newa (atype := .int) (N' := 81) (a0 := (81, .inl (fun _ => 0))) S hK hM hS hA kw_36 rfl 0 rfl (fun C h9 => by cases h9) (fun _ => rfl) (by decide) (by decide) (by decide) (Nat.le_of_ble_eq_true rfl) (Nat.le_of_ble_eq_true rfl) dX3_init_71 (fun q8 H hq8 hAq8 hM hS => ?_)
  obtain ⟨M_121, eM_122⟩ : ∃ z : zMap, z = zu M_110 q8 (.inl (G.2.2 0, 81, .inl (fun _ => 0))) := ⟨_, rfl⟩
  replace hM : zM A G M_121 H := by rw [eM_122]; exact hM
  have hn_q0_q8 : q0 ≠ q8 := znf he_113 hq8
  have hn_q1_q8 : q1 ≠ q8 := znf he_114 hq8
  have hn_q2_q8 : q2 ≠ q8 := znf he_115 hq8
  have hn_q3_q8 : q3 ≠ q8 := znf he_116 hq8
  have hn_q4_q8 : q4 ≠ q8 := znf he_117 hq8
  have hn_q5_q8 : q5 ≠ q8 := znf he_118 hq8
  have hn_q6_q8 : q6 ≠ q8 := znf he_119 hq8
  have hn_q7_q8 : q7 ≠ q8 := znf he_120 hq8
  have he_123 : M_121 q8 = some (.inl (G.2.2 0, 81, .inl (fun _ => 0))) := by rw [eM_122]; exact zu_s _ _ _
  have he_124 := (show M_121 m0 = M_110 m0 by rw [eM_122]; exact zu_n (znf he_112 hq8)).trans he_112
  have he_125 := (show M_121 q0 = M_110 q0 by rw [eM_122]; exact zu_n (znf he_113 hq8)).trans he_113
  have he_126 := (show M_121 q1 = M_110 q1 by rw [eM_122]; exact zu_n (znf he_114 hq8)).trans he_114
  have he_127 := (show M_121 q2 = M_110 q2 by rw [eM_122]; exact zu_n (znf he_115 hq8)).trans he_115
  have he_128 := (show M_121 q3 = M_110 q3 by rw [eM_122]; exact zu_n (znf he_116 hq8)).trans he_116
  have he_129 := (show M_121 q4 = M_110 q4 by rw [eM_122]; exact zu_n (znf he_117 hq8)).trans he_117
  have he_130 := (show M_121 q5 = M_110 q5 by rw [eM_122]; exact zu_n (znf he_118 hq8)).trans he_118
  have he_131 := (show M_121 q6 = M_110 q6 by rw [eM_122]; exact zu_n (znf he_119 hq8)).trans he_119
  have he_132 := (show M_121 q7 = M_110 q7 by rw [eM_122]; exact zu_n (znf he_120 hq8)).trans he_120
  refine z_putF S kX3 hK hM hS he_124 10 (by decide) kw_230 rfl hnm rfl rfl rfl (Nat.le_of_ble_eq_true rfl) dX3_init_73 (fun H locs hM hS => ?_)
  obtain ⟨M_133, eM_134⟩ : ∃ z : zMap, z = zu M_121 m0 (.inr (3, [.int 0, .int 0, .ref q0, .ref q1, .ref q2, .ref q3, .ref q4, .ref q5, .ref q6, .ref q7, .ref q8, va_rf v9, va_rf v10, .int 0, va_rf v11, va_rf v12, va_rf v13, va_rf v14, .long 0])) := ⟨_, rfl⟩
  replace hM : zM A G M_133 H := by rw [eM_134]; exact hM
  have he_135 : M_133 m0 = some (.inr (3, [.int 0, .int 0, .ref q0, .ref q1, .ref q2, .ref q3, .ref q4, .ref q5, .ref q6, .ref q7, .ref q8, va_rf v9, va_rf v10, .int 0, va_rf v11, va_rf v12, va_rf v13, va_rf v14, .long 0])) := by rw [eM_134]; exact zu_s _ _ _
  have he_136 := (show M_133 q0 = M_121 q0 by rw [eM_134]; exact zu_n (zne he_125 he_124 (by simp))).trans he_125
  have he_137 := (show M_133 q1 = M_121 q1 by rw [eM_134]; exact zu_n (zne he_126 he_124 (by simp))).trans he_126
  have he_138 := (show M_133 q2 = M_121 q2 by rw [eM_134]; exact zu_n (zne he_127 he_124 (by simp))).trans he_127
  have he_139 := (show M_133 q3 = M_121 q3 by rw [eM_134]; exact zu_n (zne he_128 he_124 (by simp))).trans he_128
  have he_140 := (show M_133 q4 = M_121 q4 by rw [eM_134]; exact zu_n (zne he_129 he_124 (by simp))).trans he_129
  have he_141 := (show M_133 q5 = M_121 q5 by rw [eM_134]; exact zu_n (zne he_130 he_124 (by simp))).trans he_130
  have he_142 := (show M_133 q6 = M_121 q6 by rw [eM_134]; exact zu_n (zne he_131 he_124 (by simp))).trans he_131
  have he_143 := (show M_133 q7 = M_121 q7 by rw [eM_134]; exact zu_n (zne he_132 he_124 (by simp))).trans he_132
  have he_144 := (show M_133 q8 = M_121 q8 by rw [eM_134]; exact zu_n (zne he_123 he_124 (by simp))).trans he_123
  refine lv_aload_n hx hb dX3_init_76 rfl (lv_at hl 0 rfl) ?_
  refine lv_bipush (v := 60) hx hb dX3_init_77 (by decide) ?_
  refine z_newa (atype := .boolean) (N' := 60) (a0 := (60, .inl (fun _ => 0))) S hK hM hS hA kw_35 rfl 1 rfl (fun C h9 => by cases h9) (fun _ => rfl) (by decide) (by decide) (by decide) (Nat.le_of_ble_eq_true rfl) (Nat.le_of_ble_eq_true rfl) dX3_init_79 (fun q9 H hq9 hAq9 hM hS => ?_)
  obtain ⟨M_145, eM_146⟩ : ∃ z : zMap, z = zu M_133 q9 (.inl (G.2.2 1, 60, .inl (fun _ => 0))) := ⟨_, rfl⟩
  replace hM : zM A G M_145 H := by rw [eM_146]; exact hM
  have hn_q0_q9 : q0 ≠ q9 := znf he_136 hq9
  have hn_q1_q9 : q1 ≠ q9 := znf he_137 hq9
  have hn_q2_q9 : q2 ≠ q9 := znf he_138 hq9
  have hn_q3_q9 : q3 ≠ q9 := znf he_139 hq9
  have hn_q4_q9 : q4 ≠ q9 := znf he_140 hq9
  have hn_q5_q9 : q5 ≠ q9 := znf he_141 hq9
  have hn_q6_q9 : q6 ≠ q9 := znf he_142 hq9
  have hn_q7_q9 : q7 ≠ q9 := znf he_143 hq9
  have hn_q8_q9 : q8 ≠ q9 := znf he_144 hq9
  have he_147 : M_145 q9 = some (.inl (G.2.2 1, 60, .inl (fun _ => 0))) := by rw [eM_146]; exact zu_s _ _ _
  have he_148 := (show M_145 m0 = M_133 m0 by rw [eM_146]; exact zu_n (znf he_135 hq9)).trans he_135
  have he_149 := (show M_145 q0 = M_133 q0 by rw [eM_146]; exact zu_n (znf he_136 hq9)).trans he_136
  have he_150 := (show M_145 q1 = M_133 q1 by rw [eM_146]; exact zu_n (znf he_137 hq9)).trans he_137
  have he_151 := (show M_145 q2 = M_133 q2 by rw [eM_146]; exact zu_n (znf he_138 hq9)).trans he_138
  have he_152 := (show M_145 q3 = M_133 q3 by rw [eM_146]; exact zu_n (znf he_139 hq9)).trans he_139
  have he_153 := (show M_145 q4 = M_133 q4 by rw [eM_146]; exact zu_n (znf he_140 hq9)).trans he_140
  have he_154 := (show M_145 q5 = M_133 q5 by rw [eM_146]; exact zu_n (znf he_141 hq9)).trans he_141
  have he_155 := (show M_145 q6 = M_133 q6 by rw [eM_146]; exact zu_n (znf he_142 hq9)).trans he_142
  have he_156 := (show M_145 q7 = M_133 q7 by rw [eM_146]; exact zu_n (znf he_143 hq9)).trans he_143
  have he_157 := (show M_145 q8 = M_133 q8 by rw [eM_146]; exact zu_n (znf he_144 hq9)).trans he_144
  refine z_putF S kX3 hK hM hS he_148 11 (by decide) kw_231 rfl hnm rfl rfl rfl (Nat.le_of_ble_eq_true rfl) dX3_init_81 (fun H locs hM hS => ?_)
  obtain ⟨M_158, eM_159⟩ : ∃ z : zMap, z = zu M_145 m0 (.inr (3, [.int 0, .int 0, .ref q0, .ref q1, .ref q2, .ref q3, .ref q4, .ref q5, .ref q6, .ref q7, .ref q8, .ref q9, va_rf v10, .int 0, va_rf v11, va_rf v12, va_rf v13, va_rf v14, .long 0])) := ⟨_, rfl⟩
  replace hM : zM A G M_158 H := by rw [eM_159]; exact hM
  have he_160 : M_158 m0 = some (.inr (3, [.int 0, .int 0, .ref q0, .ref q1, .ref q2, .ref q3, .ref q4, .ref q5, .ref q6, .ref q7, .ref q8, .ref q9, va_rf v10, .int 0, va_rf v11, va_rf v12, va_rf v13, va_rf v14, .long 0])) := by rw [eM_159]; exact zu_s _ _ _
  have he_161 := (show M_158 q0 = M_145 q0 by rw [eM_159]; exact zu_n (zne he_149 he_148 (by simp))).trans he_149
  have he_162 := (show M_158 q1 = M_145 q1 by rw [eM_159]; exact zu_n (zne he_150 he_148 (by simp))).trans he_150
  have he_163 := (show M_158 q2 = M_145 q2 by rw [eM_159]; exact zu_n (zne he_151 he_148 (by simp))).trans he_151
  have he_164 := (show M_158 q3 = M_145 q3 by rw [eM_159]; exact zu_n (zne he_152 he_148 (by simp))).trans he_152
  have he_165 := (show M_158 q4 = M_145 q4 by rw [eM_159]; exact zu_n (zne he_153 he_148 (by simp))).trans he_153
  have he_166 := (show M_158 q5 = M_145 q5 by rw [eM_159]; exact zu_n (zne he_154 he_148 (by simp))).trans he_154
  have he_167 := (show M_158 q6 = M_145 q6 by rw [eM_159]; exact zu_n (zne he_155 he_148 (by simp))).trans he_155
  have he_168 := (show M_158 q7 = M_145 q7 by rw [eM_159]; exact zu_n (zne he_156 he_148 (by simp))).trans he_156
  have he_169 := (show M_158 q8 = M_145 q8 by rw [eM_159]; exact zu_n (zne he_157 he_148 (by simp))).trans he_157
  have he_170 := (show M_158 q9 = M_145 q9 by rw [eM_159]; exact zu_n (zne he_147 he_148 (by simp))).trans he_147
  refine lv_aload_n hx hb dX3_init_84 rfl (lv_at hl 0 rfl) ?_
  refine lv_bipush (v := 6) hx hb dX3_init_85 (by decide) ?_
  refine z_newa (atype := .int) (N' := 6) (a0 := (6, .inl (fun _ => 0))) S hK hM hS hA kw_36 rfl 0 rfl (fun C h9 => by cases h9) (fun _ => rfl) (by decide) (by decide) (by decide) (Nat.le_of_ble_eq_true rfl) (Nat.le_of_ble_eq_true rfl) dX3_init_87 (fun q10 H hq10 hAq10 hM hS => ?_)
  obtain ⟨M_171, eM_172⟩ : ∃ z : zMap, z = zu M_158 q10 (.inl (G.2.2 0, 6, .inl (fun _ => 0))) := ⟨_, rfl⟩
  replace hM : zM A G M_171 H := by rw [eM_172]; exact hM
  have hn_q0_q10 : q0 ≠ q10 := znf he_161 hq10
  have hn_q1_q10 : q1 ≠ q10 := znf he_162 hq10
  have hn_q2_q10 : q2 ≠ q10 := znf he_163 hq10
  have hn_q3_q10 : q3 ≠ q10 := znf he_164 hq10
  have hn_q4_q10 : q4 ≠ q10 := znf he_165 hq10
  have hn_q5_q10 : q5 ≠ q10 := znf he_166 hq10
  have hn_q6_q10 : q6 ≠ q10 := znf he_167 hq10
  have hn_q7_q10 : q7 ≠ q10 := znf he_168 hq10
  have hn_q8_q10 : q8 ≠ q10 := znf he_169 hq10
  have hn_q9_q10 : q9 ≠ q10 := znf he_170 hq10
  have he_173 : M_171 q10 = some (.inl (G.2.2 0, 6, .inl (fun _ => 0))) := by rw [eM_172]; exact zu_s _ _ _
  have he_174 := (show M_171 m0 = M_158 m0 by rw [eM_172]; exact zu_n (znf he_160 hq10)).trans he_160
  have he_175 := (show M_171 q0 = M_158 q0 by rw [eM_172]; exact zu_n (znf he_161 hq10)).trans he_161
  have he_176 := (show M_171 q1 = M_158 q1 by rw [eM_172]; exact zu_n (znf he_162 hq10)).trans he_162
  have he_177 := (show M_171 q2 = M_158 q2 by rw [eM_172]; exact zu_n (znf he_163 hq10)).trans he_163
  have he_178 := (show M_171 q3 = M_158 q3 by rw [eM_172]; exact zu_n (znf he_164 hq10)).trans he_164
  have he_179 := (show M_171 q4 = M_158 q4 by rw [eM_172]; exact zu_n (znf he_165 hq10)).trans he_165
  have he_180 := (show M_171 q5 = M_158 q5 by rw [eM_172]; exact zu_n (znf he_166 hq10)).trans he_166
  have he_181 := (show M_171 q6 = M_158 q6 by rw [eM_172]; exact zu_n (znf he_167 hq10)).trans he_167
  have he_182 := (show M_171 q7 = M_158 q7 by rw [eM_172]; exact zu_n (znf he_168 hq10)).trans he_168
  have he_183 := (show M_171 q8 = M_158 q8 by rw [eM_172]; exact zu_n (znf he_169 hq10)).trans he_169
  have he_184 := (show M_171 q9 = M_158 q9 by rw [eM_172]; exact zu_n (znf he_170 hq10)).trans he_170
  refine z_putF S kX3 hK hM hS he_174 12 (by decide) kw_232 rfl hnm rfl rfl rfl (Nat.le_of_ble_eq_true rfl) dX3_init_89 (fun H locs hM hS => ?_)
  obtain ⟨M_185, eM_186⟩ : ∃ z : zMap, z = zu M_171 m0 (.inr (3, [.int 0, .int 0, .ref q0, .ref q1, .ref q2, .ref q3, .ref q4, .ref q5, .ref q6, .ref q7, .ref q8, .ref q9, .ref q10, .int 0, va_rf v11, va_rf v12, va_rf v13, va_rf v14, .long 0])) := ⟨_, rfl⟩
  replace hM : zM A G M_185 H := by rw [eM_186]; exact hM
  have he_187 : M_185 m0 = some (.inr (3, [.int 0, .int 0, .ref q0, .ref q1, .ref q2, .ref q3, .ref q4, .ref q5, .ref q6, .ref q7, .ref q8, .ref q9, .ref q10, .int 0, va_rf v11, va_rf v12, va_rf v13, va_rf v14, .long 0])) := by rw [eM_186]; exact zu_s _ _ _
  have he_188 := (show M_185 q0 = M_171 q0 by rw [eM_186]; exact zu_n (zne he_175 he_174 (by simp))).trans he_175
  have he_189 := (show M_185 q1 = M_171 q1 by rw [eM_186]; exact zu_n (zne he_176 he_174 (by simp))).trans he_176
  have he_190 := (show M_185 q2 = M_171 q2 by rw [eM_186]; exact zu_n (zne he_177 he_174 (by simp))).trans he_177
  have he_191 := (show M_185 q3 = M_171 q3 by rw [eM_186]; exact zu_n (zne he_178 he_174 (by simp))).trans he_178
  have he_192 := (show M_185 q4 = M_171 q4 by rw [eM_186]; exact zu_n (zne he_179 he_174 (by simp))).trans he_179
  have he_193 := (show M_185 q5 = M_171 q5 by rw [eM_186]; exact zu_n (zne he_180 he_174 (by simp))).trans he_180
  have he_194 := (show M_185 q6 = M_171 q6 by rw [eM_186]; exact zu_n (zne he_181 he_174 (by simp))).trans he_181
  have he_195 := (show M_185 q7 = M_171 q7 by rw [eM_186]; exact zu_n (zne he_182 he_174 (by simp))).trans he_182
  have he_196 := (show M_185 q8 = M_171 q8 by rw [eM_186]; exact zu_n (zne he_183 he_174 (by simp))).trans he_183
  have he_197 := (show M_185 q9 = M_171 q9 by rw [eM_186]; exact zu_n (zne he_184 he_174 (by simp))).trans he_184
  have he_198 := (show M_185 q10 = M_171 q10 by rw [eM_186]; exact zu_n (zne he_173 he_174 (by simp))).trans he_173
  refine lv_aload_n hx hb dX3_init_92 rfl (lv_at hl 0 rfl) ?_
  refine lv_sipush (v := 5000) hx hb dX3_init_93 (by decide) ?_
  refine z_newa (atype := .int) (N' := 5000) (a0 := (5000, .inl (fun _ => 0))) S hK hM hS hA kw_36 rfl 0 rfl (fun C h9 => by cases h9) (fun _ => rfl) (by decide) (by decide) (by decide) (Nat.le_of_ble_eq_true rfl) (Nat.le_of_ble_eq_true rfl) dX3_init_96 (fun q11 H hq11 hAq11 hM hS => ?_)
  obtain ⟨M_199, eM_200⟩ : ∃ z : zMap, z = zu M_185 q11 (.inl (G.2.2 0, 5000, .inl (fun _ => 0))) := ⟨_, rfl⟩
  replace hM : zM A G M_199 H := by rw [eM_200]; exact hM
  have hn_q0_q11 : q0 ≠ q11 := znf he_188 hq11
  have hn_q1_q11 : q1 ≠ q11 := znf he_189 hq11
  have hn_q2_q11 : q2 ≠ q11 := znf he_190 hq11
  have hn_q3_q11 : q3 ≠ q11 := znf he_191 hq11
  have hn_q4_q11 : q4 ≠ q11 := znf he_192 hq11
  have hn_q5_q11 : q5 ≠ q11 := znf he_193 hq11
  have hn_q6_q11 : q6 ≠ q11 := znf he_194 hq11
  have hn_q7_q11 : q7 ≠ q11 := znf he_195 hq11
  have hn_q8_q11 : q8 ≠ q11 := znf he_196 hq11
  have hn_q9_q11 : q9 ≠ q11 := znf he_197 hq11
  have hn_q10_q11 : q10 ≠ q11 := znf he_198 hq11
  have he_201 : M_199 q11 = some (.inl (G.2.2 0, 5000, .inl (fun _ => 0))) := by rw [eM_200]; exact zu_s _ _ _
  have he_202 := (show M_199 m0 = M_185 m0 by rw [eM_200]; exact zu_n (znf he_187 hq11)).trans he_187
  have he_203 := (show M_199 q0 = M_185 q0 by rw [eM_200]; exact zu_n (znf he_188 hq11)).trans he_188
  have he_204 := (show M_199 q1 = M_185 q1 by rw [eM_200]; exact zu_n (znf he_189 hq11)).trans he_189
  have he_205 := (show M_199 q2 = M_185 q2 by rw [eM_200]; exact zu_n (znf he_190 hq11)).trans he_190
  have he_206 := (show M_199 q3 = M_185 q3 by rw [eM_200]; exact zu_n (znf he_191 hq11)).trans he_191
  have he_207 := (show M_199 q4 = M_185 q4 by rw [eM_200]; exact zu_n (znf he_192 hq11)).trans he_192
  have he_208 := (show M_199 q5 = M_185 q5 by rw [eM_200]; exact zu_n (znf he_193 hq11)).trans he_193
  have he_209 := (show M_199 q6 = M_185 q6 by rw [eM_200]; exact zu_n (znf he_194 hq11)).trans he_194
  have he_210 := (show M_199 q7 = M_185 q7 by rw [eM_200]; exact zu_n (znf he_195 hq11)).trans he_195
  have he_211 := (show M_199 q8 = M_185 q8 by rw [eM_200]; exact zu_n (znf he_196 hq11)).trans he_196
  have he_212 := (show M_199 q9 = M_185 q9 by rw [eM_200]; exact zu_n (znf he_197 hq11)).trans he_197
  have he_213 := (show M_199 q10 = M_185 q10 by rw [eM_200]; exact zu_n (znf he_198 hq11)).trans he_198
  refine z_putF S kX3 hK hM hS he_202 14 (by decide) kw_234 rfl hnm rfl rfl rfl (Nat.le_of_ble_eq_true rfl) dX3_init_98 (fun H locs hM hS => ?_)
  obtain ⟨M_214, eM_215⟩ : ∃ z : zMap, z = zu M_199 m0 (.inr (3, [.int 0, .int 0, .ref q0, .ref q1, .ref q2, .ref q3, .ref q4, .ref q5, .ref q6, .ref q7, .ref q8, .ref q9, .ref q10, .int 0, .ref q11, va_rf v12, va_rf v13, va_rf v14, .long 0])) := ⟨_, rfl⟩
  replace hM : zM A G M_214 H := by rw [eM_215]; exact hM
  have he_216 : M_214 m0 = some (.inr (3, [.int 0, .int 0, .ref q0, .ref q1, .ref q2, .ref q3, .ref q4, .ref q5, .ref q6, .ref q7, .ref q8, .ref q9, .ref q10, .int 0, .ref q11, va_rf v12, va_rf v13, va_rf v14, .long 0])) := by rw [eM_215]; exact zu_s _ _ _
  have he_217 := (show M_214 q0 = M_199 q0 by rw [eM_215]; exact zu_n (zne he_203 he_202 (by simp))).trans he_203
  have he_218 := (show M_214 q1 = M_199 q1 by rw [eM_215]; exact zu_n (zne he_204 he_202 (by simp))).trans he_204
  have he_219 := (show M_214 q2 = M_199 q2 by rw [eM_215]; exact zu_n (zne he_205 he_202 (by simp))).trans he_205
  have he_220 := (show M_214 q3 = M_199 q3 by rw [eM_215]; exact zu_n (zne he_206 he_202 (by simp))).trans he_206
  have he_221 := (show M_214 q4 = M_199 q4 by rw [eM_215]; exact zu_n (zne he_207 he_202 (by simp))).trans he_207
  have he_222 := (show M_214 q5 = M_199 q5 by rw [eM_215]; exact zu_n (zne he_208 he_202 (by simp))).trans he_208
  have he_223 := (show M_214 q6 = M_199 q6 by rw [eM_215]; exact zu_n (zne he_209 he_202 (by simp))).trans he_209
  have he_224 := (show M_214 q7 = M_199 q7 by rw [eM_215]; exact zu_n (zne he_210 he_202 (by simp))).trans he_210
  have he_225 := (show M_214 q8 = M_199 q8 by rw [eM_215]; exact zu_n (zne he_211 he_202 (by simp))).trans he_211
  have he_226 := (show M_214 q9 = M_199 q9 by rw [eM_215]; exact zu_n (zne he_212 he_202 (by simp))).trans he_212
  have he_227 := (show M_214 q10 = M_199 q10 by rw [eM_215]; exact zu_n (zne he_213 he_202 (by simp))).trans he_213
  have he_228 := (show M_214 q11 = M_199 q11 by rw [eM_215]; exact zu_n (zne he_201 he_202 (by simp))).trans he_201
  refine lv_aload_n hx hb dX3_init_101 rfl (lv_at hl 0 rfl) ?_
  refine lv_sipush (v := 5000) hx hb dX3_init_102 (by decide) ?_
  refine z_newa (atype := .int) (N' := 5000) (a0 := (5000, .inl (fun _ => 0))) S hK hM hS hA kw_36 rfl 0 rfl (fun C h9 => by cases h9) (fun _ => rfl) (by decide) (by decide) (by decide) (Nat.le_of_ble_eq_true rfl) (Nat.le_of_ble_eq_true rfl) dX3_init_105 (fun q12 H hq12 hAq12 hM hS => ?_)
  obtain ⟨M_229, eM_230⟩ : ∃ z : zMap, z = zu M_214 q12 (.inl (G.2.2 0, 5000, .inl (fun _ => 0))) := ⟨_, rfl⟩
  replace hM : zM A G M_229 H := by rw [eM_230]; exact hM
  have hn_q0_q12 : q0 ≠ q12 := znf he_217 hq12
  have hn_q1_q12 : q1 ≠ q12 := znf he_218 hq12
  have hn_q2_q12 : q2 ≠ q12 := znf he_219 hq12
  have hn_q3_q12 : q3 ≠ q12 := znf he_220 hq12
  have hn_q4_q12 : q4 ≠ q12 := znf he_221 hq12
  have hn_q5_q12 : q5 ≠ q12 := znf he_222 hq12
  have hn_q6_q12 : q6 ≠ q12 := znf he_223 hq12
  have hn_q7_q12 : q7 ≠ q12 := znf he_224 hq12
  have hn_q8_q12 : q8 ≠ q12 := znf he_225 hq12
  have hn_q9_q12 : q9 ≠ q12 := znf he_226 hq12
  have hn_q10_q12 : q10 ≠ q12 := znf he_227 hq12
  have hn_q11_q12 : q11 ≠ q12 := znf he_228 hq12
  have he_231 : M_229 q12 = some (.inl (G.2.2 0, 5000, .inl (fun _ => 0))) := by rw [eM_230]; exact zu_s _ _ _
  have he_232 := (show M_229 m0 = M_214 m0 by rw [eM_230]; exact zu_n (znf he_216 hq12)).trans he_216
  have he_233 := (show M_229 q0 = M_214 q0 by rw [eM_230]; exact zu_n (znf he_217 hq12)).trans he_217
  have he_234 := (show M_229 q1 = M_214 q1 by rw [eM_230]; exact zu_n (znf he_218 hq12)).trans he_218
  have he_235 := (show M_229 q2 = M_214 q2 by rw [eM_230]; exact zu_n (znf he_219 hq12)).trans he_219
  have he_236 := (show M_229 q3 = M_214 q3 by rw [eM_230]; exact zu_n (znf he_220 hq12)).trans he_220
  have he_237 := (show M_229 q4 = M_214 q4 by rw [eM_230]; exact zu_n (znf he_221 hq12)).trans he_221
  have he_238 := (show M_229 q5 = M_214 q5 by rw [eM_230]; exact zu_n (znf he_222 hq12)).trans he_222
  have he_239 := (show M_229 q6 = M_214 q6 by rw [eM_230]; exact zu_n (znf he_223 hq12)).trans he_223
  have he_240 := (show M_229 q7 = M_214 q7 by rw [eM_230]; exact zu_n (znf he_224 hq12)).trans he_224
  have he_241 := (show M_229 q8 = M_214 q8 by rw [eM_230]; exact zu_n (znf he_225 hq12)).trans he_225
  have he_242 := (show M_229 q9 = M_214 q9 by rw [eM_230]; exact zu_n (znf he_226 hq12)).trans he_226
  have he_243 := (show M_229 q10 = M_214 q10 by rw [eM_230]; exact zu_n (znf he_227 hq12)).trans he_227
  have he_244 := (show M_229 q11 = M_214 q11 by rw [eM_230]; exact zu_n (znf he_228 hq12)).trans he_228
  refine z_putF S kX3 hK hM hS he_232 15 (by decide) kw_235 rfl hnm rfl rfl rfl (Nat.le_of_ble_eq_true rfl) dX3_init_107 (fun H locs hM hS => ?_)
  obtain ⟨M_245, eM_246⟩ : ∃ z : zMap, z = zu M_229 m0 (.inr (3, [.int 0, .int 0, .ref q0, .ref q1, .ref q2, .ref q3, .ref q4, .ref q5, .ref q6, .ref q7, .ref q8, .ref q9, .ref q10, .int 0, .ref q11, .ref q12, va_rf v13, va_rf v14, .long 0])) := ⟨_, rfl⟩
  replace hM : zM A G M_245 H := by rw [eM_246]; exact hM
  have he_247 : M_245 m0 = some (.inr (3, [.int 0, .int 0, .ref q0, .ref q1, .ref q2, .ref q3, .ref q4, .ref q5, .ref q6, .ref q7, .ref q8, .ref q9, .ref q10, .int 0, .ref q11, .ref q12, va_rf v13, va_rf v14, .long 0])) := by rw [eM_246]; exact zu_s _ _ _
  have he_248 := (show M_245 q0 = M_229 q0 by rw [eM_246]; exact zu_n (zne he_233 he_232 (by simp))).trans he_233
  have he_249 := (show M_245 q1 = M_229 q1 by rw [eM_246]; exact zu_n (zne he_234 he_232 (by simp))).trans he_234
  have he_250 := (show M_245 q2 = M_229 q2 by rw [eM_246]; exact zu_n (zne he_235 he_232 (by simp))).trans he_235
  have he_251 := (show M_245 q3 = M_229 q3 by rw [eM_246]; exact zu_n (zne he_236 he_232 (by simp))).trans he_236
  have he_252 := (show M_245 q4 = M_229 q4 by rw [eM_246]; exact zu_n (zne he_237 he_232 (by simp))).trans he_237
  have he_253 := (show M_245 q5 = M_229 q5 by rw [eM_246]; exact zu_n (zne he_238 he_232 (by simp))).trans he_238
  have he_254 := (show M_245 q6 = M_229 q6 by rw [eM_246]; exact zu_n (zne he_239 he_232 (by simp))).trans he_239
  have he_255 := (show M_245 q7 = M_229 q7 by rw [eM_246]; exact zu_n (zne he_240 he_232 (by simp))).trans he_240
  have he_256 := (show M_245 q8 = M_229 q8 by rw [eM_246]; exact zu_n (zne he_241 he_232 (by simp))).trans he_241
  have he_257 := (show M_245 q9 = M_229 q9 by rw [eM_246]; exact zu_n (zne he_242 he_232 (by simp))).trans he_242
  have he_258 := (show M_245 q10 = M_229 q10 by rw [eM_246]; exact zu_n (zne he_243 he_232 (by simp))).trans he_243
  have he_259 := (show M_245 q11 = M_229 q11 by rw [eM_246]; exact zu_n (zne he_244 he_232 (by simp))).trans he_244
  have he_260 := (show M_245 q12 = M_229 q12 by rw [eM_246]; exact zu_n (zne he_231 he_232 (by simp))).trans he_231
  refine lv_aload_n hx hb dX3_init_110 rfl (lv_at hl 0 rfl) ?_
  refine lv_sipush (v := 5000) hx hb dX3_init_111 (by decide) ?_
  refine z_newa (atype := .boolean) (N' := 5000) (a0 := (5000, .inl (fun _ => 0))) S hK hM hS hA kw_35 rfl 1 rfl (fun C h9 => by cases h9) (fun _ => rfl) (by decide) (by decide) (by decide) (Nat.le_of_ble_eq_true rfl) (Nat.le_of_ble_eq_true rfl) dX3_init_114 (fun q13 H hq13 hAq13 hM hS => ?_)
  obtain ⟨M_261, eM_262⟩ : ∃ z : zMap, z = zu M_245 q13 (.inl (G.2.2 1, 5000, .inl (fun _ => 0))) := ⟨_, rfl⟩
  replace hM : zM A G M_261 H := by rw [eM_262]; exact hM
  have hn_q0_q13 : q0 ≠ q13 := znf he_248 hq13
  have hn_q1_q13 : q1 ≠ q13 := znf he_249 hq13
  have hn_q2_q13 : q2 ≠ q13 := znf he_250 hq13
  have hn_q3_q13 : q3 ≠ q13 := znf he_251 hq13
  have hn_q4_q13 : q4 ≠ q13 := znf he_252 hq13
  have hn_q5_q13 : q5 ≠ q13 := znf he_253 hq13
  have hn_q6_q13 : q6 ≠ q13 := znf he_254 hq13
  have hn_q7_q13 : q7 ≠ q13 := znf he_255 hq13
  have hn_q8_q13 : q8 ≠ q13 := znf he_256 hq13
  have hn_q9_q13 : q9 ≠ q13 := znf he_257 hq13
  have hn_q10_q13 : q10 ≠ q13 := znf he_258 hq13
  have hn_q11_q13 : q11 ≠ q13 := znf he_259 hq13
  have hn_q12_q13 : q12 ≠ q13 := znf he_260 hq13
  have he_263 : M_261 q13 = some (.inl (G.2.2 1, 5000, .inl (fun _ => 0))) := by rw [eM_262]; exact zu_s _ _ _
  have he_264 := (show M_261 m0 = M_245 m0 by rw [eM_262]; exact zu_n (znf he_247 hq13)).trans he_247
  have he_265 := (show M_261 q0 = M_245 q0 by rw [eM_262]; exact zu_n (znf he_248 hq13)).trans he_248
  have he_266 := (show M_261 q1 = M_245 q1 by rw [eM_262]; exact zu_n (znf he_249 hq13)).trans he_249
  have he_267 := (show M_261 q2 = M_245 q2 by rw [eM_262]; exact zu_n (znf he_250 hq13)).trans he_250
  have he_268 := (show M_261 q3 = M_245 q3 by rw [eM_262]; exact zu_n (znf he_251 hq13)).trans he_251
  have he_269 := (show M_261 q4 = M_245 q4 by rw [eM_262]; exact zu_n (znf he_252 hq13)).trans he_252
  have he_270 := (show M_261 q5 = M_245 q5 by rw [eM_262]; exact zu_n (znf he_253 hq13)).trans he_253
  have he_271 := (show M_261 q6 = M_245 q6 by rw [eM_262]; exact zu_n (znf he_254 hq13)).trans he_254
  have he_272 := (show M_261 q7 = M_245 q7 by rw [eM_262]; exact zu_n (znf he_255 hq13)).trans he_255
  have he_273 := (show M_261 q8 = M_245 q8 by rw [eM_262]; exact zu_n (znf he_256 hq13)).trans he_256
  have he_274 := (show M_261 q9 = M_245 q9 by rw [eM_262]; exact zu_n (znf he_257 hq13)).trans he_257
  have he_275 := (show M_261 q10 = M_245 q10 by rw [eM_262]; exact zu_n (znf he_258 hq13)).trans he_258
  have he_276 := (show M_261 q11 = M_245 q11 by rw [eM_262]; exact zu_n (znf he_259 hq13)).trans he_259
  have he_277 := (show M_261 q12 = M_245 q12 by rw [eM_262]; exact zu_n (znf he_260 hq13)).trans he_260
  refine z_putF S kX3 hK hM hS he_264 16 (by decide) kw_236 rfl hnm rfl rfl rfl (Nat.le_of_ble_eq_true rfl) dX3_init_116 (fun H locs hM hS => ?_)
  obtain ⟨M_278, eM_279⟩ : ∃ z : zMap, z = zu M_261 m0 (.inr (3, [.int 0, .int 0, .ref q0, .ref q1, .ref q2, .ref q3, .ref q4, .ref q5, .ref q6, .ref q7, .ref q8, .ref q9, .ref q10, .int 0, .ref q11, .ref q12, .ref q13, va_rf v14, .long 0])) := ⟨_, rfl⟩
  replace hM : zM A G M_278 H := by rw [eM_279]; exact hM
  have he_280 : M_278 m0 = some (.inr (3, [.int 0, .int 0, .ref q0, .ref q1, .ref q2, .ref q3, .ref q4, .ref q5, .ref q6, .ref q7, .ref q8, .ref q9, .ref q10, .int 0, .ref q11, .ref q12, .ref q13, va_rf v14, .long 0])) := by rw [eM_279]; exact zu_s _ _ _
  have he_281 := (show M_278 q0 = M_261 q0 by rw [eM_279]; exact zu_n (zne he_265 he_264 (by simp))).trans he_265
  have he_282 := (show M_278 q1 = M_261 q1 by rw [eM_279]; exact zu_n (zne he_266 he_264 (by simp))).trans he_266
  have he_283 := (show M_278 q2 = M_261 q2 by rw [eM_279]; exact zu_n (zne he_267 he_264 (by simp))).trans he_267
  have he_284 := (show M_278 q3 = M_261 q3 by rw [eM_279]; exact zu_n (zne he_268 he_264 (by simp))).trans he_268
  have he_285 := (show M_278 q4 = M_261 q4 by rw [eM_279]; exact zu_n (zne he_269 he_264 (by simp))).trans he_269
  have he_286 := (show M_278 q5 = M_261 q5 by rw [eM_279]; exact zu_n (zne he_270 he_264 (by simp))).trans he_270
  have he_287 := (show M_278 q6 = M_261 q6 by rw [eM_279]; exact zu_n (zne he_271 he_264 (by simp))).trans he_271
  have he_288 := (show M_278 q7 = M_261 q7 by rw [eM_279]; exact zu_n (zne he_272 he_264 (by simp))).trans he_272
  have he_289 := (show M_278 q8 = M_261 q8 by rw [eM_279]; exact zu_n (zne he_273 he_264 (by simp))).trans he_273
  have he_290 := (show M_278 q9 = M_261 q9 by rw [eM_279]; exact zu_n (zne he_274 he_264 (by simp))).trans he_274
  have he_291 := (show M_278 q10 = M_261 q10 by rw [eM_279]; exact zu_n (zne he_275 he_264 (by simp))).trans he_275
  have he_292 := (show M_278 q11 = M_261 q11 by rw [eM_279]; exact zu_n (zne he_276 he_264 (by simp))).trans he_276
  have he_293 := (show M_278 q12 = M_261 q12 by rw [eM_279]; exact zu_n (zne he_277 he_264 (by simp))).trans he_277
  have he_294 := (show M_278 q13 = M_261 q13 by rw [eM_279]; exact zu_n (zne he_263 he_264 (by simp))).trans he_263
  refine lv_aload_n hx hb dX3_init_119 rfl (lv_at hl 0 rfl) ?_
  refine lv_sipush (v := 5000) hx hb dX3_init_120 (by decide) ?_
  refine z_newa (atype := .long) (N' := 5000) (a0 := (5000, .inr (.inl (fun _ => 0)))) S hK hM hS hA kw_278 rfl 3 rfl (fun C h9 => by cases h9) (fun _ => rfl) (by decide) (by decide) (by decide) (Nat.le_of_ble_eq_true rfl) (Nat.le_of_ble_eq_true rfl) dX3_init_123 (fun q14 H hq14 hAq14 hM hS => ?_)
  obtain ⟨M_295, eM_296⟩ : ∃ z : zMap, z = zu M_278 q14 (.inl (G.2.2 3, 5000, .inr (.inl (fun _ => 0)))) := ⟨_, rfl⟩
  replace hM : zM A G M_295 H := by rw [eM_296]; exact hM
  have hn_q0_q14 : q0 ≠ q14 := znf he_281 hq14
  have hn_q1_q14 : q1 ≠ q14 := znf he_282 hq14
  have hn_q2_q14 : q2 ≠ q14 := znf he_283 hq14
  have hn_q3_q14 : q3 ≠ q14 := znf he_284 hq14
  have hn_q4_q14 : q4 ≠ q14 := znf he_285 hq14
  have hn_q5_q14 : q5 ≠ q14 := znf he_286 hq14
  have hn_q6_q14 : q6 ≠ q14 := znf he_287 hq14
  have hn_q7_q14 : q7 ≠ q14 := znf he_288 hq14
  have hn_q8_q14 : q8 ≠ q14 := znf he_289 hq14
  have hn_q9_q14 : q9 ≠ q14 := znf he_290 hq14
  have hn_q10_q14 : q10 ≠ q14 := znf he_291 hq14
  have hn_q11_q14 : q11 ≠ q14 := znf he_292 hq14
  have hn_q12_q14 : q12 ≠ q14 := znf he_293 hq14
  have hn_q13_q14 : q13 ≠ q14 := znf he_294 hq14
  have he_297 : M_295 q14 = some (.inl (G.2.2 3, 5000, .inr (.inl (fun _ => 0)))) := by rw [eM_296]; exact zu_s _ _ _
  have he_298 := (show M_295 m0 = M_278 m0 by rw [eM_296]; exact zu_n (znf he_280 hq14)).trans he_280
  have he_299 := (show M_295 q0 = M_278 q0 by rw [eM_296]; exact zu_n (znf he_281 hq14)).trans he_281
  have he_300 := (show M_295 q1 = M_278 q1 by rw [eM_296]; exact zu_n (znf he_282 hq14)).trans he_282
  have he_301 := (show M_295 q2 = M_278 q2 by rw [eM_296]; exact zu_n (znf he_283 hq14)).trans he_283
  have he_302 := (show M_295 q3 = M_278 q3 by rw [eM_296]; exact zu_n (znf he_284 hq14)).trans he_284
  have he_303 := (show M_295 q4 = M_278 q4 by rw [eM_296]; exact zu_n (znf he_285 hq14)).trans he_285
  have he_304 := (show M_295 q5 = M_278 q5 by rw [eM_296]; exact zu_n (znf he_286 hq14)).trans he_286
  have he_305 := (show M_295 q6 = M_278 q6 by rw [eM_296]; exact zu_n (znf he_287 hq14)).trans he_287
  have he_306 := (show M_295 q7 = M_278 q7 by rw [eM_296]; exact zu_n (znf he_288 hq14)).trans he_288
  have he_307 := (show M_295 q8 = M_278 q8 by rw [eM_296]; exact zu_n (znf he_289 hq14)).trans he_289
  have he_308 := (show M_295 q9 = M_278 q9 by rw [eM_296]; exact zu_n (znf he_290 hq14)).trans he_290
  have he_309 := (show M_295 q10 = M_278 q10 by rw [eM_296]; exact zu_n (znf he_291 hq14)).trans he_291
  have he_310 := (show M_295 q11 = M_278 q11 by rw [eM_296]; exact zu_n (znf he_292 hq14)).trans he_292
  have he_311 := (show M_295 q12 = M_278 q12 by rw [eM_296]; exact zu_n (znf he_293 hq14)).trans he_293
  have he_312 := (show M_295 q13 = M_278 q13 by rw [eM_296]; exact zu_n (znf he_294 hq14)).trans he_294
  refine z_putF S kX3 hK hM hS he_298 17 (by decide) kw_237 rfl hnm rfl rfl rfl (Nat.le_of_ble_eq_true rfl) dX3_init_125 (fun H locs hM hS => ?_)
  obtain ⟨M_313, eM_314⟩ : ∃ z : zMap, z = zu M_295 m0 (.inr (3, [.int 0, .int 0, .ref q0, .ref q1, .ref q2, .ref q3, .ref q4, .ref q5, .ref q6, .ref q7, .ref q8, .ref q9, .ref q10, .int 0, .ref q11, .ref q12, .ref q13, .ref q14, .long 0])) := ⟨_, rfl⟩
  replace hM : zM A G M_313 H := by rw [eM_314]; exact hM
  have he_315 : M_313 m0 = some (.inr (3, [.int 0, .int 0, .ref q0, .ref q1, .ref q2, .ref q3, .ref q4, .ref q5, .ref q6, .ref q7, .ref q8, .ref q9, .ref q10, .int 0, .ref q11, .ref q12, .ref q13, .ref q14, .long 0])) := by rw [eM_314]; exact zu_s _ _ _
  have he_316 := (show M_313 q0 = M_295 q0 by rw [eM_314]; exact zu_n (zne he_299 he_298 (by simp))).trans he_299
  have he_317 := (show M_313 q1 = M_295 q1 by rw [eM_314]; exact zu_n (zne he_300 he_298 (by simp))).trans he_300
  have he_318 := (show M_313 q2 = M_295 q2 by rw [eM_314]; exact zu_n (zne he_301 he_298 (by simp))).trans he_301
  have he_319 := (show M_313 q3 = M_295 q3 by rw [eM_314]; exact zu_n (zne he_302 he_298 (by simp))).trans he_302
  have he_320 := (show M_313 q4 = M_295 q4 by rw [eM_314]; exact zu_n (zne he_303 he_298 (by simp))).trans he_303
  have he_321 := (show M_313 q5 = M_295 q5 by rw [eM_314]; exact zu_n (zne he_304 he_298 (by simp))).trans he_304
  have he_322 := (show M_313 q6 = M_295 q6 by rw [eM_314]; exact zu_n (zne he_305 he_298 (by simp))).trans he_305
  have he_323 := (show M_313 q7 = M_295 q7 by rw [eM_314]; exact zu_n (zne he_306 he_298 (by simp))).trans he_306
  have he_324 := (show M_313 q8 = M_295 q8 by rw [eM_314]; exact zu_n (zne he_307 he_298 (by simp))).trans he_307
  have he_325 := (show M_313 q9 = M_295 q9 by rw [eM_314]; exact zu_n (zne he_308 he_298 (by simp))).trans he_308
  have he_326 := (show M_313 q10 = M_295 q10 by rw [eM_314]; exact zu_n (zne he_309 he_298 (by simp))).trans he_309
  have he_327 := (show M_313 q11 = M_295 q11 by rw [eM_314]; exact zu_n (zne he_310 he_298 (by simp))).trans he_310
  have he_328 := (show M_313 q12 = M_295 q12 by rw [eM_314]; exact zu_n (zne he_311 he_298 (by simp))).trans he_311
  have he_329 := (show M_313 q13 = M_295 q13 by rw [eM_314]; exact zu_n (zne he_312 he_298 (by simp))).trans he_312
  have he_330 := (show M_313 q14 = M_295 q14 by rw [eM_314]; exact zu_n (zne he_297 he_298 (by simp))).trans he_297
  have hnd : [q0, q1, q2, q3, q4, q5, q6, q7, q8, q9, q10, q11, q12, q13, q14].Nodup := by simp [hn_q0_q1, hn_q0_q2, hn_q1_q2, hn_q0_q3, hn_q1_q3, hn_q2_q3, hn_q0_q4, hn_q1_q4, hn_q2_q4, hn_q3_q4, hn_q0_q5, hn_q1_q5, hn_q2_q5, hn_q3_q5, hn_q4_q5, hn_q0_q6, hn_q1_q6, hn_q2_q6, hn_q3_q6, hn_q4_q6, hn_q5_q6, hn_q0_q7, hn_q1_q7, hn_q2_q7, hn_q3_q7, hn_q4_q7, hn_q5_q7, hn_q6_q7, hn_q0_q8, hn_q1_q8, hn_q2_q8, hn_q3_q8, hn_q4_q8, hn_q5_q8, hn_q6_q8, hn_q7_q8, hn_q0_q9, hn_q1_q9, hn_q2_q9, hn_q3_q9, hn_q4_q9, hn_q5_q9, hn_q6_q9, hn_q7_q9, hn_q8_q9, hn_q0_q10, hn_q1_q10, hn_q2_q10, hn_q3_q10, hn_q4_q10, hn_q5_q10, hn_q6_q10, hn_q7_q10, hn_q8_q10, hn_q9_q10, hn_q0_q11, hn_q1_q11, hn_q2_q11, hn_q3_q11, hn_q4_q11, hn_q5_q11, hn_q6_q11, hn_q7_q11, hn_q8_q11, hn_q9_q11, hn_q10_q11, hn_q0_q12, hn_q1_q12, hn_q2_q12, hn_q3_q12, hn_q4_q12, hn_q5_q12, hn_q6_q12, hn_q7_q12, hn_q8_q12, hn_q9_q12, hn_q10_q12, hn_q11_q12, hn_q0_q13, hn_q1_q13, hn_q2_q13, hn_q3_q13, hn_q4_q13, hn_q5_q13, hn_q6_q13, hn_q7_q13, hn_q8_q13, hn_q9_q13, hn_q10_q13, hn_q11_q13, hn_q12_q13, hn_q0_q14, hn_q1_q14, hn_q2_q14, hn_q3_q14, hn_q4_q14, hn_q5_q14, hn_q6_q14, hn_q7_q14, hn_q8_q14, hn_q9_q14, hn_q10_q14, hn_q11_q14, hn_q12_q14, hn_q13_q14]
  exact z_vret S hr hlocks hM hS ⟨rfl, (fun i => [q0, q1, q2, q3, q4, q5, q6, q7, q8, q9, q10, q11, q12, q13, q14].getD i 0), he_315, fun i hi => by
      rcases (show i = 0 ∨ i = 1 ∨ i = 2 ∨ i = 3 ∨ i = 4 ∨ i = 5 ∨ i = 6 ∨ i = 7 ∨ i = 8 ∨ i = 9 ∨ i = 10 ∨ i = 11 ∨ i = 12 ∨ i = 13 ∨ i = 14 by omega) with rfl | rfl | rfl | rfl | rfl | rfl | rfl | rfl | rfl | rfl | rfl | rfl | rfl | rfl | rfl
      · exact he_316
      · exact he_317
      · exact he_318
      · exact he_319
      · exact he_320
      · exact he_321
      · exact he_322
      · exact he_323
      · exact he_324
      · exact he_325
      · exact he_326
      · exact he_327
      · exact he_328
      · exact he_329
      · exact he_330, fun i j hi hj e => zinj hnd i j hi hj e⟩ (Nat.le_of_ble_eq_true rfl) (Nat.le_of_ble_eq_true rfl) dX3_init_128
