set_option maxHeartbeats 4000000 in
set_option maxRecDepth 100000 in
theorem c_X2_init (l : Launch) (A : Nat → Prop) (G : zG) (M : zMap) (h0 : Nat) (w0 : Option Nat) (w1 : Int32) (w2 w3 : Option Nat) (w4 : Int64) (w5 : Int32) (cv : Nat → zCV) (h : M h0 = some (.inr (2, [va_rf w0, .int w1, va_rf w2, va_rf w3, .long w4, .int w5]))) : zMet l yX2_init cX2_init 1 none { frames := 1, cells := 3, slots := 146, locals := 40 } [.ref h0] A G M (fun r M1 => r = none ∧ ∃ (cps den fee : Nat) (ca : Nat → Nat), zI G M1 h0 cps den fee 0 ca cv (fun _ => []) (fun _ => 0) (fun _ => 0) 0 0) := by
  refine zMet.of (by decide) (Nat.le_of_ble_eq_true rfl) ?_
  intro p e s m args below meth c ls S hr hlocks hnm hK hM hA hS hl
  have hl : lv_has ls 1 [(0, .ref h0)] := hl
  have hx := S.1
  have hb := S.2.1
  have hown := S.2.2.2.1
  have hts := S.2.2.2.2
  have hr : meth.sig.returnType = none := hr
  have hnm : meth.name = "<init>" := hnm
  refine lv_aload_n hx hb dX2_init_0 rfl (lv_at hl 0 rfl) ?_
  refine z_objInit S hl.1 kw_11 kw_12 kw_13 dX2_init_1 (Nat.le_of_ble_eq_true rfl) (Nat.le_of_ble_eq_true rfl) ?_
  refine lv_aload_n hx hb dX2_init_4 rfl (lv_at hl 0 rfl) ?_
  refine lv_bipush (v := 80) hx hb dX2_init_5 (by decide) ?_
  refine z_newq (N' := 80) S hK hM hS hA kw_14 kw_15 2 rfl (by decide) (by decide) (by decide) (Nat.le_of_ble_eq_true rfl) (Nat.le_of_ble_eq_true rfl) dX2_init_7 (fun q_1 H hq_2 hAq_3 hM hS => ?_)
  obtain ⟨M_4, eM_5⟩ : ∃ z : zMap, z = zu M q_1 (.inl (G.2.2 2, 80, .inr (.inr (.inr (.inr (fun _ => none)))))) := ⟨_, rfl⟩
  replace hM : zM A G M_4 H := by rw [eM_5]; exact hM
  have he_6 : M_4 q_1 = some (.inl (G.2.2 2, 80, .inr (.inr (.inr (.inr (fun _ => none)))))) := by rw [eM_5]; exact zu_s _ _ _
  have he_7 := (show M_4 h0 = M h0 by rw [eM_5]; exact zu_n (znf h hq_2)).trans h
  refine z_putF S kX2 hK hM hS he_7 0 (by decide) kw_16 rfl hnm rfl rfl rfl (Nat.le_of_ble_eq_true rfl) dX2_init_10 (fun H locs hM hS => ?_)
  obtain ⟨M_8, eM_9⟩ : ∃ z : zMap, z = zu M_4 h0 (.inr (2, [.ref q_1, .int w1, va_rf w2, va_rf w3, .long w4, .int w5])) := ⟨_, rfl⟩
  replace hM : zM A G M_8 H := by rw [eM_9]; exact hM
  have he_10 : M_8 h0 = some (.inr (2, [.ref q_1, .int w1, va_rf w2, va_rf w3, .long w4, .int w5])) := by rw [eM_9]; exact zu_s _ _ _
  have he_11 := (show M_8 q_1 = M_4 q_1 by rw [eM_9]; exact zu_n (zne he_6 he_7 (by simp))).trans he_6
  refine lv_aload_n hx hb dX2_init_13 rfl (lv_at hl 0 rfl) ?_
  refine lv_iconst (v := 0) hx hb dX2_init_14 (by decide) ?_
  refine z_put S kX2 hK hM hS he_10 1 (by decide) kw_17 rfl rfl rfl (Nat.le_of_ble_eq_true rfl) dX2_init_15 (fun H locs hM hS => ?_)
  obtain ⟨M_12, eM_13⟩ : ∃ z : zMap, z = zu M_8 h0 (.inr (2, [.ref q_1, .int 0, va_rf w2, va_rf w3, .long w4, .int w5])) := ⟨_, rfl⟩
  replace hM : zM A G M_12 H := by rw [eM_13]; exact hM
  have he_14 : M_12 h0 = some (.inr (2, [.ref q_1, .int 0, va_rf w2, va_rf w3, .long w4, .int w5])) := by rw [eM_13]; exact zu_s _ _ _
  have he_15 := (show M_12 q_1 = M_8 q_1 by rw [eM_13]; exact zu_n (zne he_11 he_10 (by simp))).trans he_11
  refine lv_aload_n hx hb dX2_init_18 rfl (lv_at hl 0 rfl) ?_
  refine lv_bipush (v := 60) hx hb dX2_init_19 (by decide) ?_
  refine z_newa (atype := .boolean) (N' := 60) (a0 := (60, .inl (fun _ => 0))) S hK hM hS hA kw_35 rfl 1 rfl (fun C h9 => by cases h9) (fun _ => rfl) (by decide) (by decide) (by decide) (Nat.le_of_ble_eq_true rfl) (Nat.le_of_ble_eq_true rfl) dX2_init_21 (fun q_16 H hq_17 hAq_18 hM hS => ?_)
  obtain ⟨M_19, eM_20⟩ : ∃ z : zMap, z = zu M_12 q_16 (.inl (G.2.2 1, 60, .inl (fun _ => 0))) := ⟨_, rfl⟩
  replace hM : zM A G M_19 H := by rw [eM_20]; exact hM
  have hn_21 : q_1 ≠ q_16 := znf he_15 hq_17
  have he_22 : M_19 q_16 = some (.inl (G.2.2 1, 60, .inl (fun _ => 0))) := by rw [eM_20]; exact zu_s _ _ _
  have he_23 := (show M_19 h0 = M_12 h0 by rw [eM_20]; exact zu_n (znf he_14 hq_17)).trans he_14
  have he_24 := (show M_19 q_1 = M_12 q_1 by rw [eM_20]; exact zu_n (znf he_15 hq_17)).trans he_15
  refine z_putF S kX2 hK hM hS he_23 2 (by decide) kw_18 rfl hnm rfl rfl rfl (Nat.le_of_ble_eq_true rfl) dX2_init_23 (fun H locs hM hS => ?_)
  obtain ⟨M_25, eM_26⟩ : ∃ z : zMap, z = zu M_19 h0 (.inr (2, [.ref q_1, .int 0, .ref q_16, va_rf w3, .long w4, .int w5])) := ⟨_, rfl⟩
  replace hM : zM A G M_25 H := by rw [eM_26]; exact hM
  have he_27 : M_25 h0 = some (.inr (2, [.ref q_1, .int 0, .ref q_16, va_rf w3, .long w4, .int w5])) := by rw [eM_26]; exact zu_s _ _ _
  have he_28 := (show M_25 q_1 = M_19 q_1 by rw [eM_26]; exact zu_n (zne he_24 he_23 (by simp))).trans he_24
  have he_29 := (show M_25 q_16 = M_19 q_16 by rw [eM_26]; exact zu_n (zne he_22 he_23 (by simp))).trans he_22
  refine lv_aload_n hx hb dX2_init_26 rfl (lv_at hl 0 rfl) ?_
  refine lv_bipush (v := 6) hx hb dX2_init_27 (by decide) ?_
  refine z_newa (atype := .int) (N' := 6) (a0 := (6, .inl (fun _ => 0))) S hK hM hS hA kw_36 rfl 0 rfl (fun C h9 => by cases h9) (fun _ => rfl) (by decide) (by decide) (by decide) (Nat.le_of_ble_eq_true rfl) (Nat.le_of_ble_eq_true rfl) dX2_init_29 (fun q_30 H hq_31 hAq_32 hM hS => ?_)
  obtain ⟨M_33, eM_34⟩ : ∃ z : zMap, z = zu M_25 q_30 (.inl (G.2.2 0, 6, .inl (fun _ => 0))) := ⟨_, rfl⟩
  replace hM : zM A G M_33 H := by rw [eM_34]; exact hM
  have hn_35 : q_1 ≠ q_30 := znf he_28 hq_31
  have hn_36 : q_16 ≠ q_30 := znf he_29 hq_31
  have he_37 : M_33 q_30 = some (.inl (G.2.2 0, 6, .inl (fun _ => 0))) := by rw [eM_34]; exact zu_s _ _ _
  have he_38 := (show M_33 h0 = M_25 h0 by rw [eM_34]; exact zu_n (znf he_27 hq_31)).trans he_27
  have he_39 := (show M_33 q_1 = M_25 q_1 by rw [eM_34]; exact zu_n (znf he_28 hq_31)).trans he_28
  have he_40 := (show M_33 q_16 = M_25 q_16 by rw [eM_34]; exact zu_n (znf he_29 hq_31)).trans he_29
  refine z_putF S kX2 hK hM hS he_38 3 (by decide) kw_19 rfl hnm rfl rfl rfl (Nat.le_of_ble_eq_true rfl) dX2_init_31 (fun H locs hM hS => ?_)
  obtain ⟨M_41, eM_42⟩ : ∃ z : zMap, z = zu M_33 h0 (.inr (2, [.ref q_1, .int 0, .ref q_16, .ref q_30, .long w4, .int w5])) := ⟨_, rfl⟩
  replace hM : zM A G M_41 H := by rw [eM_42]; exact hM
  have he_43 : M_41 h0 = some (.inr (2, [.ref q_1, .int 0, .ref q_16, .ref q_30, .long w4, .int w5])) := by rw [eM_42]; exact zu_s _ _ _
  have he_44 := (show M_41 q_1 = M_33 q_1 by rw [eM_42]; exact zu_n (zne he_39 he_38 (by simp))).trans he_39
  have he_45 := (show M_41 q_16 = M_33 q_16 by rw [eM_42]; exact zu_n (zne he_40 he_38 (by simp))).trans he_40
  have he_46 := (show M_41 q_30 = M_33 q_30 by rw [eM_42]; exact zu_n (zne he_37 he_38 (by simp))).trans he_37
  refine lv_aload_n hx hb dX2_init_34 rfl (lv_at hl 0 rfl) ?_
  refine lv_lconst (v := 0) hx hb dX2_init_35 (by decide) ?_
  refine z_put S kX2 hK hM hS he_43 4 (by decide) kw_20 rfl rfl rfl (Nat.le_of_ble_eq_true rfl) dX2_init_36 (fun H locs hM hS => ?_)
  obtain ⟨M_47, eM_48⟩ : ∃ z : zMap, z = zu M_41 h0 (.inr (2, [.ref q_1, .int 0, .ref q_16, .ref q_30, .long 0, .int w5])) := ⟨_, rfl⟩
  replace hM : zM A G M_47 H := by rw [eM_48]; exact hM
  have he_49 : M_47 h0 = some (.inr (2, [.ref q_1, .int 0, .ref q_16, .ref q_30, .long 0, .int w5])) := by rw [eM_48]; exact zu_s _ _ _
  have he_50 := (show M_47 q_1 = M_41 q_1 by rw [eM_48]; exact zu_n (zne he_44 he_43 (by simp))).trans he_44
  have he_51 := (show M_47 q_16 = M_41 q_16 by rw [eM_48]; exact zu_n (zne he_45 he_43 (by simp))).trans he_45
  have he_52 := (show M_47 q_30 = M_41 q_30 by rw [eM_48]; exact zu_n (zne he_46 he_43 (by simp))).trans he_46
  refine lv_aload_n hx hb dX2_init_39 rfl (lv_at hl 0 rfl) ?_
  refine lv_iconst (v := 0) hx hb dX2_init_40 (by decide) ?_
  refine z_put S kX2 hK hM hS he_49 5 (by decide) kw_21 rfl rfl rfl (Nat.le_of_ble_eq_true rfl) dX2_init_41 (fun H locs hM hS => ?_)
  obtain ⟨M_53, eM_54⟩ : ∃ z : zMap, z = zu M_47 h0 (.inr (2, [.ref q_1, .int 0, .ref q_16, .ref q_30, .long 0, .int 0])) := ⟨_, rfl⟩
  replace hM : zM A G M_53 H := by rw [eM_54]; exact hM
  have he_55 : M_53 h0 = some (.inr (2, [.ref q_1, .int 0, .ref q_16, .ref q_30, .long 0, .int 0])) := by rw [eM_54]; exact zu_s _ _ _
  have he_56 := (show M_53 q_1 = M_47 q_1 by rw [eM_54]; exact zu_n (zne he_50 he_49 (by simp))).trans he_50
  have he_57 := (show M_53 q_16 = M_47 q_16 by rw [eM_54]; exact zu_n (zne he_51 he_49 (by simp))).trans he_51
  have he_58 := (show M_53 q_30 = M_47 q_30 by rw [eM_54]; exact zu_n (zne he_52 he_49 (by simp))).trans he_52
  exact z_vret S hr hlocks hM hS ⟨rfl, q_1, q_16, q_30, (fun _ => 0), he_55, he_56, he_57, he_58, hn_36, Nat.zero_le _, fun j hj => absurd hj (Nat.not_lt_zero j), fun i j hi => absurd hi (Nat.not_lt_zero i), fun j hj => absurd hj (Nat.not_lt_zero j), fun i j hi => absurd hi (Nat.not_lt_zero i)⟩ (Nat.le_of_ble_eq_true rfl) (Nat.le_of_ble_eq_true rfl) dX2_init_44
set_option maxHeartbeats 4000000 in
set_option maxRecDepth 100000 in
theorem c_X2_copy (l : Launch) (A : Nat → Prop) (G : zG) (M : zMap) (h0 cps den fee N : Nat) (ca : Nat → Nat) (cv : Nat → zCV) (ch : Nat → List (Nat × zEV)) (dn fe : Nat → Int32) (gd : Int64) (ec : Nat) (ty : Int32) (bc : Int64) (dg hm : Int32) (hI : zI G M h0 cps den fee N ca cv ch dn fe gd ec) : zMet l yX2_copy cX2_copy 6 (some .int) { frames := 3, cells := 1, slots := 10, locals := 120 } [.ref h0, .int ty, .long bc, .int dg, .int hm] A G M (fun r M1 => r = some (.int (zCpr N cv dn ty bc dg hm)) ∧ ((¬ (zCk N cv ty bc dg hm ∧ zRi dn hm ty) ∧ zI G M1 h0 cps den fee N ca cv ch dn fe gd ec) ∨ ((zCk N cv ty bc dg hm ∧ zRi dn hm ty) ∧ ∃ q, zI G M1 h0 cps den fee (N + 1) (zuf ca N q) (zuf cv N (ty, bc, dg, hm, hm, 3, 0, 0, -1)) (zuf ch N []) dn fe gd ec))) := by
  refine zMet.of (by decide) (Nat.le_of_ble_eq_true rfl) ?_
  intro p e s m args below meth c ls S hr hlocks hnm hK hM hA hS hl
  have hl : lv_has ls 6 [(0, .ref h0), (1, .int ty), (2, .long bc), (4, .int dg), (5, .int hm)] := hl
  have hx := S.1
  have hb := S.2.1
  have hown := S.2.2.2.1
  have hts := S.2.2.2.2
  have hr : meth.sig.returnType = some .int := hr
  obtain ⟨h, hc, hd, hf, hdf, hN, hcp, hsep⟩ := id hI
  refine lv_iload_n hx hb dX2_copy_0 rfl (lv_at hl 1 rfl) ?_
  refine z_callS (As := [.int ty]) (rest := []) S (c_X2_isType l A G M ty) ok_X2_isType kw_49 kw_50 ⟨Nat.le_of_ble_eq_true rfl, Nat.le_of_ble_eq_true rfl⟩ hK hM hS hA rfl hl.1 rfl (Nat.le_of_ble_eq_true rfl) dX2_copy_1 ⟨Nat.le_of_ble_eq_true rfl, Nat.le_of_ble_eq_true rfl⟩ (fun r_3 M_1 H locs hp_2 hM hS => ?_)
  obtain ⟨rfl, hM9⟩ := hp_2
  rw [hM9] at hM
  refine W.eq (g2 := F0 m 4 ls [.int (zb (zTy ty))]) rfl ?_
  refine lv_if_eq (tgt := 24) hx hb dX2_copy_4 (by decide) (fun c_4 => ?_) (fun c_4 => ?_)
  · rw [zb_0] at c_4
    refine lv_iconst (v := -1) hx hb dX2_copy_24 (by decide) ?_
    exact z_iret S hr hlocks hM hS ⟨by unfold zCpr; rw [if_neg (fun q => c_4 q.1.1)], Or.inl ⟨fun q => (fun q => c_4 q.1.1) q.1, hI⟩⟩ (Nat.le_of_ble_eq_true rfl) (Nat.le_of_ble_eq_true rfl) dX2_copy_25
  · rw [zb_0n] at c_4
    refine lv_iload hx hb dX2_copy_7 (lv_at hl 4 rfl) ?_
    refine z_callS (As := [.int hm]) (rest := []) S (c_X2_isPlace l A G M hm) ok_X2_isPlace kw_52 kw_53 ⟨Nat.le_of_ble_eq_true rfl, Nat.le_of_ble_eq_true rfl⟩ hK hM hS hA rfl hl.1 rfl (Nat.le_of_ble_eq_true rfl) dX2_copy_9 ⟨Nat.le_of_ble_eq_true rfl, Nat.le_of_ble_eq_true rfl⟩ (fun r_7 M_5 H locs hp_6 hM hS => ?_)
    obtain ⟨rfl, hM9⟩ := hp_6
    rw [hM9] at hM
    refine W.eq (g2 := F0 m 12 ls [.int (zb (zPl hm))]) rfl ?_
    refine lv_if_eq (tgt := 24) hx hb dX2_copy_12 (by decide) (fun c_8 => ?_) (fun c_8 => ?_)
    · rw [zb_0] at c_8
      refine lv_iconst (v := -1) hx hb dX2_copy_24 (by decide) ?_
      exact z_iret S hr hlocks hM hS ⟨by unfold zCpr; rw [if_neg (fun q => c_8 q.1.2.1)], Or.inl ⟨fun q => (fun q => c_8 q.1.2.1) q.1, hI⟩⟩ (Nat.le_of_ble_eq_true rfl) (Nat.le_of_ble_eq_true rfl) dX2_copy_25
    · rw [zb_0n] at c_8
      refine lv_aload_n hx hb dX2_copy_15 rfl (lv_at hl 0 rfl) ?_
      refine z_get (v := .int (nI N)) S kX2 hK hM h 1 (by decide) kw_17 rfl dX2_copy_16 ?_
      refine lv_bipush (v := 80) hx hb dX2_copy_19 (by decide) ?_
      refine lv_icmp_lt (tgt := 26) hx hb dX2_copy_21 (by decide) (fun c_9 => ?_) (fun c_9 => ?_)
      · refine lv_aload_n hx hb dX2_copy_26 rfl (lv_at hl 0 rfl) ?_
        refine lv_lload_n hx hb dX2_copy_27 rfl (lv_at hl 2 rfl) ?_
        refine lv_iload hx hb dX2_copy_28 (lv_at hl 3 rfl) ?_
        refine z_callV (As := [.long bc, .int dg]) (rest := []) S (c_X2_isBarcode l A G M h0 cps (nI N) den fee gd (nI ec) bc dg h) ok_X2_isBarcode kw_55 kw_57 ks_0 ⟨Nat.le_of_ble_eq_true rfl, Nat.le_of_ble_eq_true rfl⟩ hK hM hS hA h rfl rfl hl.1 rfl (Nat.le_of_ble_eq_true rfl) dX2_copy_30 ⟨Nat.le_of_ble_eq_true rfl, Nat.le_of_ble_eq_true rfl⟩ (fun r_12 M_10 H locs hp_11 hM hS => ?_)
        obtain ⟨rfl, hM9⟩ := hp_11
        rw [hM9] at hM
        refine W.eq (g2 := F0 m 33 ls [.int (zb (zBc bc dg))]) rfl ?_
        refine lv_if_eq (tgt := 46) hx hb dX2_copy_33 (by decide) (fun c_13 => ?_) (fun c_13 => ?_)
        · rw [zb_0] at c_13
          refine lv_iconst (v := -1) hx hb dX2_copy_46 (by decide) ?_
          exact z_iret S hr hlocks hM hS ⟨by unfold zCpr; rw [if_neg (fun q => c_13 q.2.1)], Or.inl ⟨fun q => (fun q => c_13 q.2.1) q.1, hI⟩⟩ (Nat.le_of_ble_eq_true rfl) (Nat.le_of_ble_eq_true rfl) dX2_copy_47
        · rw [zb_0n] at c_13
          refine lv_aload_n hx hb dX2_copy_36 rfl (lv_at hl 0 rfl) ?_
          refine lv_lload_n hx hb dX2_copy_37 rfl (lv_at hl 2 rfl) ?_
          refine lv_iload hx hb dX2_copy_38 (lv_at hl 3 rfl) ?_
          refine z_callV (As := [.long bc, .int dg]) (rest := []) S (c_X2_isTaken l A G M h0 cps den fee N ca cv ch dn fe gd ec bc dg hI) ok_X2_isTaken kw_60 kw_62 ks_1 ⟨Nat.le_of_ble_eq_true rfl, Nat.le_of_ble_eq_true rfl⟩ hK hM hS hA h rfl rfl hl.1 rfl (Nat.le_of_ble_eq_true rfl) dX2_copy_40 ⟨Nat.le_of_ble_eq_true rfl, Nat.le_of_ble_eq_true rfl⟩ (fun r_16 M_14 H locs hp_15 hM hS => ?_)
          obtain ⟨rfl, hM9⟩ := hp_15
          rw [hM9] at hM
          refine W.eq (g2 := F0 m 43 ls [.int (zb (zTk N cv bc dg))]) rfl ?_
          refine lv_if_eq (tgt := 48) hx hb dX2_copy_43 (by decide) (fun c_17 => ?_) (fun c_17 => ?_)
          · rw [zb_0] at c_17
            refine lv_aload_n hx hb dX2_copy_48 rfl (lv_at hl 0 rfl) ?_
            refine lv_iload hx hb dX2_copy_49 (lv_at hl 4 rfl) ?_
            refine lv_iload_n hx hb dX2_copy_51 rfl (lv_at hl 1 rfl) ?_
            refine z_callV (As := [.int hm, .int ty]) (rest := []) S (c_X2_hasRight l A G M h0 cps (nI N) den fee gd (nI ec) dn hm ty h hd) ok_X2_hasRight kw_68 kw_70 ks_3 ⟨Nat.le_of_ble_eq_true rfl, Nat.le_of_ble_eq_true rfl⟩ hK hM hS hA h rfl rfl hl.1 rfl (Nat.le_of_ble_eq_true rfl) dX2_copy_52 ⟨Nat.le_of_ble_eq_true rfl, Nat.le_of_ble_eq_true rfl⟩ (fun r_20 M_18 H locs hp_19 hM hS => ?_)
            obtain ⟨rfl, hM9⟩ := hp_19
            rw [hM9] at hM
            refine W.eq (g2 := F0 m 55 ls [.int (zb (zRi dn hm ty))]) rfl ?_
            refine lv_if_ne (tgt := 61) hx hb dX2_copy_55 (by decide) (fun c_21 => ?_) (fun c_21 => ?_)
            · rw [zb_0n] at c_21
              refine lv_aload_n hx hb dX2_copy_61 rfl (lv_at hl 0 rfl) ?_
              refine z_get (v := .ref cps) S kX2 hK hM h 0 (by decide) kw_16 rfl dX2_copy_62 ?_
              refine lv_aload_n hx hb dX2_copy_65 rfl (lv_at hl 0 rfl) ?_
              refine z_get (v := .int (nI N)) S kX2 hK hM h 1 (by decide) kw_17 rfl dX2_copy_66 ?_
              refine z_new (fs := [.int 0, .long 0, .int 0, .int 0, .int 0, .int 0, .int 0, .int 0, .int 0, .null]) S kX0 hK hM hS hA kw_14 kw_72 kw_3 (fun j hj => by rcases (show j = 0 ∨ j = 1 ∨ j = 2 ∨ j = 3 ∨ j = 4 ∨ j = 5 ∨ j = 6 ∨ j = 7 ∨ j = 8 ∨ j = 9 by omega) with rfl | rfl | rfl | rfl | rfl | rfl | rfl | rfl | rfl | rfl <;> rfl) (Nat.le_of_ble_eq_true rfl) (Nat.le_of_ble_eq_true rfl) dX2_copy_69 (fun q_22 H hq_23 hAq_24 hM hS => ?_)
              obtain ⟨M_25, eM_26⟩ : ∃ z : zMap, z = zu M q_22 (.inr (0, [.int 0, .long 0, .int 0, .int 0, .int 0, .int 0, .int 0, .int 0, .int 0, .null])) := ⟨_, rfl⟩
              replace hM : zM A G M_25 H := by rw [eM_26]; exact hM
              have he_27 : M_25 q_22 = some (.inr (0, [.int 0, .long 0, .int 0, .int 0, .int 0, .int 0, .int 0, .int 0, .int 0, .null])) := by rw [eM_26]; exact zu_s _ _ _
              have he_28 := (show M_25 h0 = M h0 by rw [eM_26]; exact zu_n (znf h hq_23)).trans h
              have he_29 := (show M_25 cps = M cps by rw [eM_26]; exact zu_n (znf hc hq_23)).trans hc
              have he_30 := (show M_25 den = M den by rw [eM_26]; exact zu_n (znf hd hq_23)).trans hd
              have he_31 := (show M_25 fee = M fee by rw [eM_26]; exact zu_n (znf hf hq_23)).trans hf
              refine lv_dup hx hb dX2_copy_72 rfl ?_
              refine lv_iload_n hx hb dX2_copy_73 rfl (lv_at hl 1 rfl) ?_
              refine lv_lload_n hx hb dX2_copy_74 rfl (lv_at hl 2 rfl) ?_
              refine lv_iload hx hb dX2_copy_75 (lv_at hl 3 rfl) ?_
              refine lv_iload hx hb dX2_copy_77 (lv_at hl 4 rfl) ?_
              refine z_callIN (As := [.int ty, .long bc, .int dg, .int hm]) (rest := [.ref q_22, .int (nI N), .ref cps]) S (c_X0_init l A G M_25 q_22 0 0 0 0 0 0 0 0 0 none ty bc dg hm he_27) ok_X0_init kw_73 kw_74 rfl ⟨Nat.le_of_ble_eq_true rfl, Nat.le_of_ble_eq_true rfl⟩ hK hM hS hA rfl hl.1 rfl (Nat.le_of_ble_eq_true rfl) dX2_copy_79 ⟨Nat.le_of_ble_eq_true rfl, Nat.le_of_ble_eq_true rfl⟩ (fun r_34 M_32 H locs hp_33 hM hS => ?_)
              obtain ⟨rfl, eM_35⟩ := hp_33
              have he_36 : M_32 q_22 = some (oC ty bc dg hm hm 3 0 0 (-1) none) := by rw [eM_35]; exact zu_s _ _ _
              have he_37 := (show M_32 h0 = M_25 h0 by rw [eM_35]; exact zu_n (zne he_28 he_27 (by simp))).trans he_28
              have he_38 := (show M_32 cps = M_25 cps by rw [eM_35]; exact zu_n (zne he_29 he_27 (by simp))).trans he_29
              have he_39 := (show M_32 den = M_25 den by rw [eM_35]; exact zu_n (zne he_30 he_27 (by simp))).trans he_30
              have he_40 := (show M_32 fee = M_25 fee by rw [eM_35]; exact zu_n (zne he_31 he_27 (by simp))).trans he_31
              refine W.eq (g2 := F0 m 82 ls [.ref q_22, .int (nI N), .ref cps]) rfl ?_
              refine z_aast S hK hM hS 2 he_38 rfl he_36 rfl (hin80 c_9 hN) dX2_copy_82 (fun H locs hM hS => ?_)
              obtain ⟨M_41, eM_42⟩ : ∃ z : zMap, z = zu M_32 cps (.inl ((G.2.2 2), 80, .inr (.inr (.inr (.inr (va_up (zF N ca) (nI N).toNatClampNeg (some q_22))))))) := ⟨_, rfl⟩
              replace hM : zM A G M_41 H := by rw [eM_42]; exact hM
              have he_43 : M_41 cps = some (.inl ((G.2.2 2), 80, .inr (.inr (.inr (.inr (va_up (zF N ca) (nI N).toNatClampNeg (some q_22))))))) := by rw [eM_42]; exact zu_s _ _ _
              have he_44 := (show M_41 h0 = M_32 h0 by rw [eM_42]; exact zu_n (zne he_37 he_38 (by simp))).trans he_37
              have he_45 := (show M_41 q_22 = M_32 q_22 by rw [eM_42]; exact zu_n (zne he_36 he_38 (by simp))).trans he_36
              have he_46 := (show M_41 den = M_32 den by rw [eM_42]; exact zu_n (zne he_39 he_38 (by simp))).trans he_39
              have he_47 := (show M_41 fee = M_32 fee by rw [eM_42]; exact zu_n (zne he_40 he_38 (by simp))).trans he_40
              refine lv_aload_n hx hb dX2_copy_83 rfl (lv_at hl 0 rfl) ?_
              refine lv_dup hx hb dX2_copy_84 rfl ?_
              refine z_get (v := .int (nI N)) S kX2 hK hM he_44 1 (by decide) kw_17 rfl dX2_copy_85 ?_
              refine lv_iconst (v := 1) hx hb dX2_copy_88 (by decide) ?_
              refine lv_iadd hx hb dX2_copy_89 ?_
              refine z_put S kX2 hK hM hS he_44 1 (by decide) kw_17 rfl rfl rfl (Nat.le_of_ble_eq_true rfl) dX2_copy_90 (fun H locs hM hS => ?_)
              obtain ⟨M_48, eM_49⟩ : ∃ z : zMap, z = zu M_41 h0 (.inr (2, [.ref cps, .int ((nI N) + 1), .ref den, .ref fee, .long gd, .int (nI ec)])) := ⟨_, rfl⟩
              replace hM : zM A G M_48 H := by rw [eM_49]; exact hM
              have he_50 : M_48 h0 = some (.inr (2, [.ref cps, .int ((nI N) + 1), .ref den, .ref fee, .long gd, .int (nI ec)])) := by rw [eM_49]; exact zu_s _ _ _
              have he_51 := (show M_48 q_22 = M_41 q_22 by rw [eM_49]; exact zu_n (zne he_45 he_44 (by simp))).trans he_45
              have he_52 := (show M_48 cps = M_41 cps by rw [eM_49]; exact zu_n (zne he_43 he_44 (by simp))).trans he_43
              have he_53 := (show M_48 den = M_41 den by rw [eM_49]; exact zu_n (zne he_46 he_44 (by simp))).trans he_46
              have he_54 := (show M_48 fee = M_41 fee by rw [eM_49]; exact zu_n (zne he_47 he_44 (by simp))).trans he_47
              refine lv_aload_n hx hb dX2_copy_93 rfl (lv_at hl 0 rfl) ?_
              refine z_get (v := .int ((nI N) + 1)) S kX2 hK hM he_50 1 (by decide) kw_17 rfl dX2_copy_94 ?_
              have hfr : ∀ b9 : Nat, b9 ≠ q_22 → b9 ≠ cps → b9 ≠ h0 → M_48 b9 = M b9 := fun b9 g0 g1 g2 => by rw [eM_49, zu_n g2, eM_42, zu_n g1, eM_35, zu_n g0, eM_26, zu_n g0]
              have hI2 := hI.add (v := (ty, bc, dg, hm, hm, 3, 0, 0, -1)) ((nI_ltI (by omega) (by decide)).mp c_9) (Or.inl rfl) hq_23 he_51 (by have h5 := he_52; rw [zcl_N hN] at h5; exact h5) (by rw [← nI_1]; exact he_50) (fun b b1 b2 b3 => hfr b b1 b2 b3)
              exact z_iret S hr hlocks hM hS ⟨by unfold zCpr; rw [if_pos (⟨⟨c_4, c_8, c_9⟩, c_13, c_17⟩), if_pos c_21, nI_1], Or.inr ⟨⟨⟨⟨c_4, c_8, c_9⟩, c_13, c_17⟩, c_21⟩, q_22, hI2⟩⟩ (Nat.le_of_ble_eq_true rfl) (Nat.le_of_ble_eq_true rfl) dX2_copy_97
            · rw [zb_0] at c_21
              refine lv_bipush (v := -3) hx hb dX2_copy_58 (by decide) ?_
              exact z_iret S hr hlocks hM hS ⟨by unfold zCpr; rw [if_pos (⟨⟨c_4, c_8, c_9⟩, c_13, c_17⟩), if_neg c_21], Or.inl ⟨fun q => c_21 q.2, hI⟩⟩ (Nat.le_of_ble_eq_true rfl) (Nat.le_of_ble_eq_true rfl) dX2_copy_60
          · rw [zb_0n] at c_17
            refine lv_iconst (v := -1) hx hb dX2_copy_46 (by decide) ?_
            exact z_iret S hr hlocks hM hS ⟨by unfold zCpr; rw [if_neg (fun q => q.2.2 c_17)], Or.inl ⟨fun q => (fun q => q.2.2 c_17) q.1, hI⟩⟩ (Nat.le_of_ble_eq_true rfl) (Nat.le_of_ble_eq_true rfl) dX2_copy_47
      · refine lv_iconst (v := -1) hx hb dX2_copy_24 (by decide) ?_
        exact z_iret S hr hlocks hM hS ⟨by unfold zCpr; rw [if_neg (fun q => c_9 q.1.2.2)], Or.inl ⟨fun q => (fun q => c_9 q.1.2.2) q.1, hI⟩⟩ (Nat.le_of_ble_eq_true rfl) (Nat.le_of_ble_eq_true rfl) dX2_copy_25
set_option maxHeartbeats 4000000 in
set_option maxRecDepth 100000 in
theorem c_X2_weed (l : Launch) (A : Nat → Prop) (G : zG) (M : zMap) (h0 cps den fee N : Nat) (ca : Nat → Nat) (cv : Nat → zCV) (ch : Nat → List (Nat × zEV)) (dn fe : Nat → Int32) (gd : Int64) (ec : Nat) (k who : Int32) (hI : zI G M h0 cps den fee N ca cv ch dn fe gd ec) : zMet l yX2_weed cX2_weed 4 (some .int) { frames := 3, cells := 1, slots := 4, locals := 120 } [.ref h0, .int k, .int who] A G M (zWQ G h0 cps den fee N ca cv ch dn fe gd ec k who) := by
  refine zMet.of (by decide) (Nat.le_of_ble_eq_true rfl) ?_
  intro p e s m args below meth c ls S hr hlocks hnm hK hM hA hS hl
  have hl : lv_has ls 4 [(0, .ref h0), (1, .int k), (2, .int who)] := hl
  have hx := S.1
  have hb := S.2.1
  have hown := S.2.2.2.1
  have hts := S.2.2.2.2
  have hr : meth.sig.returnType = some .int := hr
  obtain ⟨h, hc, hd, hf, hdf, hN, hcp, hsep⟩ := id hI
  refine lv_aload_n hx hb dX2_weed_0 rfl (lv_at hl 0 rfl) ?_
  refine lv_iload_n hx hb dX2_weed_1 rfl (lv_at hl 1 rfl) ?_
  refine z_callV (As := [.int k]) (rest := []) S (c_X2_find l A G M h0 cps (nI N) den fee gd (nI ec) (zF N ca) k h hc) ok_X2_find kw_64 kw_66 ks_2 ⟨Nat.le_of_ble_eq_true rfl, Nat.le_of_ble_eq_true rfl⟩ hK hM hS hA h rfl rfl hl.1 rfl (Nat.le_of_ble_eq_true rfl) dX2_weed_2 ⟨Nat.le_of_ble_eq_true rfl, Nat.le_of_ble_eq_true rfl⟩ (fun r_3 M_1 H locs hp_2 hM hS => ?_)
  obtain ⟨rfl, hM9⟩ := hp_2
  rw [hM9] at hM
  rw [zFi_eq hN]
  refine W.eq (g2 := F0 m 5 ls [va_rf ((zIx N k).map ca)]) rfl ?_
  rcases hz : zIx N k with _ | j
  · refine W.eq (g2 := F0 m 5 ls [.null]) rfl ?_
    refine lv_astore_nN (lv' := [(3, .null), (0, .ref h0), (1, .int k), (2, .int who)]) hx hb dX2_weed_5 rfl hl (by decide) rfl (fun ls hl => ?_)
    refine lv_aload_nN hx hb dX2_weed_6 rfl (lv_at hl 0 rfl) ?_
    refine lv_ifnullN (tgt := 30) hx hb dX2_weed_7 (by decide) ?_
    refine lv_iconst (v := -1) hx hb dX2_weed_30 (by decide) ?_
    exact z_iret S hr hlocks hM hS (by unfold zWQ; rw [hz]; exact ⟨rfl, hI⟩) (Nat.le_of_ble_eq_true rfl) (Nat.le_of_ble_eq_true rfl) dX2_weed_31
  · refine W.eq (g2 := F0 m 5 ls [.ref (ca j)]) rfl ?_
    have hj := (zIx_some hN hz).1
    have hcj := (hcp j hj).1
    refine lv_astore_n (lv' := [(3, .ref (ca j)), (0, .ref h0), (1, .int k), (2, .int who)]) hx hb dX2_weed_5 rfl hl (by decide) rfl (fun ls hl => ?_)
    refine lv_aload_n hx hb dX2_weed_6 rfl (lv_at hl 0 rfl) ?_
    refine lv_ifnull hx hb dX2_weed_7 ?_
    refine lv_iload_n hx hb dX2_weed_10 rfl (lv_at hl 3 rfl) ?_
    refine lv_if_lt (tgt := 30) hx hb dX2_weed_11 (by decide) (fun c_4 => ?_) (fun c_4 => ?_)
    · refine lv_iconst (v := -1) hx hb dX2_weed_30 (by decide) ?_
      exact z_iret S hr hlocks hM hS (by unfold zWQ; rw [hz]; dsimp only; rw [if_neg (fun q => q.1 c_4)]; exact ⟨rfl, hI⟩) (Nat.le_of_ble_eq_true rfl) (Nat.le_of_ble_eq_true rfl) dX2_weed_31
    · refine lv_iload_n hx hb dX2_weed_14 rfl (lv_at hl 3 rfl) ?_
      refine lv_bipush (v := 100) hx hb dX2_weed_15 (by decide) ?_
      refine lv_icmp_ge (tgt := 30) hx hb dX2_weed_17 (by decide) (fun c_5 => ?_) (fun c_5 => ?_)
      · refine lv_iconst (v := -1) hx hb dX2_weed_30 (by decide) ?_
        exact z_iret S hr hlocks hM hS (by unfold zWQ; rw [hz]; dsimp only; rw [if_neg (fun q => q.2.1 c_5)]; exact ⟨rfl, hI⟩) (Nat.le_of_ble_eq_true rfl) (Nat.le_of_ble_eq_true rfl) dX2_weed_31
      · refine lv_aload_n hx hb dX2_weed_20 rfl (lv_at hl 1 rfl) ?_
        refine z_get (v := .int (nI ec)) S kX2 hK hM h 5 (by decide) kw_21 rfl dX2_weed_21 ?_
        refine lv_sipush (v := 512) hx hb dX2_weed_24 (by decide) ?_
        refine lv_icmp_lt (tgt := 32) hx hb dX2_weed_27 (by decide) (fun c_6 => ?_) (fun c_6 => ?_)
        · refine lv_aload_n hx hb dX2_weed_32 rfl (lv_at hl 0 rfl) ?_
          refine z_getN (v := .int ((cv j).2.2.2.2.2.1)) S kX0 hK hM hcj 5 (by decide) kw_88 rfl dX2_weed_33 ?_
          refine z_callS (As := [.int ((cv j).2.2.2.2.2.1)]) (rest := []) S (c_X2_canBeWeeded l A G M ((cv j).2.2.2.2.2.1)) ok_X2_canBeWeeded kw_199 kw_200 ⟨Nat.le_of_ble_eq_true rfl, Nat.le_of_ble_eq_true rfl⟩ hK hM hS hA rfl hl.1 rfl (Nat.le_of_ble_eq_true rfl) dX2_weed_36 ⟨Nat.le_of_ble_eq_true rfl, Nat.le_of_ble_eq_true rfl⟩ (fun r_9 M_7 H locs hp_8 hM hS => ?_)
          obtain ⟨rfl, hM9⟩ := hp_8
          rw [hM9] at hM
          refine W.eq (g2 := F0 m 39 ls [.int (zb (zWd ((cv j).2.2.2.2.2.1)))]) rfl ?_
          refine lv_if_eq (tgt := 50) hx hb dX2_weed_39 (by decide) (fun c_10 => ?_) (fun c_10 => ?_)
          · rw [zb_0] at c_10
            refine lv_bipush (v := -2) hx hb dX2_weed_50 (by decide) ?_
            exact z_iret S hr hlocks hM hS (by unfold zWQ; rw [hz]; dsimp only; rw [if_pos ⟨c_4, c_5, c_6⟩, if_neg (fun q => c_10 q.1)]; exact ⟨rfl, hI⟩) (Nat.le_of_ble_eq_true rfl) (Nat.le_of_ble_eq_true rfl) dX2_weed_52
          · rw [zb_0n] at c_10
            refine lv_aload_n hx hb dX2_weed_42 rfl (lv_at hl 0 rfl) ?_
            refine z_getN (v := .int ((cv j).2.2.2.2.2.2.2.2)) S kX0 hK hM hcj 8 (by decide) kw_94 rfl dX2_weed_43 ?_
            refine lv_iload_n hx hb dX2_weed_46 rfl (lv_at hl 3 rfl) ?_
            refine lv_icmp_ne (tgt := 53) hx hb dX2_weed_47 (by decide) (fun c_11 => ?_) (fun c_11 => ?_)
            · refine lv_aload_n hx hb dX2_weed_53 rfl (lv_at hl 0 rfl) ?_
              refine z_getN (v := .int ((cv j).2.2.2.2.2.2.2.2)) S kX0 hK hM hcj 8 (by decide) kw_94 rfl dX2_weed_54 ?_
              refine lv_iconst (v := -1) hx hb dX2_weed_57 (by decide) ?_
              refine lv_icmp_ne (tgt := 68) hx hb dX2_weed_58 (by decide) (fun c_12 => ?_) (fun c_12 => ?_)
              · refine lv_aload_n hx hb dX2_weed_68 rfl (lv_at hl 1 rfl) ?_
                refine lv_aload_n hx hb dX2_weed_69 rfl (lv_at hl 0 rfl) ?_
                refine lv_aload_n hx hb dX2_weed_70 rfl (lv_at hl 1 rfl) ?_
                refine z_get (v := .long gd) S kX2 hK hM h 4 (by decide) kw_20 rfl dX2_weed_71 ?_
                refine lv_lconst (v := 1) hx hb dX2_weed_74 (by decide) ?_
                refine lv_ladd hx hb dX2_weed_75 ?_
                refine lv_bipush (v := 7) hx hb dX2_weed_76 (by decide) ?_
                refine lv_iconst (v := 0) hx hb dX2_weed_78 (by decide) ?_
                refine z_callV (As := [.ref (ca j), .long (gd + 1), .int 7, .int 0]) (rest := []) S (c_X2_enter l A G M h0 cps (nI N) den fee gd (nI ec) (ca j) (cv j).1 (cv j).2.1 (cv j).2.2.1 (cv j).2.2.2.1 (cv j).2.2.2.2.1 (cv j).2.2.2.2.2.1 (cv j).2.2.2.2.2.2.1 (cv j).2.2.2.2.2.2.2.1 (cv j).2.2.2.2.2.2.2.2 (ch j) (gd + 1) 7 0 h hcj (hcp j hj).2.1 (hsep.2.1 j hj) (Or.inl rfl)) ok_X2_enter kw_145 kw_147 ks_5 ⟨Nat.le_of_ble_eq_true rfl, Nat.le_of_ble_eq_true rfl⟩ hK hM hS hA h rfl rfl hl.1 rfl (Nat.le_of_ble_eq_true rfl) dX2_weed_79 ⟨Nat.le_of_ble_eq_true rfl, Nat.le_of_ble_eq_true rfl⟩ (fun r_15 M_13 H locs hp_14 hM hS => ?_)
                obtain ⟨rfl, q, hq, e1, e2, e3, e4⟩ := hp_14
                have hI1 := hI.enter hj hq e1 e2 (by rw [← nI_1]; exact e3) e4
                refine W.eq (g2 := F0 m 82 ls []) rfl ?_
                refine lv_aload_n hx hb dX2_weed_82 rfl (lv_at hl 0 rfl) ?_
                refine lv_bipush (v := 7) hx hb dX2_weed_83 (by decide) ?_
                refine z_putN S kX0 hK hM hS e2 5 (by decide) kw_88 rfl rfl rfl (Nat.le_of_ble_eq_true rfl) dX2_weed_85 (fun H locs hM hS => ?_)
                obtain ⟨M_16, eM_17⟩ : ∃ z : zMap, z = zu M_13 (ca j) (.inr (0, [.int ((cv j).1), .long ((cv j).2.1), .int ((cv j).2.2.1), .int ((cv j).2.2.2.1), .int ((cv j).2.2.2.2.1), .int 7, .int ((cv j).2.2.2.2.2.2.1), .int ((cv j).2.2.2.2.2.2.2.1), .int ((cv j).2.2.2.2.2.2.2.2), va_rf (zHd (zIns (gd + 1) (q, gd + 1, 7, 0) (ch j)))])) := ⟨_, rfl⟩
                replace hM : zM A G M_16 H := by rw [eM_17]; exact hM
                have he_18 : M_16 (ca j) = some (.inr (0, [.int ((cv j).1), .long ((cv j).2.1), .int ((cv j).2.2.1), .int ((cv j).2.2.2.1), .int ((cv j).2.2.2.2.1), .int 7, .int ((cv j).2.2.2.2.2.2.1), .int ((cv j).2.2.2.2.2.2.2.1), .int ((cv j).2.2.2.2.2.2.2.2), va_rf (zHd (zIns (gd + 1) (q, gd + 1, 7, 0) (ch j)))])) := by rw [eM_17]; exact zu_s _ _ _
                have he_19 := (show M_16 h0 = M_13 h0 by rw [eM_17]; exact zu_n (zne e3 e2 (by simp))).trans e3
                have he_20 := (show M_16 fee = M_13 fee by rw [eM_17]; exact zu_n (zne hI1.2.2.2.1 e2 (by simp))).trans hI1.2.2.2.1
                refine lv_iconst (v := 2) hx hb dX2_weed_88 (by decide) ?_
                exact z_iret S hr hlocks hM hS (by unfold zWQ; rw [hz]; dsimp only; rw [if_pos ⟨c_4, c_5, c_6⟩, if_pos ⟨c_10, c_11⟩, if_neg c_12]; exact ⟨rfl, q, by
                  have h8 := hI1.setC hj ((cv j).1, (cv j).2.1, (cv j).2.2.1, (cv j).2.2.2.1, (cv j).2.2.2.2.1, 7, (cv j).2.2.2.2.2.2.1, (cv j).2.2.2.2.2.2.2.1, (cv j).2.2.2.2.2.2.2.2) (hcp j hj).2.2
                  rw [zuf_s] at h8
                  rw [eM_17]
                  exact h8⟩) (Nat.le_of_ble_eq_true rfl) (Nat.le_of_ble_eq_true rfl) dX2_weed_89
              · refine lv_aload_n hx hb dX2_weed_61 rfl (lv_at hl 0 rfl) ?_
                refine lv_iload_n hx hb dX2_weed_62 rfl (lv_at hl 3 rfl) ?_
                refine z_putN S kX0 hK hM hS hcj 8 (by decide) kw_94 rfl rfl rfl (Nat.le_of_ble_eq_true rfl) dX2_weed_63 (fun H locs hM hS => ?_)
                obtain ⟨M_21, eM_22⟩ : ∃ z : zMap, z = zu M (ca j) (.inr (0, [.int ((cv j).1), .long ((cv j).2.1), .int ((cv j).2.2.1), .int ((cv j).2.2.2.1), .int ((cv j).2.2.2.2.1), .int ((cv j).2.2.2.2.2.1), .int ((cv j).2.2.2.2.2.2.1), .int ((cv j).2.2.2.2.2.2.2.1), .int who, va_rf (zHd (ch j))])) := ⟨_, rfl⟩
                replace hM : zM A G M_21 H := by rw [eM_22]; exact hM
                have he_23 : M_21 (ca j) = some (.inr (0, [.int ((cv j).1), .long ((cv j).2.1), .int ((cv j).2.2.1), .int ((cv j).2.2.2.1), .int ((cv j).2.2.2.2.1), .int ((cv j).2.2.2.2.2.1), .int ((cv j).2.2.2.2.2.2.1), .int ((cv j).2.2.2.2.2.2.2.1), .int who, va_rf (zHd (ch j))])) := by rw [eM_22]; exact zu_s _ _ _
                have he_24 := (show M_21 h0 = M h0 by rw [eM_22]; exact zu_n (zne h hcj (by simp))).trans h
                have he_25 := (show M_21 cps = M cps by rw [eM_22]; exact zu_n (zne hc hcj (by simp))).trans hc
                have he_26 := (show M_21 den = M den by rw [eM_22]; exact zu_n (zne hd hcj (by simp))).trans hd
                have he_27 := (show M_21 fee = M fee by rw [eM_22]; exact zu_n (zne hf hcj (by simp))).trans hf
                refine lv_iconst (v := 1) hx hb dX2_weed_66 (by decide) ?_
                exact z_iret S hr hlocks hM hS (by unfold zWQ; rw [hz]; dsimp only; rw [if_pos ⟨c_4, c_5, c_6⟩, if_pos ⟨c_10, c_11⟩, if_pos c_12]; exact ⟨rfl, by rw [eM_22]; exact hI.setC hj ((cv j).1, (cv j).2.1, (cv j).2.2.1, (cv j).2.2.2.1, (cv j).2.2.2.2.1, (cv j).2.2.2.2.2.1, (cv j).2.2.2.2.2.2.1, (cv j).2.2.2.2.2.2.2.1, who) (hcp j hj).2.2⟩) (Nat.le_of_ble_eq_true rfl) (Nat.le_of_ble_eq_true rfl) dX2_weed_67
            · refine lv_bipush (v := -2) hx hb dX2_weed_50 (by decide) ?_
              exact z_iret S hr hlocks hM hS (by unfold zWQ; rw [hz]; dsimp only; rw [if_pos ⟨c_4, c_5, c_6⟩, if_neg (fun q => q.2 c_11)]; exact ⟨rfl, hI⟩) (Nat.le_of_ble_eq_true rfl) (Nat.le_of_ble_eq_true rfl) dX2_weed_52
        · refine lv_iconst (v := -1) hx hb dX2_weed_30 (by decide) ?_
          exact z_iret S hr hlocks hM hS (by unfold zWQ; rw [hz]; dsimp only; rw [if_neg (fun q => c_6 q.2.2)]; exact ⟨rfl, hI⟩) (Nat.le_of_ble_eq_true rfl) (Nat.le_of_ble_eq_true rfl) dX2_weed_31
set_option maxHeartbeats 4000000 in
set_option maxRecDepth 100000 in
theorem c_X2_act (l : Launch) (A : Nat → Prop) (G : zG) (M : zMap) (h0 cps den fee N : Nat) (ca : Nat → Nat) (cv : Nat → zCV) (ch : Nat → List (Nat × zEV)) (dn fe : Nat → Int32) (gd : Int64) (ec : Nat) (k kind place : Int32) (day : Int64) (hI : zI G M h0 cps den fee N ca cv ch dn fe gd ec) : zMet l yX2_act cX2_act 9 (some .int) { frames := 3, cells := 1, slots := 4, locals := 120 } [.ref h0, .int k, .int kind, .int place, .long day] A G M (zAQ G h0 cps den fee N ca cv ch dn fe gd ec k kind place day) := by
  refine zMet.of (by decide) (Nat.le_of_ble_eq_true rfl) ?_
  intro p e s m args below meth c ls S hr hlocks hnm hK hM hA hS hl
  have hl : lv_has ls 9 [(0, .ref h0), (1, .int k), (2, .int kind), (3, .int place), (4, .long day)] := hl
  have hx := S.1
  have hb := S.2.1
  have hown := S.2.2.2.1
  have hts := S.2.2.2.2
  have hr : meth.sig.returnType = some .int := hr
  obtain ⟨h, hc, hd, hf, hdf, hN, hcp, hsep⟩ := id hI
  refine lv_aload_n hx hb dX2_act_0 rfl (lv_at hl 0 rfl) ?_
  refine lv_iload_n hx hb dX2_act_1 rfl (lv_at hl 1 rfl) ?_
  refine z_callV (As := [.int k]) (rest := []) S (c_X2_find l A G M h0 cps (nI N) den fee gd (nI ec) (zF N ca) k h hc) ok_X2_find kw_64 kw_66 ks_2 ⟨Nat.le_of_ble_eq_true rfl, Nat.le_of_ble_eq_true rfl⟩ hK hM hS hA h rfl rfl hl.1 rfl (Nat.le_of_ble_eq_true rfl) dX2_act_2 ⟨Nat.le_of_ble_eq_true rfl, Nat.le_of_ble_eq_true rfl⟩ (fun r_3 M_1 H locs hp_2 hM hS => ?_)
  obtain ⟨rfl, hM9⟩ := hp_2
  rw [hM9] at hM
  rw [zFi_eq hN]
  refine W.eq (g2 := F0 m 5 ls [va_rf ((zIx N k).map ca)]) rfl ?_
  rcases hz : zIx N k with _ | j
  · refine W.eq (g2 := F0 m 5 ls [.null]) rfl ?_
    refine lv_astoreN (lv' := [(6, .null), (0, .ref h0), (1, .int k), (2, .int kind), (3, .int place), (4, .long day)]) hx hb dX2_act_5 hl (by decide) rfl (fun ls hl => ?_)
    refine lv_aloadN hx hb dX2_act_7 (lv_at hl 0 rfl) ?_
    refine lv_ifnullN (tgt := 38) hx hb dX2_act_9 (by decide) ?_
    refine lv_iconst (v := -1) hx hb dX2_act_38 (by decide) ?_
    exact z_iret S hr hlocks hM hS (by unfold zAQ; rw [hz]; exact ⟨rfl, hI⟩) (Nat.le_of_ble_eq_true rfl) (Nat.le_of_ble_eq_true rfl) dX2_act_39
  · refine W.eq (g2 := F0 m 5 ls [.ref (ca j)]) rfl ?_
    have hj := (zIx_some hN hz).1
    have hcj := (hcp j hj).1
    refine lv_astore (lv' := [(6, .ref (ca j)), (0, .ref h0), (1, .int k), (2, .int kind), (3, .int place), (4, .long day)]) hx hb dX2_act_5 hl (by decide) rfl (fun ls hl => ?_)
    refine lv_aload hx hb dX2_act_7 (lv_at hl 0 rfl) ?_
    refine lv_ifnull hx hb dX2_act_9 ?_
    refine lv_iload_n hx hb dX2_act_12 rfl (lv_at hl 3 rfl) ?_
    refine lv_if_lt (tgt := 38) hx hb dX2_act_13 (by decide) (fun c_4 => ?_) (fun c_4 => ?_)
    · refine lv_iconst (v := -1) hx hb dX2_act_38 (by decide) ?_
      exact z_iret S hr hlocks hM hS (by unfold zAQ; rw [hz]; dsimp only; rw [if_neg (fun q => q.1 c_4)]; exact ⟨rfl, hI⟩) (Nat.le_of_ble_eq_true rfl) (Nat.le_of_ble_eq_true rfl) dX2_act_39
    · refine lv_iload_n hx hb dX2_act_16 rfl (lv_at hl 3 rfl) ?_
      refine lv_bipush (v := 6) hx hb dX2_act_17 (by decide) ?_
      refine lv_icmp_gt (tgt := 38) hx hb dX2_act_19 (by decide) (fun c_5 => ?_) (fun c_5 => ?_)
      · refine lv_iconst (v := -1) hx hb dX2_act_38 (by decide) ?_
        exact z_iret S hr hlocks hM hS (by unfold zAQ; rw [hz]; dsimp only; rw [if_neg (fun q => q.2.1 c_5)]; exact ⟨rfl, hI⟩) (Nat.le_of_ble_eq_true rfl) (Nat.le_of_ble_eq_true rfl) dX2_act_39
      · refine lv_lload hx hb dX2_act_22 (lv_at hl 5 rfl) ?_
        refine lv_lconst (v := 0) hx hb dX2_act_24 (by decide) ?_
        refine W.lcmp hx hb dX2_act_25 ?_
        refine lv_if_lt (tgt := 38) hx hb dX2_act_26 (by decide) (fun c_6 => ?_) (fun c_6 => ?_)
        · rw [lg_cmp_lt] at c_6
          refine lv_iconst (v := -1) hx hb dX2_act_38 (by decide) ?_
          exact z_iret S hr hlocks hM hS (by unfold zAQ; rw [hz]; dsimp only; rw [if_neg (fun q => q.2.2.1 c_6)]; exact ⟨rfl, hI⟩) (Nat.le_of_ble_eq_true rfl) (Nat.le_of_ble_eq_true rfl) dX2_act_39
        · rw [lg_cmp_lt] at c_6
          refine lv_lload hx hb dX2_act_29 (lv_at hl 5 rfl) ?_
          refine lv_ldc2 (v := 1000000000000) hx hb hown (hts _ kw_131) dX2_act_31 ?_
          refine W.lcmp hx hb dX2_act_34 ?_
          refine lv_if_le (tgt := 40) hx hb dX2_act_35 (by decide) (fun c_7 => ?_) (fun c_7 => ?_)
          · rw [lg_cmp_le] at c_7
            refine lv_iload_n hx hb dX2_act_40 rfl (lv_at hl 3 rfl) ?_
            refine lv_iconst (v := 2) hx hb dX2_act_41 (by decide) ?_
            refine lv_icmp_ne (tgt := 63) hx hb dX2_act_42 (by decide) (fun c_8 => ?_) (fun c_8 => ?_)
            · refine lv_aload_n hx hb dX2_act_63 rfl (lv_at hl 1 rfl) ?_
              refine z_get (v := .int (nI ec)) S kX2 hK hM h 5 (by decide) kw_21 rfl dX2_act_64 ?_
              refine lv_sipush (v := 512) hx hb dX2_act_67 (by decide) ?_
              refine lv_icmp_lt (tgt := 75) hx hb dX2_act_70 (by decide) (fun c_9 => ?_) (fun c_9 => ?_)
              · refine lv_lload hx hb dX2_act_75 (lv_at hl 5 rfl) ?_
                refine lv_aload_n hx hb dX2_act_77 rfl (lv_at hl 1 rfl) ?_
                refine z_get (v := .long gd) S kX2 hK hM h 4 (by decide) kw_20 rfl dX2_act_78 ?_
                refine W.lcmp hx hb dX2_act_81 ?_
                refine lv_if_ge (tgt := 89) hx hb dX2_act_82 (by decide) (fun c_10 => ?_) (fun c_10 => ?_)
                · rw [lg_cmp_ge] at c_10
                  refine lv_iconst (v := 0) hx hb dX2_act_89 (by decide) ?_
                  refine lv_istore (lv' := [(7, .int 0), (6, .ref (ca j)), (0, .ref h0), (1, .int k), (2, .int kind), (3, .int place), (4, .long day)]) hx hb dX2_act_90 hl (by decide) rfl (fun ls hl => ?_)
                  refine lv_iload hx hb dX2_act_92 (lv_at hl 0 rfl) ?_
                  refine lv_if_eq (tgt := 107) hx hb dX2_act_94 (by decide) (fun c_11 => ?_) (fun c_11 => absurd c_11 (by decide))
                  refine lv_aload hx hb dX2_act_107 (lv_at hl 1 rfl) ?_
                  refine z_getN (v := .int ((cv j).2.2.2.2.2.1)) S kX0 hK hM hcj 5 (by decide) kw_88 rfl dX2_act_109 ?_
                  refine lv_istore (lv' := [(8, .int ((cv j).2.2.2.2.2.1)), (7, .int 0), (6, .ref (ca j)), (0, .ref h0), (1, .int k), (2, .int kind), (3, .int place), (4, .long day)]) hx hb dX2_act_112 hl (by decide) rfl (fun ls hl => ?_)
                  refine lv_iload_n hx hb dX2_act_114 rfl (lv_at hl 5 rfl) ?_
                  refine lv_iload hx hb dX2_act_115 (lv_at hl 0 rfl) ?_
                  refine z_callS (As := [.int kind, .int ((cv j).2.2.2.2.2.1)]) (rest := []) S (c_X2_canFollow l A G M kind ((cv j).2.2.2.2.2.1)) ok_X2_canFollow kw_138 kw_139 ⟨Nat.le_of_ble_eq_true rfl, Nat.le_of_ble_eq_true rfl⟩ hK hM hS hA rfl hl.1 rfl (Nat.le_of_ble_eq_true rfl) dX2_act_117 ⟨Nat.le_of_ble_eq_true rfl, Nat.le_of_ble_eq_true rfl⟩ (fun r_14 M_12 H locs hp_13 hM hS => ?_)
                  obtain ⟨rfl, hM9⟩ := hp_13
                  rw [hM9] at hM
                  refine W.eq (g2 := F0 m 120 ls [.int (zb (zFo kind ((cv j).2.2.2.2.2.1)))]) rfl ?_
                  refine lv_if_ne (tgt := 126) hx hb dX2_act_120 (by decide) (fun c_15 => ?_) (fun c_15 => ?_)
                  · rw [zb_0n] at c_15
                    refine lv_aload_n hx hb dX2_act_126 rfl (lv_at hl 3 rfl) ?_
                    refine lv_aload hx hb dX2_act_127 (lv_at hl 2 rfl) ?_
                    refine lv_iload_n hx hb dX2_act_129 rfl (lv_at hl 5 rfl) ?_
                    refine lv_iload_n hx hb dX2_act_130 rfl (lv_at hl 6 rfl) ?_
                    refine lv_iload hx hb dX2_act_131 (lv_at hl 1 rfl) ?_
                    refine z_callV (As := [.ref (ca j), .int kind, .int place, .int 0]) (rest := []) S (c_X2_lacksRight l A G M h0 cps (nI N) den fee gd (nI ec) dn (ca j) (cv j).1 (cv j).2.1 (cv j).2.2.1 (cv j).2.2.2.1 (cv j).2.2.2.2.1 (cv j).2.2.2.2.2.1 (cv j).2.2.2.2.2.2.1 (cv j).2.2.2.2.2.2.2.1 (cv j).2.2.2.2.2.2.2.2 (zHd (ch j)) kind place 0 h hd hcj) ok_X2_lacksRight kw_141 kw_143 ks_4 ⟨Nat.le_of_ble_eq_true rfl, Nat.le_of_ble_eq_true rfl⟩ hK hM hS hA h rfl rfl hl.1 rfl (Nat.le_of_ble_eq_true rfl) dX2_act_133 ⟨Nat.le_of_ble_eq_true rfl, Nat.le_of_ble_eq_true rfl⟩ (fun r_18 M_16 H locs hp_17 hM hS => ?_)
                    obtain ⟨rfl, hM9⟩ := hp_17
                    rw [hM9] at hM
                    refine W.eq (g2 := F0 m 136 ls [.int (zb (zLk dn kind place 0 (cv j).2.2.2.2.2.1 (cv j).2.2.2.2.1 (cv j).1))]) rfl ?_
                    refine lv_if_eq (tgt := 142) hx hb dX2_act_136 (by decide) (fun c_19 => ?_) (fun c_19 => ?_)
                    · rw [zb_0] at c_19
                      refine lv_aload_n hx hb dX2_act_142 rfl (lv_at hl 3 rfl) ?_
                      refine lv_aload hx hb dX2_act_143 (lv_at hl 2 rfl) ?_
                      refine lv_lload hx hb dX2_act_145 (lv_at hl 7 rfl) ?_
                      refine lv_iload_n hx hb dX2_act_147 rfl (lv_at hl 5 rfl) ?_
                      refine lv_iload hx hb dX2_act_148 (lv_at hl 1 rfl) ?_
                      refine z_callV (As := [.ref (ca j), .long day, .int kind, .int 0]) (rest := []) S (c_X2_enter l A G M h0 cps (nI N) den fee gd (nI ec) (ca j) (cv j).1 (cv j).2.1 (cv j).2.2.1 (cv j).2.2.2.1 (cv j).2.2.2.2.1 (cv j).2.2.2.2.2.1 (cv j).2.2.2.2.2.2.1 (cv j).2.2.2.2.2.2.2.1 (cv j).2.2.2.2.2.2.2.2 (ch j) day kind 0 h hcj (hcp j hj).2.1 (hsep.2.1 j hj) (Or.inl rfl)) ok_X2_enter kw_145 kw_147 ks_5 ⟨Nat.le_of_ble_eq_true rfl, Nat.le_of_ble_eq_true rfl⟩ hK hM hS hA h rfl rfl hl.1 rfl (Nat.le_of_ble_eq_true rfl) dX2_act_150 ⟨Nat.le_of_ble_eq_true rfl, Nat.le_of_ble_eq_true rfl⟩ (fun r_22 M_20 H locs hp_21 hM hS => ?_)
                      obtain ⟨rfl, q, hq, e1, e2, e3, e4⟩ := hp_21
                      have hI1 := hI.enter hj hq e1 e2 (by rw [← nI_1]; exact e3) e4
                      refine W.eq (g2 := F0 m 153 ls []) rfl ?_
                      refine lv_iload hx hb dX2_act_153 (lv_at hl 1 rfl) ?_
                      refine lv_if_ne (tgt := 166) hx hb dX2_act_155 (by decide) (fun c_23 => absurd c_23 (by decide)) (fun c_23 => ?_)
                      refine lv_aload_n hx hb dX2_act_158 rfl (lv_at hl 3 rfl) ?_
                      refine lv_aload hx hb dX2_act_159 (lv_at hl 2 rfl) ?_
                      refine lv_iload_n hx hb dX2_act_161 rfl (lv_at hl 5 rfl) ?_
                      refine lv_iload_n hx hb dX2_act_162 rfl (lv_at hl 6 rfl) ?_
                      refine z_callV (As := [.ref (ca j), .int kind, .int place]) (rest := []) S (c_X2_carryOut l A G M_20 h0 cps (nI N) den fee (if day < gd then gd else day) (nI ec + 1) fe (ca j) (cv j).1 (cv j).2.1 (cv j).2.2.1 (cv j).2.2.2.1 (cv j).2.2.2.2.1 (cv j).2.2.2.2.2.1 (cv j).2.2.2.2.2.2.1 (cv j).2.2.2.2.2.2.2.1 (cv j).2.2.2.2.2.2.2.2 (zHd (zIns day (q, day, kind, 0) (ch j))) kind place e3 hI1.2.2.2.1 e2) ok_X2_carryOut kw_175 kw_177 ks_6 ⟨Nat.le_of_ble_eq_true rfl, Nat.le_of_ble_eq_true rfl⟩ hK hM hS hA e3 rfl rfl hl.1 rfl (Nat.le_of_ble_eq_true rfl) dX2_act_163 ⟨Nat.le_of_ble_eq_true rfl, Nat.le_of_ble_eq_true rfl⟩ (fun r_26 M_24 H locs hp_25 hM hS => ?_)
                      obtain ⟨rfl, eM_27⟩ := hp_25
                      refine W.eq (g2 := F0 m 166 ls []) rfl ?_
                      refine lv_iload_n hx hb dX2_act_166 rfl (lv_at hl 5 rfl) ?_
                      exact z_iret S hr hlocks hM hS (by unfold zAQ; rw [hz]; dsimp only; rw [if_pos ⟨c_4, c_5, c_6, c_7, fun q => absurd q c_8, c_9⟩, zBe_n (Int64.not_lt.mpr c_10)]; rw [if_pos c_15, zb_f (Int64.not_lt.mpr c_10)]; rw [if_neg c_19, if_neg (Int64.not_lt.mpr c_10)]; exact ⟨rfl, q, by rw [eM_27]; exact zI_co hI1 hj⟩) (Nat.le_of_ble_eq_true rfl) (Nat.le_of_ble_eq_true rfl) dX2_act_167
                    · rw [zb_0n] at c_19
                      refine lv_bipush (v := -3) hx hb dX2_act_139 (by decide) ?_
                      exact z_iret S hr hlocks hM hS (by unfold zAQ; rw [hz]; dsimp only; rw [if_pos ⟨c_4, c_5, c_6, c_7, fun q => absurd q c_8, c_9⟩, zBe_n (Int64.not_lt.mpr c_10)]; rw [if_pos c_15, zb_f (Int64.not_lt.mpr c_10)]; rw [if_pos c_19]; exact ⟨rfl, hI⟩) (Nat.le_of_ble_eq_true rfl) (Nat.le_of_ble_eq_true rfl) dX2_act_141
                  · rw [zb_0] at c_15
                    refine lv_bipush (v := -2) hx hb dX2_act_123 (by decide) ?_
                    exact z_iret S hr hlocks hM hS (by unfold zAQ; rw [hz]; dsimp only; rw [if_pos ⟨c_4, c_5, c_6, c_7, fun q => absurd q c_8, c_9⟩, zBe_n (Int64.not_lt.mpr c_10)]; rw [if_neg c_15]; exact ⟨rfl, hI⟩) (Nat.le_of_ble_eq_true rfl) (Nat.le_of_ble_eq_true rfl) dX2_act_125
                · rw [lg_cmp_ge] at c_10
                  refine lv_iconst (v := 1) hx hb dX2_act_85 (by decide) ?_
                  refine lv_goto (tgt := 90) hx hb dX2_act_86 (by decide) ?_
                  refine lv_istore (lv' := [(7, .int 1), (6, .ref (ca j)), (0, .ref h0), (1, .int k), (2, .int kind), (3, .int place), (4, .long day)]) hx hb dX2_act_90 hl (by decide) rfl (fun ls hl => ?_)
                  refine lv_iload hx hb dX2_act_92 (lv_at hl 0 rfl) ?_
                  refine lv_if_eq (tgt := 107) hx hb dX2_act_94 (by decide) (fun c_28 => absurd c_28 (by decide)) (fun c_28 => ?_)
                  refine lv_aload hx hb dX2_act_97 (lv_at hl 1 rfl) ?_
                  refine lv_lload hx hb dX2_act_99 (lv_at hl 6 rfl) ?_
                  refine z_callS (As := [.ref (ca j), .long day]) (rest := []) S (c_X2_stateOn l A G M (ca j) (cv j).1 (cv j).2.1 (cv j).2.2.1 (cv j).2.2.2.1 (cv j).2.2.2.2.1 (cv j).2.2.2.2.2.1 (cv j).2.2.2.2.2.2.1 (cv j).2.2.2.2.2.2.2.1 (cv j).2.2.2.2.2.2.2.2 (ch j) day hcj (hcp j hj).2.1) ok_X2_stateOn kw_132 kw_133 ⟨Nat.le_of_ble_eq_true rfl, Nat.le_of_ble_eq_true rfl⟩ hK hM hS hA rfl hl.1 rfl (Nat.le_of_ble_eq_true rfl) dX2_act_101 ⟨Nat.le_of_ble_eq_true rfl, Nat.le_of_ble_eq_true rfl⟩ (fun r_31 M_29 H locs hp_30 hM hS => ?_)
                  obtain ⟨rfl, hM9⟩ := hp_30
                  rw [hM9] at hM
                  refine W.eq (g2 := F0 m 104 ls [.int (zSt day (ch j))]) rfl ?_
                  refine lv_goto (tgt := 112) hx hb dX2_act_104 (by decide) ?_
                  refine lv_istore (lv' := [(8, .int (zSt day (ch j))), (7, .int 1), (6, .ref (ca j)), (0, .ref h0), (1, .int k), (2, .int kind), (3, .int place), (4, .long day)]) hx hb dX2_act_112 hl (by decide) rfl (fun ls hl => ?_)
                  refine lv_iload_n hx hb dX2_act_114 rfl (lv_at hl 5 rfl) ?_
                  refine lv_iload hx hb dX2_act_115 (lv_at hl 0 rfl) ?_
                  refine z_callS (As := [.int kind, .int (zSt day (ch j))]) (rest := []) S (c_X2_canFollow l A G M kind (zSt day (ch j))) ok_X2_canFollow kw_138 kw_139 ⟨Nat.le_of_ble_eq_true rfl, Nat.le_of_ble_eq_true rfl⟩ hK hM hS hA rfl hl.1 rfl (Nat.le_of_ble_eq_true rfl) dX2_act_117 ⟨Nat.le_of_ble_eq_true rfl, Nat.le_of_ble_eq_true rfl⟩ (fun r_34 M_32 H locs hp_33 hM hS => ?_)
                  obtain ⟨rfl, hM9⟩ := hp_33
                  rw [hM9] at hM
                  refine W.eq (g2 := F0 m 120 ls [.int (zb (zFo kind (zSt day (ch j))))]) rfl ?_
                  refine lv_if_ne (tgt := 126) hx hb dX2_act_120 (by decide) (fun c_35 => ?_) (fun c_35 => ?_)
                  · rw [zb_0n] at c_35
                    refine lv_aload_n hx hb dX2_act_126 rfl (lv_at hl 3 rfl) ?_
                    refine lv_aload hx hb dX2_act_127 (lv_at hl 2 rfl) ?_
                    refine lv_iload_n hx hb dX2_act_129 rfl (lv_at hl 5 rfl) ?_
                    refine lv_iload_n hx hb dX2_act_130 rfl (lv_at hl 6 rfl) ?_
                    refine lv_iload hx hb dX2_act_131 (lv_at hl 1 rfl) ?_
                    refine z_callV (As := [.ref (ca j), .int kind, .int place, .int 1]) (rest := []) S (c_X2_lacksRight l A G M h0 cps (nI N) den fee gd (nI ec) dn (ca j) (cv j).1 (cv j).2.1 (cv j).2.2.1 (cv j).2.2.2.1 (cv j).2.2.2.2.1 (cv j).2.2.2.2.2.1 (cv j).2.2.2.2.2.2.1 (cv j).2.2.2.2.2.2.2.1 (cv j).2.2.2.2.2.2.2.2 (zHd (ch j)) kind place 1 h hd hcj) ok_X2_lacksRight kw_141 kw_143 ks_4 ⟨Nat.le_of_ble_eq_true rfl, Nat.le_of_ble_eq_true rfl⟩ hK hM hS hA h rfl rfl hl.1 rfl (Nat.le_of_ble_eq_true rfl) dX2_act_133 ⟨Nat.le_of_ble_eq_true rfl, Nat.le_of_ble_eq_true rfl⟩ (fun r_38 M_36 H locs hp_37 hM hS => ?_)
                    obtain ⟨rfl, hM9⟩ := hp_37
                    rw [hM9] at hM
                    refine W.eq (g2 := F0 m 136 ls [.int (zb (zLk dn kind place 1 (cv j).2.2.2.2.2.1 (cv j).2.2.2.2.1 (cv j).1))]) rfl ?_
                    refine lv_if_eq (tgt := 142) hx hb dX2_act_136 (by decide) (fun c_39 => ?_) (fun c_39 => ?_)
                    · rw [zb_0] at c_39
                      refine lv_aload_n hx hb dX2_act_142 rfl (lv_at hl 3 rfl) ?_
                      refine lv_aload hx hb dX2_act_143 (lv_at hl 2 rfl) ?_
                      refine lv_lload hx hb dX2_act_145 (lv_at hl 7 rfl) ?_
                      refine lv_iload_n hx hb dX2_act_147 rfl (lv_at hl 5 rfl) ?_
                      refine lv_iload hx hb dX2_act_148 (lv_at hl 1 rfl) ?_
                      refine z_callV (As := [.ref (ca j), .long day, .int kind, .int 1]) (rest := []) S (c_X2_enter l A G M h0 cps (nI N) den fee gd (nI ec) (ca j) (cv j).1 (cv j).2.1 (cv j).2.2.1 (cv j).2.2.2.1 (cv j).2.2.2.2.1 (cv j).2.2.2.2.2.1 (cv j).2.2.2.2.2.2.1 (cv j).2.2.2.2.2.2.2.1 (cv j).2.2.2.2.2.2.2.2 (ch j) day kind 1 h hcj (hcp j hj).2.1 (hsep.2.1 j hj) (Or.inr rfl)) ok_X2_enter kw_145 kw_147 ks_5 ⟨Nat.le_of_ble_eq_true rfl, Nat.le_of_ble_eq_true rfl⟩ hK hM hS hA h rfl rfl hl.1 rfl (Nat.le_of_ble_eq_true rfl) dX2_act_150 ⟨Nat.le_of_ble_eq_true rfl, Nat.le_of_ble_eq_true rfl⟩ (fun r_42 M_40 H locs hp_41 hM hS => ?_)
                      obtain ⟨rfl, q, hq, e1, e2, e3, e4⟩ := hp_41
                      have hI1 := hI.enter hj hq e1 e2 (by rw [← nI_1]; exact e3) e4
                      refine W.eq (g2 := F0 m 153 ls []) rfl ?_
                      refine lv_iload hx hb dX2_act_153 (lv_at hl 1 rfl) ?_
                      refine lv_if_ne (tgt := 166) hx hb dX2_act_155 (by decide) (fun c_43 => ?_) (fun c_43 => absurd c_43 (by decide))
                      refine lv_iload_n hx hb dX2_act_166 rfl (lv_at hl 5 rfl) ?_
                      exact z_iret S hr hlocks hM hS (by unfold zAQ; rw [hz]; dsimp only; rw [if_pos ⟨c_4, c_5, c_6, c_7, fun q => absurd q c_8, c_9⟩, zBe_l (Int64.not_le.mp c_10)]; rw [if_pos c_35, zb_t (Int64.not_le.mp c_10)]; rw [if_neg c_39, if_pos (Int64.not_le.mp c_10)]; exact ⟨rfl, q, hI1⟩) (Nat.le_of_ble_eq_true rfl) (Nat.le_of_ble_eq_true rfl) dX2_act_167
                    · rw [zb_0n] at c_39
                      refine lv_bipush (v := -3) hx hb dX2_act_139 (by decide) ?_
                      exact z_iret S hr hlocks hM hS (by unfold zAQ; rw [hz]; dsimp only; rw [if_pos ⟨c_4, c_5, c_6, c_7, fun q => absurd q c_8, c_9⟩, zBe_l (Int64.not_le.mp c_10)]; rw [if_pos c_35, zb_t (Int64.not_le.mp c_10)]; rw [if_pos c_39]; exact ⟨rfl, hI⟩) (Nat.le_of_ble_eq_true rfl) (Nat.le_of_ble_eq_true rfl) dX2_act_141
                  · rw [zb_0] at c_35
                    refine lv_bipush (v := -2) hx hb dX2_act_123 (by decide) ?_
                    exact z_iret S hr hlocks hM hS (by unfold zAQ; rw [hz]; dsimp only; rw [if_pos ⟨c_4, c_5, c_6, c_7, fun q => absurd q c_8, c_9⟩, zBe_l (Int64.not_le.mp c_10)]; rw [if_neg c_35]; exact ⟨rfl, hI⟩) (Nat.le_of_ble_eq_true rfl) (Nat.le_of_ble_eq_true rfl) dX2_act_125
              · refine lv_iconst (v := -1) hx hb dX2_act_73 (by decide) ?_
                exact z_iret S hr hlocks hM hS (by unfold zAQ; rw [hz]; dsimp only; rw [if_neg (fun q => c_9 q.2.2.2.2.2)]; exact ⟨rfl, hI⟩) (Nat.le_of_ble_eq_true rfl) (Nat.le_of_ble_eq_true rfl) dX2_act_74
            · have hk2 := c_8
              refine lv_iload_n hx hb dX2_act_45 rfl (lv_at hl 4 rfl) ?_
              refine z_callS (As := [.int place]) (rest := []) S (c_X2_isPlace l A G M place) ok_X2_isPlace kw_52 kw_53 ⟨Nat.le_of_ble_eq_true rfl, Nat.le_of_ble_eq_true rfl⟩ hK hM hS hA rfl hl.1 rfl (Nat.le_of_ble_eq_true rfl) dX2_act_46 ⟨Nat.le_of_ble_eq_true rfl, Nat.le_of_ble_eq_true rfl⟩ (fun r_46 M_44 H locs hp_45 hM hS => ?_)
              obtain ⟨rfl, hM9⟩ := hp_45
              rw [hM9] at hM
              refine W.eq (g2 := F0 m 49 ls [.int (zb (zPl place))]) rfl ?_
              refine lv_if_eq (tgt := 61) hx hb dX2_act_49 (by decide) (fun c_47 => ?_) (fun c_47 => ?_)
              · rw [zb_0] at c_47
                refine lv_iconst (v := -1) hx hb dX2_act_61 (by decide) ?_
                exact z_iret S hr hlocks hM hS (by unfold zAQ; rw [hz]; dsimp only; rw [if_neg (fun q => c_47 (q.2.2.2.2.1 hk2).1)]; exact ⟨rfl, hI⟩) (Nat.le_of_ble_eq_true rfl) (Nat.le_of_ble_eq_true rfl) dX2_act_62
              · rw [zb_0n] at c_47
                refine lv_iload_n hx hb dX2_act_52 rfl (lv_at hl 4 rfl) ?_
                refine lv_aload hx hb dX2_act_53 (lv_at hl 0 rfl) ?_
                refine z_getN (v := .int ((cv j).2.2.2.2.1)) S kX0 hK hM hcj 4 (by decide) kw_86 rfl dX2_act_55 ?_
                refine lv_icmp_ne (tgt := 63) hx hb dX2_act_58 (by decide) (fun c_48 => ?_) (fun c_48 => ?_)
                · refine lv_aload_n hx hb dX2_act_63 rfl (lv_at hl 1 rfl) ?_
                  refine z_get (v := .int (nI ec)) S kX2 hK hM h 5 (by decide) kw_21 rfl dX2_act_64 ?_
                  refine lv_sipush (v := 512) hx hb dX2_act_67 (by decide) ?_
                  refine lv_icmp_lt (tgt := 75) hx hb dX2_act_70 (by decide) (fun c_49 => ?_) (fun c_49 => ?_)
                  · refine lv_lload hx hb dX2_act_75 (lv_at hl 5 rfl) ?_
                    refine lv_aload_n hx hb dX2_act_77 rfl (lv_at hl 1 rfl) ?_
                    refine z_get (v := .long gd) S kX2 hK hM h 4 (by decide) kw_20 rfl dX2_act_78 ?_
                    refine W.lcmp hx hb dX2_act_81 ?_
                    refine lv_if_ge (tgt := 89) hx hb dX2_act_82 (by decide) (fun c_50 => ?_) (fun c_50 => ?_)
                    · rw [lg_cmp_ge] at c_50
                      refine lv_iconst (v := 0) hx hb dX2_act_89 (by decide) ?_
                      refine lv_istore (lv' := [(7, .int 0), (6, .ref (ca j)), (0, .ref h0), (1, .int k), (2, .int kind), (3, .int place), (4, .long day)]) hx hb dX2_act_90 hl (by decide) rfl (fun ls hl => ?_)
                      refine lv_iload hx hb dX2_act_92 (lv_at hl 0 rfl) ?_
                      refine lv_if_eq (tgt := 107) hx hb dX2_act_94 (by decide) (fun c_51 => ?_) (fun c_51 => absurd c_51 (by decide))
                      refine lv_aload hx hb dX2_act_107 (lv_at hl 1 rfl) ?_
                      refine z_getN (v := .int ((cv j).2.2.2.2.2.1)) S kX0 hK hM hcj 5 (by decide) kw_88 rfl dX2_act_109 ?_
                      refine lv_istore (lv' := [(8, .int ((cv j).2.2.2.2.2.1)), (7, .int 0), (6, .ref (ca j)), (0, .ref h0), (1, .int k), (2, .int kind), (3, .int place), (4, .long day)]) hx hb dX2_act_112 hl (by decide) rfl (fun ls hl => ?_)
                      refine lv_iload_n hx hb dX2_act_114 rfl (lv_at hl 5 rfl) ?_
                      refine lv_iload hx hb dX2_act_115 (lv_at hl 0 rfl) ?_
                      refine z_callS (As := [.int kind, .int ((cv j).2.2.2.2.2.1)]) (rest := []) S (c_X2_canFollow l A G M kind ((cv j).2.2.2.2.2.1)) ok_X2_canFollow kw_138 kw_139 ⟨Nat.le_of_ble_eq_true rfl, Nat.le_of_ble_eq_true rfl⟩ hK hM hS hA rfl hl.1 rfl (Nat.le_of_ble_eq_true rfl) dX2_act_117 ⟨Nat.le_of_ble_eq_true rfl, Nat.le_of_ble_eq_true rfl⟩ (fun r_54 M_52 H locs hp_53 hM hS => ?_)
                      obtain ⟨rfl, hM9⟩ := hp_53
                      rw [hM9] at hM
                      refine W.eq (g2 := F0 m 120 ls [.int (zb (zFo kind ((cv j).2.2.2.2.2.1)))]) rfl ?_
                      refine lv_if_ne (tgt := 126) hx hb dX2_act_120 (by decide) (fun c_55 => ?_) (fun c_55 => ?_)
                      · rw [zb_0n] at c_55
                        refine lv_aload_n hx hb dX2_act_126 rfl (lv_at hl 3 rfl) ?_
                        refine lv_aload hx hb dX2_act_127 (lv_at hl 2 rfl) ?_
                        refine lv_iload_n hx hb dX2_act_129 rfl (lv_at hl 5 rfl) ?_
                        refine lv_iload_n hx hb dX2_act_130 rfl (lv_at hl 6 rfl) ?_
                        refine lv_iload hx hb dX2_act_131 (lv_at hl 1 rfl) ?_
                        refine z_callV (As := [.ref (ca j), .int kind, .int place, .int 0]) (rest := []) S (c_X2_lacksRight l A G M h0 cps (nI N) den fee gd (nI ec) dn (ca j) (cv j).1 (cv j).2.1 (cv j).2.2.1 (cv j).2.2.2.1 (cv j).2.2.2.2.1 (cv j).2.2.2.2.2.1 (cv j).2.2.2.2.2.2.1 (cv j).2.2.2.2.2.2.2.1 (cv j).2.2.2.2.2.2.2.2 (zHd (ch j)) kind place 0 h hd hcj) ok_X2_lacksRight kw_141 kw_143 ks_4 ⟨Nat.le_of_ble_eq_true rfl, Nat.le_of_ble_eq_true rfl⟩ hK hM hS hA h rfl rfl hl.1 rfl (Nat.le_of_ble_eq_true rfl) dX2_act_133 ⟨Nat.le_of_ble_eq_true rfl, Nat.le_of_ble_eq_true rfl⟩ (fun r_58 M_56 H locs hp_57 hM hS => ?_)
                        obtain ⟨rfl, hM9⟩ := hp_57
                        rw [hM9] at hM
                        refine W.eq (g2 := F0 m 136 ls [.int (zb (zLk dn kind place 0 (cv j).2.2.2.2.2.1 (cv j).2.2.2.2.1 (cv j).1))]) rfl ?_
                        refine lv_if_eq (tgt := 142) hx hb dX2_act_136 (by decide) (fun c_59 => ?_) (fun c_59 => ?_)
                        · rw [zb_0] at c_59
                          refine lv_aload_n hx hb dX2_act_142 rfl (lv_at hl 3 rfl) ?_
                          refine lv_aload hx hb dX2_act_143 (lv_at hl 2 rfl) ?_
                          refine lv_lload hx hb dX2_act_145 (lv_at hl 7 rfl) ?_
                          refine lv_iload_n hx hb dX2_act_147 rfl (lv_at hl 5 rfl) ?_
                          refine lv_iload hx hb dX2_act_148 (lv_at hl 1 rfl) ?_
                          refine z_callV (As := [.ref (ca j), .long day, .int kind, .int 0]) (rest := []) S (c_X2_enter l A G M h0 cps (nI N) den fee gd (nI ec) (ca j) (cv j).1 (cv j).2.1 (cv j).2.2.1 (cv j).2.2.2.1 (cv j).2.2.2.2.1 (cv j).2.2.2.2.2.1 (cv j).2.2.2.2.2.2.1 (cv j).2.2.2.2.2.2.2.1 (cv j).2.2.2.2.2.2.2.2 (ch j) day kind 0 h hcj (hcp j hj).2.1 (hsep.2.1 j hj) (Or.inl rfl)) ok_X2_enter kw_145 kw_147 ks_5 ⟨Nat.le_of_ble_eq_true rfl, Nat.le_of_ble_eq_true rfl⟩ hK hM hS hA h rfl rfl hl.1 rfl (Nat.le_of_ble_eq_true rfl) dX2_act_150 ⟨Nat.le_of_ble_eq_true rfl, Nat.le_of_ble_eq_true rfl⟩ (fun r_62 M_60 H locs hp_61 hM hS => ?_)
                          obtain ⟨rfl, q, hq, e1, e2, e3, e4⟩ := hp_61
                          have hI1 := hI.enter hj hq e1 e2 (by rw [← nI_1]; exact e3) e4
                          refine W.eq (g2 := F0 m 153 ls []) rfl ?_
                          refine lv_iload hx hb dX2_act_153 (lv_at hl 1 rfl) ?_
                          refine lv_if_ne (tgt := 166) hx hb dX2_act_155 (by decide) (fun c_63 => absurd c_63 (by decide)) (fun c_63 => ?_)
                          refine lv_aload_n hx hb dX2_act_158 rfl (lv_at hl 3 rfl) ?_
                          refine lv_aload hx hb dX2_act_159 (lv_at hl 2 rfl) ?_
                          refine lv_iload_n hx hb dX2_act_161 rfl (lv_at hl 5 rfl) ?_
                          refine lv_iload_n hx hb dX2_act_162 rfl (lv_at hl 6 rfl) ?_
                          refine z_callV (As := [.ref (ca j), .int kind, .int place]) (rest := []) S (c_X2_carryOut l A G M_60 h0 cps (nI N) den fee (if day < gd then gd else day) (nI ec + 1) fe (ca j) (cv j).1 (cv j).2.1 (cv j).2.2.1 (cv j).2.2.2.1 (cv j).2.2.2.2.1 (cv j).2.2.2.2.2.1 (cv j).2.2.2.2.2.2.1 (cv j).2.2.2.2.2.2.2.1 (cv j).2.2.2.2.2.2.2.2 (zHd (zIns day (q, day, kind, 0) (ch j))) kind place e3 hI1.2.2.2.1 e2) ok_X2_carryOut kw_175 kw_177 ks_6 ⟨Nat.le_of_ble_eq_true rfl, Nat.le_of_ble_eq_true rfl⟩ hK hM hS hA e3 rfl rfl hl.1 rfl (Nat.le_of_ble_eq_true rfl) dX2_act_163 ⟨Nat.le_of_ble_eq_true rfl, Nat.le_of_ble_eq_true rfl⟩ (fun r_66 M_64 H locs hp_65 hM hS => ?_)
                          obtain ⟨rfl, eM_67⟩ := hp_65
                          refine W.eq (g2 := F0 m 166 ls []) rfl ?_
                          refine lv_iload_n hx hb dX2_act_166 rfl (lv_at hl 5 rfl) ?_
                          exact z_iret S hr hlocks hM hS (by unfold zAQ; rw [hz]; dsimp only; rw [if_pos ⟨c_4, c_5, c_6, c_7, fun _ => ⟨c_47, c_48⟩, c_49⟩, zBe_n (Int64.not_lt.mpr c_50)]; rw [if_pos c_55, zb_f (Int64.not_lt.mpr c_50)]; rw [if_neg c_59, if_neg (Int64.not_lt.mpr c_50)]; exact ⟨rfl, q, by rw [eM_67]; exact zI_co hI1 hj⟩) (Nat.le_of_ble_eq_true rfl) (Nat.le_of_ble_eq_true rfl) dX2_act_167
                        · rw [zb_0n] at c_59
                          refine lv_bipush (v := -3) hx hb dX2_act_139 (by decide) ?_
                          exact z_iret S hr hlocks hM hS (by unfold zAQ; rw [hz]; dsimp only; rw [if_pos ⟨c_4, c_5, c_6, c_7, fun _ => ⟨c_47, c_48⟩, c_49⟩, zBe_n (Int64.not_lt.mpr c_50)]; rw [if_pos c_55, zb_f (Int64.not_lt.mpr c_50)]; rw [if_pos c_59]; exact ⟨rfl, hI⟩) (Nat.le_of_ble_eq_true rfl) (Nat.le_of_ble_eq_true rfl) dX2_act_141
                      · rw [zb_0] at c_55
                        refine lv_bipush (v := -2) hx hb dX2_act_123 (by decide) ?_
                        exact z_iret S hr hlocks hM hS (by unfold zAQ; rw [hz]; dsimp only; rw [if_pos ⟨c_4, c_5, c_6, c_7, fun _ => ⟨c_47, c_48⟩, c_49⟩, zBe_n (Int64.not_lt.mpr c_50)]; rw [if_neg c_55]; exact ⟨rfl, hI⟩) (Nat.le_of_ble_eq_true rfl) (Nat.le_of_ble_eq_true rfl) dX2_act_125
                    · rw [lg_cmp_ge] at c_50
                      refine lv_iconst (v := 1) hx hb dX2_act_85 (by decide) ?_
                      refine lv_goto (tgt := 90) hx hb dX2_act_86 (by decide) ?_
                      refine lv_istore (lv' := [(7, .int 1), (6, .ref (ca j)), (0, .ref h0), (1, .int k), (2, .int kind), (3, .int place), (4, .long day)]) hx hb dX2_act_90 hl (by decide) rfl (fun ls hl => ?_)
                      refine lv_iload hx hb dX2_act_92 (lv_at hl 0 rfl) ?_
                      refine lv_if_eq (tgt := 107) hx hb dX2_act_94 (by decide) (fun c_68 => absurd c_68 (by decide)) (fun c_68 => ?_)
                      refine lv_aload hx hb dX2_act_97 (lv_at hl 1 rfl) ?_
                      refine lv_lload hx hb dX2_act_99 (lv_at hl 6 rfl) ?_
                      refine z_callS (As := [.ref (ca j), .long day]) (rest := []) S (c_X2_stateOn l A G M (ca j) (cv j).1 (cv j).2.1 (cv j).2.2.1 (cv j).2.2.2.1 (cv j).2.2.2.2.1 (cv j).2.2.2.2.2.1 (cv j).2.2.2.2.2.2.1 (cv j).2.2.2.2.2.2.2.1 (cv j).2.2.2.2.2.2.2.2 (ch j) day hcj (hcp j hj).2.1) ok_X2_stateOn kw_132 kw_133 ⟨Nat.le_of_ble_eq_true rfl, Nat.le_of_ble_eq_true rfl⟩ hK hM hS hA rfl hl.1 rfl (Nat.le_of_ble_eq_true rfl) dX2_act_101 ⟨Nat.le_of_ble_eq_true rfl, Nat.le_of_ble_eq_true rfl⟩ (fun r_71 M_69 H locs hp_70 hM hS => ?_)
                      obtain ⟨rfl, hM9⟩ := hp_70
                      rw [hM9] at hM
                      refine W.eq (g2 := F0 m 104 ls [.int (zSt day (ch j))]) rfl ?_
                      refine lv_goto (tgt := 112) hx hb dX2_act_104 (by decide) ?_
                      refine lv_istore (lv' := [(8, .int (zSt day (ch j))), (7, .int 1), (6, .ref (ca j)), (0, .ref h0), (1, .int k), (2, .int kind), (3, .int place), (4, .long day)]) hx hb dX2_act_112 hl (by decide) rfl (fun ls hl => ?_)
                      refine lv_iload_n hx hb dX2_act_114 rfl (lv_at hl 5 rfl) ?_
                      refine lv_iload hx hb dX2_act_115 (lv_at hl 0 rfl) ?_
                      refine z_callS (As := [.int kind, .int (zSt day (ch j))]) (rest := []) S (c_X2_canFollow l A G M kind (zSt day (ch j))) ok_X2_canFollow kw_138 kw_139 ⟨Nat.le_of_ble_eq_true rfl, Nat.le_of_ble_eq_true rfl⟩ hK hM hS hA rfl hl.1 rfl (Nat.le_of_ble_eq_true rfl) dX2_act_117 ⟨Nat.le_of_ble_eq_true rfl, Nat.le_of_ble_eq_true rfl⟩ (fun r_74 M_72 H locs hp_73 hM hS => ?_)
                      obtain ⟨rfl, hM9⟩ := hp_73
                      rw [hM9] at hM
                      refine W.eq (g2 := F0 m 120 ls [.int (zb (zFo kind (zSt day (ch j))))]) rfl ?_
                      refine lv_if_ne (tgt := 126) hx hb dX2_act_120 (by decide) (fun c_75 => ?_) (fun c_75 => ?_)
                      · rw [zb_0n] at c_75
                        refine lv_aload_n hx hb dX2_act_126 rfl (lv_at hl 3 rfl) ?_
                        refine lv_aload hx hb dX2_act_127 (lv_at hl 2 rfl) ?_
                        refine lv_iload_n hx hb dX2_act_129 rfl (lv_at hl 5 rfl) ?_
                        refine lv_iload_n hx hb dX2_act_130 rfl (lv_at hl 6 rfl) ?_
                        refine lv_iload hx hb dX2_act_131 (lv_at hl 1 rfl) ?_
                        refine z_callV (As := [.ref (ca j), .int kind, .int place, .int 1]) (rest := []) S (c_X2_lacksRight l A G M h0 cps (nI N) den fee gd (nI ec) dn (ca j) (cv j).1 (cv j).2.1 (cv j).2.2.1 (cv j).2.2.2.1 (cv j).2.2.2.2.1 (cv j).2.2.2.2.2.1 (cv j).2.2.2.2.2.2.1 (cv j).2.2.2.2.2.2.2.1 (cv j).2.2.2.2.2.2.2.2 (zHd (ch j)) kind place 1 h hd hcj) ok_X2_lacksRight kw_141 kw_143 ks_4 ⟨Nat.le_of_ble_eq_true rfl, Nat.le_of_ble_eq_true rfl⟩ hK hM hS hA h rfl rfl hl.1 rfl (Nat.le_of_ble_eq_true rfl) dX2_act_133 ⟨Nat.le_of_ble_eq_true rfl, Nat.le_of_ble_eq_true rfl⟩ (fun r_78 M_76 H locs hp_77 hM hS => ?_)
                        obtain ⟨rfl, hM9⟩ := hp_77
                        rw [hM9] at hM
                        refine W.eq (g2 := F0 m 136 ls [.int (zb (zLk dn kind place 1 (cv j).2.2.2.2.2.1 (cv j).2.2.2.2.1 (cv j).1))]) rfl ?_
                        refine lv_if_eq (tgt := 142) hx hb dX2_act_136 (by decide) (fun c_79 => ?_) (fun c_79 => ?_)
                        · rw [zb_0] at c_79
                          refine lv_aload_n hx hb dX2_act_142 rfl (lv_at hl 3 rfl) ?_
                          refine lv_aload hx hb dX2_act_143 (lv_at hl 2 rfl) ?_
                          refine lv_lload hx hb dX2_act_145 (lv_at hl 7 rfl) ?_
                          refine lv_iload_n hx hb dX2_act_147 rfl (lv_at hl 5 rfl) ?_
                          refine lv_iload hx hb dX2_act_148 (lv_at hl 1 rfl) ?_
                          refine z_callV (As := [.ref (ca j), .long day, .int kind, .int 1]) (rest := []) S (c_X2_enter l A G M h0 cps (nI N) den fee gd (nI ec) (ca j) (cv j).1 (cv j).2.1 (cv j).2.2.1 (cv j).2.2.2.1 (cv j).2.2.2.2.1 (cv j).2.2.2.2.2.1 (cv j).2.2.2.2.2.2.1 (cv j).2.2.2.2.2.2.2.1 (cv j).2.2.2.2.2.2.2.2 (ch j) day kind 1 h hcj (hcp j hj).2.1 (hsep.2.1 j hj) (Or.inr rfl)) ok_X2_enter kw_145 kw_147 ks_5 ⟨Nat.le_of_ble_eq_true rfl, Nat.le_of_ble_eq_true rfl⟩ hK hM hS hA h rfl rfl hl.1 rfl (Nat.le_of_ble_eq_true rfl) dX2_act_150 ⟨Nat.le_of_ble_eq_true rfl, Nat.le_of_ble_eq_true rfl⟩ (fun r_82 M_80 H locs hp_81 hM hS => ?_)
                          obtain ⟨rfl, q, hq, e1, e2, e3, e4⟩ := hp_81
                          have hI1 := hI.enter hj hq e1 e2 (by rw [← nI_1]; exact e3) e4
                          refine W.eq (g2 := F0 m 153 ls []) rfl ?_
                          refine lv_iload hx hb dX2_act_153 (lv_at hl 1 rfl) ?_
                          refine lv_if_ne (tgt := 166) hx hb dX2_act_155 (by decide) (fun c_83 => ?_) (fun c_83 => absurd c_83 (by decide))
                          refine lv_iload_n hx hb dX2_act_166 rfl (lv_at hl 5 rfl) ?_
                          exact z_iret S hr hlocks hM hS (by unfold zAQ; rw [hz]; dsimp only; rw [if_pos ⟨c_4, c_5, c_6, c_7, fun _ => ⟨c_47, c_48⟩, c_49⟩, zBe_l (Int64.not_le.mp c_50)]; rw [if_pos c_75, zb_t (Int64.not_le.mp c_50)]; rw [if_neg c_79, if_pos (Int64.not_le.mp c_50)]; exact ⟨rfl, q, hI1⟩) (Nat.le_of_ble_eq_true rfl) (Nat.le_of_ble_eq_true rfl) dX2_act_167
                        · rw [zb_0n] at c_79
                          refine lv_bipush (v := -3) hx hb dX2_act_139 (by decide) ?_
                          exact z_iret S hr hlocks hM hS (by unfold zAQ; rw [hz]; dsimp only; rw [if_pos ⟨c_4, c_5, c_6, c_7, fun _ => ⟨c_47, c_48⟩, c_49⟩, zBe_l (Int64.not_le.mp c_50)]; rw [if_pos c_75, zb_t (Int64.not_le.mp c_50)]; rw [if_pos c_79]; exact ⟨rfl, hI⟩) (Nat.le_of_ble_eq_true rfl) (Nat.le_of_ble_eq_true rfl) dX2_act_141
                      · rw [zb_0] at c_75
                        refine lv_bipush (v := -2) hx hb dX2_act_123 (by decide) ?_
                        exact z_iret S hr hlocks hM hS (by unfold zAQ; rw [hz]; dsimp only; rw [if_pos ⟨c_4, c_5, c_6, c_7, fun _ => ⟨c_47, c_48⟩, c_49⟩, zBe_l (Int64.not_le.mp c_50)]; rw [if_neg c_75]; exact ⟨rfl, hI⟩) (Nat.le_of_ble_eq_true rfl) (Nat.le_of_ble_eq_true rfl) dX2_act_125
                  · refine lv_iconst (v := -1) hx hb dX2_act_73 (by decide) ?_
                    exact z_iret S hr hlocks hM hS (by unfold zAQ; rw [hz]; dsimp only; rw [if_neg (fun q => c_49 q.2.2.2.2.2)]; exact ⟨rfl, hI⟩) (Nat.le_of_ble_eq_true rfl) (Nat.le_of_ble_eq_true rfl) dX2_act_74
                · refine lv_iconst (v := -1) hx hb dX2_act_61 (by decide) ?_
                  exact z_iret S hr hlocks hM hS (by unfold zAQ; rw [hz]; dsimp only; rw [if_neg (fun q => (q.2.2.2.2.1 hk2).2 c_48)]; exact ⟨rfl, hI⟩) (Nat.le_of_ble_eq_true rfl) (Nat.le_of_ble_eq_true rfl) dX2_act_62
          · rw [lg_cmp_le] at c_7
            refine lv_iconst (v := -1) hx hb dX2_act_38 (by decide) ?_
            exact z_iret S hr hlocks hM hS (by unfold zAQ; rw [hz]; dsimp only; rw [if_neg (fun q => c_7 q.2.2.2.1)]; exact ⟨rfl, hI⟩) (Nat.le_of_ble_eq_true rfl) (Nat.le_of_ble_eq_true rfl) dX2_act_39
