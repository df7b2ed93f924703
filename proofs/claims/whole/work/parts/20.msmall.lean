set_option maxHeartbeats 4000000 in
set_option maxRecDepth 100000 in
theorem c_X3_isCopy (l : Launch) (A : Nat → Prop) (G : zG) (M : zMap) (m0 : Nat) (ar : Nat → Nat) (th : Int32) (co ac : Nat) (gr : Int64) (F : Nat → Nat → Int32) (L : Nat → Nat → Int64) (k : Int32) (hJ : zJ G M m0 ar th (nI co) (nI ac) gr F L) (hco : co ≤ 80) : zMet l yX3_isCopy cX3_isCopy 2 (some .boolean) { frames := 0, cells := 0, slots := 0, locals := 0 } [.ref m0, .int k] A G M (fun r M1 => r = some (.int (zb ((zIx co k).isSome = true))) ∧ M1 = M) := by
  refine zMet.of (by decide) (Nat.le_of_ble_eq_true rfl) ?_
  intro p e s m args below meth c ls S hr hlocks hnm hK hM hA hS hl
  have hl : lv_has ls 2 [(0, .ref m0), (1, .int k)] := hl
  have hx := S.1
  have hb := S.2.1
  have hown := S.2.2.2.1
  have hts := S.2.2.2.2
  have hr : meth.sig.returnType = some .boolean := hr
  refine lv_iload_n hx hb dX3_isCopy_0 rfl (lv_at hl 1 rfl) ?_
  refine lv_if_le (tgt := 16) hx hb dX3_isCopy_1 (by decide) (fun c_1 => ?_) (fun c_1 => ?_)
  · refine lv_iconst (v := 0) hx hb dX3_isCopy_16 (by decide) ?_
    exact z_zret S hr hlocks (by decide) hM hS ⟨by rw [zb_f (zisC1 c_1)], rfl⟩ (Nat.le_of_ble_eq_true rfl) (Nat.le_of_ble_eq_true rfl) dX3_isCopy_17
  · refine lv_iload_n hx hb dX3_isCopy_4 rfl (lv_at hl 1 rfl) ?_
    refine lv_aload_n hx hb dX3_isCopy_5 rfl (lv_at hl 0 rfl) ?_
    refine z_get (v := .int (nI co)) S kX3 hK hM hJ.1 1 (by decide) kw_221 rfl dX3_isCopy_6 ?_
    refine lv_icmp_gt (tgt := 16) hx hb dX3_isCopy_9 (by decide) (fun c_2 => ?_) (fun c_2 => ?_)
    · refine lv_iconst (v := 0) hx hb dX3_isCopy_16 (by decide) ?_
      exact z_zret S hr hlocks (by decide) hM hS ⟨by rw [zb_f (zisC2 c_2)], rfl⟩ (Nat.le_of_ble_eq_true rfl) (Nat.le_of_ble_eq_true rfl) dX3_isCopy_17
    · refine lv_iconst (v := 1) hx hb dX3_isCopy_12 (by decide) ?_
      refine lv_goto (tgt := 17) hx hb dX3_isCopy_13 (by decide) ?_
      exact z_zret S hr hlocks (by decide) hM hS ⟨by rw [zb_t (zisC c_1 c_2)], rfl⟩ (Nat.le_of_ble_eq_true rfl) (Nat.le_of_ble_eq_true rfl) dX3_isCopy_17
set_option maxHeartbeats 4000000 in
set_option maxRecDepth 100000 in
theorem c_X3_place (l : Launch) (A : Nat → Prop) (G : zG) (M : zMap) (m0 : Nat) (ar : Nat → Nat) (th : Int32) (co ac : Nat) (gr : Int64) (F : Nat → Nat → Int32) (L : Nat → Nat → Int64) (k : Int32) (hJ : zJ G M m0 ar th (nI co) (nI ac) gr F L) (hco : co ≤ 80) : zMet l yX3_place cX3_place 2 (some .int) { frames := 1, cells := 0, slots := 0, locals := 40 } [.ref m0, .int k] A G M (fun r M1 => r = some (.int (zsel co k (-1) (fun j => F 4 (j + 1)))) ∧ zJ G M1 m0 ar 0 (nI co) (nI ac) gr F L) := by
  refine zMet.of (by decide) (Nat.le_of_ble_eq_true rfl) ?_
  intro p e s m args below meth c ls S hr hlocks hnm hK hM hA hS hl
  have hl : lv_has ls 2 [(0, .ref m0), (1, .int k)] := hl
  have hx := S.1
  have hb := S.2.1
  have hown := S.2.2.2.1
  have hts := S.2.2.2.2
  have hr : meth.sig.returnType = some .int := hr
  refine lv_aload_n hx hb dX3_place_0 rfl (lv_at hl 0 rfl) ?_
  refine lv_iconst (v := 0) hx hb dX3_place_1 (by decide) ?_
  refine z_put S kX3 hK hM hS hJ.1 0 (by decide) kw_220 rfl rfl rfl (Nat.le_of_ble_eq_true rfl) dX3_place_2 (fun H locs hM hS => ?_)
  obtain ⟨M_1, eM_2⟩ : ∃ z : zMap, z = zu M m0 (oM 0 (nI co) ar (nI ac) gr) := ⟨_, rfl⟩
  replace hM : zM A G M_1 H := by rw [eM_2]; exact hM
  have hJ_3 : zJ G M_1 m0 ar 0 (nI co) (nI ac) gr F L := by rw [eM_2]; exact hJ.setO _ _ _ _
  refine lv_aload_n hx hb dX3_place_5 rfl (lv_at hl 0 rfl) ?_
  refine lv_iload_n hx hb dX3_place_6 rfl (lv_at hl 1 rfl) ?_
  refine z_callV (As := [.int k]) (rest := []) S (c_X3_isCopy l A G M_1 m0 ar 0 co ac gr F L k hJ_3 hco) ok_X3_isCopy kw_307 kw_309 ks_7 ⟨Nat.le_of_ble_eq_true rfl, Nat.le_of_ble_eq_true rfl⟩ hK hM hS hA hJ_3.1 rfl rfl hl.1 rfl (Nat.le_of_ble_eq_true rfl) dX3_place_7 ⟨Nat.le_of_ble_eq_true rfl, Nat.le_of_ble_eq_true rfl⟩ (fun r_6 M_4 H locs hp_5 hM hS => ?_)
  obtain ⟨rfl, hM9⟩ := hp_5
  rw [hM9] at hM
  refine W.eq (g2 := F0 m 10 ls [.int (zb ((zIx co k).isSome = true))]) rfl ?_
  refine lv_if_eq (tgt := 22) hx hb dX3_place_10 (by decide) (fun c_7 => ?_) (fun c_7 => ?_)
  · rw [zb_0] at c_7
    have hz := zisN c_7
    refine lv_iconst (v := -1) hx hb dX3_place_22 (by decide) ?_
    exact z_iret S hr hlocks hM hS ⟨by rw [zsel_n hz], hJ_3⟩ (Nat.le_of_ble_eq_true rfl) (Nat.le_of_ble_eq_true rfl) dX3_place_23
  · rw [zb_0n] at c_7
    obtain ⟨j, hz⟩ := zisS c_7
    obtain ⟨hj, rfl⟩ := zIx_some hco hz
    have hcl : (nI (j + 1)).toNatClampNeg = j + 1 := nI_clamp (by omega)
    refine lv_aload_n hx hb dX3_place_13 rfl (lv_at hl 0 rfl) ?_
    refine z_get (v := .ref (ar 4)) S kX3 hK hM hJ_3.1 6 (by decide) kw_226 rfl dX3_place_14 ?_
    refine lv_iload_n hx hb dX3_place_17 rfl (lv_at hl 1 rfl) ?_
    refine z_iald S hK hM 0 (show M_1 (ar 4) = some (.inl (G.2.2 0, 81, .inl (F 4))) from hJ_3.2.1 4 (by decide)) rfl (zvp81 hj hco) dX3_place_18 ?_
    rw [hcl]
    refine lv_goto (tgt := 23) hx hb dX3_place_19 (by decide) ?_
    exact z_iret S hr hlocks hM hS ⟨by rw [zsel_s hz], hJ_3⟩ (Nat.le_of_ble_eq_true rfl) (Nat.le_of_ble_eq_true rfl) dX3_place_23
set_option maxHeartbeats 4000000 in
set_option maxRecDepth 100000 in
theorem c_X3_home (l : Launch) (A : Nat → Prop) (G : zG) (M : zMap) (m0 : Nat) (ar : Nat → Nat) (th : Int32) (co ac : Nat) (gr : Int64) (F : Nat → Nat → Int32) (L : Nat → Nat → Int64) (k : Int32) (hJ : zJ G M m0 ar th (nI co) (nI ac) gr F L) (hco : co ≤ 80) : zMet l yX3_home cX3_home 2 (some .int) { frames := 1, cells := 0, slots := 0, locals := 40 } [.ref m0, .int k] A G M (fun r M1 => r = some (.int (zsel co k (-1) (fun j => F 3 (j + 1)))) ∧ zJ G M1 m0 ar 0 (nI co) (nI ac) gr F L) := by
  refine zMet.of (by decide) (Nat.le_of_ble_eq_true rfl) ?_
  intro p e s m args below meth c ls S hr hlocks hnm hK hM hA hS hl
  have hl : lv_has ls 2 [(0, .ref m0), (1, .int k)] := hl
  have hx := S.1
  have hb := S.2.1
  have hown := S.2.2.2.1
  have hts := S.2.2.2.2
  have hr : meth.sig.returnType = some .int := hr
  refine lv_aload_n hx hb dX3_home_0 rfl (lv_at hl 0 rfl) ?_
  refine lv_iconst (v := 0) hx hb dX3_home_1 (by decide) ?_
  refine z_put S kX3 hK hM hS hJ.1 0 (by decide) kw_220 rfl rfl rfl (Nat.le_of_ble_eq_true rfl) dX3_home_2 (fun H locs hM hS => ?_)
  obtain ⟨M_1, eM_2⟩ : ∃ z : zMap, z = zu M m0 (oM 0 (nI co) ar (nI ac) gr) := ⟨_, rfl⟩
  replace hM : zM A G M_1 H := by rw [eM_2]; exact hM
  have hJ_3 : zJ G M_1 m0 ar 0 (nI co) (nI ac) gr F L := by rw [eM_2]; exact hJ.setO _ _ _ _
  refine lv_aload_n hx hb dX3_home_5 rfl (lv_at hl 0 rfl) ?_
  refine lv_iload_n hx hb dX3_home_6 rfl (lv_at hl 1 rfl) ?_
  refine z_callV (As := [.int k]) (rest := []) S (c_X3_isCopy l A G M_1 m0 ar 0 co ac gr F L k hJ_3 hco) ok_X3_isCopy kw_307 kw_309 ks_7 ⟨Nat.le_of_ble_eq_true rfl, Nat.le_of_ble_eq_true rfl⟩ hK hM hS hA hJ_3.1 rfl rfl hl.1 rfl (Nat.le_of_ble_eq_true rfl) dX3_home_7 ⟨Nat.le_of_ble_eq_true rfl, Nat.le_of_ble_eq_true rfl⟩ (fun r_6 M_4 H locs hp_5 hM hS => ?_)
  obtain ⟨rfl, hM9⟩ := hp_5
  rw [hM9] at hM
  refine W.eq (g2 := F0 m 10 ls [.int (zb ((zIx co k).isSome = true))]) rfl ?_
  refine lv_if_eq (tgt := 22) hx hb dX3_home_10 (by decide) (fun c_7 => ?_) (fun c_7 => ?_)
  · rw [zb_0] at c_7
    have hz := zisN c_7
    refine lv_iconst (v := -1) hx hb dX3_home_22 (by decide) ?_
    exact z_iret S hr hlocks hM hS ⟨by rw [zsel_n hz], hJ_3⟩ (Nat.le_of_ble_eq_true rfl) (Nat.le_of_ble_eq_true rfl) dX3_home_23
  · rw [zb_0n] at c_7
    obtain ⟨j, hz⟩ := zisS c_7
    obtain ⟨hj, rfl⟩ := zIx_some hco hz
    have hcl : (nI (j + 1)).toNatClampNeg = j + 1 := nI_clamp (by omega)
    refine lv_aload_n hx hb dX3_home_13 rfl (lv_at hl 0 rfl) ?_
    refine z_get (v := .ref (ar 3)) S kX3 hK hM hJ_3.1 5 (by decide) kw_225 rfl dX3_home_14 ?_
    refine lv_iload_n hx hb dX3_home_17 rfl (lv_at hl 1 rfl) ?_
    refine z_iald S hK hM 0 (show M_1 (ar 3) = some (.inl (G.2.2 0, 81, .inl (F 3))) from hJ_3.2.1 3 (by decide)) rfl (zvp81 hj hco) dX3_home_18 ?_
    rw [hcl]
    refine lv_goto (tgt := 23) hx hb dX3_home_19 (by decide) ?_
    exact z_iret S hr hlocks hM hS ⟨by rw [zsel_s hz], hJ_3⟩ (Nat.le_of_ble_eq_true rfl) (Nat.le_of_ble_eq_true rfl) dX3_home_23
set_option maxHeartbeats 4000000 in
set_option maxRecDepth 100000 in
theorem c_X3_owed (l : Launch) (A : Nat → Prop) (G : zG) (M : zMap) (m0 : Nat) (ar : Nat → Nat) (th : Int32) (co ac : Nat) (gr : Int64) (F : Nat → Nat → Int32) (L : Nat → Nat → Int64) (k : Int32) (hJ : zJ G M m0 ar th (nI co) (nI ac) gr F L) (hco : co ≤ 80) : zMet l yX3_owed cX3_owed 2 (some .int) { frames := 1, cells := 0, slots := 0, locals := 40 } [.ref m0, .int k] A G M (fun r M1 => r = some (.int (zsel co k (-1) (fun j => F 8 (j + 1)))) ∧ zJ G M1 m0 ar 0 (nI co) (nI ac) gr F L) := by
  refine zMet.of (by decide) (Nat.le_of_ble_eq_true rfl) ?_
  intro p e s m args below meth c ls S hr hlocks hnm hK hM hA hS hl
  have hl : lv_has ls 2 [(0, .ref m0), (1, .int k)] := hl
  have hx := S.1
  have hb := S.2.1
  have hown := S.2.2.2.1
  have hts := S.2.2.2.2
  have hr : meth.sig.returnType = some .int := hr
  refine lv_aload_n hx hb dX3_owed_0 rfl (lv_at hl 0 rfl) ?_
  refine lv_iconst (v := 0) hx hb dX3_owed_1 (by decide) ?_
  refine z_put S kX3 hK hM hS hJ.1 0 (by decide) kw_220 rfl rfl rfl (Nat.le_of_ble_eq_true rfl) dX3_owed_2 (fun H locs hM hS => ?_)
  obtain ⟨M_1, eM_2⟩ : ∃ z : zMap, z = zu M m0 (oM 0 (nI co) ar (nI ac) gr) := ⟨_, rfl⟩
  replace hM : zM A G M_1 H := by rw [eM_2]; exact hM
  have hJ_3 : zJ G M_1 m0 ar 0 (nI co) (nI ac) gr F L := by rw [eM_2]; exact hJ.setO _ _ _ _
  refine lv_aload_n hx hb dX3_owed_5 rfl (lv_at hl 0 rfl) ?_
  refine lv_iload_n hx hb dX3_owed_6 rfl (lv_at hl 1 rfl) ?_
  refine z_callV (As := [.int k]) (rest := []) S (c_X3_isCopy l A G M_1 m0 ar 0 co ac gr F L k hJ_3 hco) ok_X3_isCopy kw_307 kw_309 ks_7 ⟨Nat.le_of_ble_eq_true rfl, Nat.le_of_ble_eq_true rfl⟩ hK hM hS hA hJ_3.1 rfl rfl hl.1 rfl (Nat.le_of_ble_eq_true rfl) dX3_owed_7 ⟨Nat.le_of_ble_eq_true rfl, Nat.le_of_ble_eq_true rfl⟩ (fun r_6 M_4 H locs hp_5 hM hS => ?_)
  obtain ⟨rfl, hM9⟩ := hp_5
  rw [hM9] at hM
  refine W.eq (g2 := F0 m 10 ls [.int (zb ((zIx co k).isSome = true))]) rfl ?_
  refine lv_if_eq (tgt := 22) hx hb dX3_owed_10 (by decide) (fun c_7 => ?_) (fun c_7 => ?_)
  · rw [zb_0] at c_7
    have hz := zisN c_7
    refine lv_iconst (v := -1) hx hb dX3_owed_22 (by decide) ?_
    exact z_iret S hr hlocks hM hS ⟨by rw [zsel_n hz], hJ_3⟩ (Nat.le_of_ble_eq_true rfl) (Nat.le_of_ble_eq_true rfl) dX3_owed_23
  · rw [zb_0n] at c_7
    obtain ⟨j, hz⟩ := zisS c_7
    obtain ⟨hj, rfl⟩ := zIx_some hco hz
    have hcl : (nI (j + 1)).toNatClampNeg = j + 1 := nI_clamp (by omega)
    refine lv_aload_n hx hb dX3_owed_13 rfl (lv_at hl 0 rfl) ?_
    refine z_get (v := .ref (ar 8)) S kX3 hK hM hJ_3.1 10 (by decide) kw_230 rfl dX3_owed_14 ?_
    refine lv_iload_n hx hb dX3_owed_17 rfl (lv_at hl 1 rfl) ?_
    refine z_iald S hK hM 0 (show M_1 (ar 8) = some (.inl (G.2.2 0, 81, .inl (F 8))) from hJ_3.2.1 8 (by decide)) rfl (zvp81 hj hco) dX3_owed_18 ?_
    rw [hcl]
    refine lv_goto (tgt := 23) hx hb dX3_owed_19 (by decide) ?_
    exact z_iret S hr hlocks hM hS ⟨by rw [zsel_s hz], hJ_3⟩ (Nat.le_of_ble_eq_true rfl) (Nat.le_of_ble_eq_true rfl) dX3_owed_23
set_option maxHeartbeats 4000000 in
set_option maxRecDepth 100000 in
theorem c_X3_floats (l : Launch) (A : Nat → Prop) (G : zG) (M : zMap) (m0 : Nat) (ar : Nat → Nat) (th : Int32) (co ac : Nat) (gr : Int64) (F : Nat → Nat → Int32) (L : Nat → Nat → Int64) (k on : Int32) (hJ : zJ G M m0 ar th (nI co) (nI ac) gr F L) (hco : co ≤ 80) (hbool : zbool on) (hfl : ∀ i, zbool (F 6 i)) : zMet l yX3_floats cX3_floats 4 (some .boolean) { frames := 1, cells := 0, slots := 0, locals := 40 } [.ref m0, .int k, .int on] A G M (fun r M1 => r = some (.int (zsel co k 0 (fun j => F 6 (j + 1)))) ∧ zJ G M1 m0 ar 0 (nI co) (nI ac) gr (zFlm co k on F) L) := by
  refine zMet.of (by decide) (Nat.le_of_ble_eq_true rfl) ?_
  intro p e s m args below meth c ls S hr hlocks hnm hK hM hA hS hl
  have hl : lv_has ls 4 [(0, .ref m0), (1, .int k), (2, .int on)] := hl
  have hx := S.1
  have hb := S.2.1
  have hown := S.2.2.2.1
  have hts := S.2.2.2.2
  have hr : meth.sig.returnType = some .boolean := hr
  refine lv_aload_n hx hb dX3_floats_0 rfl (lv_at hl 0 rfl) ?_
  refine lv_iconst (v := 0) hx hb dX3_floats_1 (by decide) ?_
  refine z_put S kX3 hK hM hS hJ.1 0 (by decide) kw_220 rfl rfl rfl (Nat.le_of_ble_eq_true rfl) dX3_floats_2 (fun H locs hM hS => ?_)
  obtain ⟨M_1, eM_2⟩ : ∃ z : zMap, z = zu M m0 (oM 0 (nI co) ar (nI ac) gr) := ⟨_, rfl⟩
  replace hM : zM A G M_1 H := by rw [eM_2]; exact hM
  have hJ_3 : zJ G M_1 m0 ar 0 (nI co) (nI ac) gr F L := by rw [eM_2]; exact hJ.setO _ _ _ _
  refine lv_aload_n hx hb dX3_floats_5 rfl (lv_at hl 0 rfl) ?_
  refine lv_iload_n hx hb dX3_floats_6 rfl (lv_at hl 1 rfl) ?_
  refine z_callV (As := [.int k]) (rest := []) S (c_X3_isCopy l A G M_1 m0 ar 0 co ac gr F L k hJ_3 hco) ok_X3_isCopy kw_307 kw_309 ks_7 ⟨Nat.le_of_ble_eq_true rfl, Nat.le_of_ble_eq_true rfl⟩ hK hM hS hA hJ_3.1 rfl rfl hl.1 rfl (Nat.le_of_ble_eq_true rfl) dX3_floats_7 ⟨Nat.le_of_ble_eq_true rfl, Nat.le_of_ble_eq_true rfl⟩ (fun r_6 M_4 H locs hp_5 hM hS => ?_)
  obtain ⟨rfl, hM9⟩ := hp_5
  rw [hM9] at hM
  refine W.eq (g2 := F0 m 10 ls [.int (zb ((zIx co k).isSome = true))]) rfl ?_
  refine lv_if_ne (tgt := 15) hx hb dX3_floats_10 (by decide) (fun c_7 => ?_) (fun c_7 => ?_)
  · rw [zb_0n] at c_7
    obtain ⟨j, hz⟩ := zisS c_7
    obtain ⟨hj, rfl⟩ := zIx_some hco hz
    have hcl : (nI (j + 1)).toNatClampNeg = j + 1 := nI_clamp (by omega)
    refine lv_aload_n hx hb dX3_floats_15 rfl (lv_at hl 0 rfl) ?_
    refine z_get (v := .ref (ar 6)) S kX3 hK hM hJ_3.1 8 (by decide) kw_228 rfl dX3_floats_16 ?_
    refine lv_iload_n hx hb dX3_floats_19 rfl (lv_at hl 1 rfl) ?_
    refine z_zald S hK hM 1 (show M_1 (ar 6) = some (.inl (G.2.2 1, 81, .inl (F 6))) from hJ_3.2.1 6 (by decide)) rfl (zvp81 hj hco) dX3_floats_20 ?_
    rw [hcl]
    refine lv_istore_n (lv' := [(3, .int (F 6 (j + 1))), (0, .ref m0), (1, .int (nI (j + 1))), (2, .int on)]) hx hb dX3_floats_21 rfl hl (by decide) rfl (fun ls hl => ?_)
    refine lv_aload_n hx hb dX3_floats_22 rfl (lv_at hl 1 rfl) ?_
    refine z_get (v := .ref (ar 6)) S kX3 hK hM hJ_3.1 8 (by decide) kw_228 rfl dX3_floats_23 ?_
    refine lv_iload_n hx hb dX3_floats_26 rfl (lv_at hl 2 rfl) ?_
    refine lv_iload_n hx hb dX3_floats_27 rfl (lv_at hl 3 rfl) ?_
    refine z_zast S hK hM hS 1 (show M_1 (ar 6) = some (.inl (G.2.2 1, 81, .inl (F 6))) from hJ_3.2.1 6 (by decide)) rfl (zvp81 hj hco) (z_nb hbool) dX3_floats_28 (fun H locs hM hS => ?_)
    rw [hcl] at hM
    obtain ⟨M_8, eM_9⟩ : ∃ z : zMap, z = zu M_1 (ar 6) (.inl ((G.2.2 1), 81, .inl (upd (F 6) (j + 1) on))) := ⟨_, rfl⟩
    replace hM : zM A G M_8 H := by rw [eM_9]; exact hM
    have hJ_10 : zJ G M_8 m0 ar 0 (nI co) (nI ac) gr (zuf F 6 (upd (F 6) (j + 1) on)) L := by rw [eM_9]; exact hJ_3.setI 6 (by decide) rfl _
    refine lv_iload_n hx hb dX3_floats_29 rfl (lv_at hl 0 rfl) ?_
    exact z_zret S hr hlocks (z_nb (hfl (j + 1))) hM hS ⟨by rw [zsel_s hz], by unfold zFlm; rw [hz]; exact hJ_10⟩ (Nat.le_of_ble_eq_true rfl) (Nat.le_of_ble_eq_true rfl) dX3_floats_30
  · rw [zb_0] at c_7
    have hz := zisN c_7
    refine lv_iconst (v := 0) hx hb dX3_floats_13 (by decide) ?_
    exact z_zret S hr hlocks (by decide) hM hS ⟨by rw [zsel_n hz], by unfold zFlm; rw [hz]; exact hJ_3⟩ (Nat.le_of_ble_eq_true rfl) (Nat.le_of_ble_eq_true rfl) dX3_floats_14
set_option maxHeartbeats 4000000 in
set_option maxRecDepth 100000 in
theorem c_X3_right (l : Launch) (A : Nat → Prop) (G : zG) (M : zMap) (m0 : Nat) (ar : Nat → Nat) (th : Int32) (co ac : Nat) (gr : Int64) (F : Nat → Nat → Int32) (L : Nat → Nat → Int64) (p0 p1 on : Int32) (hJ : zJ G M m0 ar th (nI co) (nI ac) gr F L) (hco : co ≤ 80) : zMet l yX3_right cX3_right 5 (some .boolean) { frames := 1, cells := 0, slots := 0, locals := 40 } [.ref m0, .int p0, .int p1, .int on] A G M (fun r M1 => r = some (.int (zb (zRi (F 9) p0 p1))) ∧ zJ G M1 m0 ar 0 (nI co) (nI ac) gr (zuf F 9 (zRt p0 p1 on (F 9))) L) := by
  refine zMet.of (by decide) (Nat.le_of_ble_eq_true rfl) ?_
  intro p e s m args below meth c ls S hr hlocks hnm hK hM hA hS hl
  have hl : lv_has ls 5 [(0, .ref m0), (1, .int p0), (2, .int p1), (3, .int on)] := hl
  have hx := S.1
  have hb := S.2.1
  have hown := S.2.2.2.1
  have hts := S.2.2.2.2
  have hr : meth.sig.returnType = some .boolean := hr
  refine lv_aload_n hx hb dX3_right_0 rfl (lv_at hl 0 rfl) ?_
  refine lv_iconst (v := 0) hx hb dX3_right_1 (by decide) ?_
  refine z_put S kX3 hK hM hS hJ.1 0 (by decide) kw_220 rfl rfl rfl (Nat.le_of_ble_eq_true rfl) dX3_right_2 (fun H locs hM hS => ?_)
  obtain ⟨M_1, eM_2⟩ : ∃ z : zMap, z = zu M m0 (oM 0 (nI co) ar (nI ac) gr) := ⟨_, rfl⟩
  replace hM : zM A G M_1 H := by rw [eM_2]; exact hM
  have hJ_3 : zJ G M_1 m0 ar 0 (nI co) (nI ac) gr F L := by rw [eM_2]; exact hJ.setO _ _ _ _
  refine lv_iload_n hx hb dX3_right_5 rfl (lv_at hl 1 rfl) ?_
  refine lv_if_lt (tgt := 24) hx hb dX3_right_6 (by decide) (fun c_4 => ?_) (fun c_4 => ?_)
  · refine lv_iconst (v := 0) hx hb dX3_right_24 (by decide) ?_
    exact z_zret S hr hlocks (by decide) hM hS ⟨by rw [zb_f (fun q => (fun (q : zPl p0 ∧ zTy p1) => q.1.1 c_4) ⟨q.1, q.2.1⟩)], by unfold zRt; rw [if_neg (fun q => q.1.1 c_4), zuf_id]; exact hJ_3⟩ (Nat.le_of_ble_eq_true rfl) (Nat.le_of_ble_eq_true rfl) dX3_right_25
  · refine lv_iload_n hx hb dX3_right_9 rfl (lv_at hl 1 rfl) ?_
    refine lv_bipush (v := 9) hx hb dX3_right_10 (by decide) ?_
    refine lv_icmp_gt (tgt := 24) hx hb dX3_right_12 (by decide) (fun c_5 => ?_) (fun c_5 => ?_)
    · refine lv_iconst (v := 0) hx hb dX3_right_24 (by decide) ?_
      exact z_zret S hr hlocks (by decide) hM hS ⟨by rw [zb_f (fun q => (fun (q : zPl p0 ∧ zTy p1) => q.1.2 (gt9 c_5)) ⟨q.1, q.2.1⟩)], by unfold zRt; rw [if_neg (fun q => q.1.2 (gt9 c_5)), zuf_id]; exact hJ_3⟩ (Nat.le_of_ble_eq_true rfl) (Nat.le_of_ble_eq_true rfl) dX3_right_25
    · refine lv_iload_n hx hb dX3_right_15 rfl (lv_at hl 2 rfl) ?_
      refine lv_if_lt (tgt := 24) hx hb dX3_right_16 (by decide) (fun c_6 => ?_) (fun c_6 => ?_)
      · refine lv_iconst (v := 0) hx hb dX3_right_24 (by decide) ?_
        exact z_zret S hr hlocks (by decide) hM hS ⟨by rw [zb_f (fun q => (fun (q : zPl p0 ∧ zTy p1) => q.2.1 c_6) ⟨q.1, q.2.1⟩)], by unfold zRt; rw [if_neg (fun q => q.2.1 c_6), zuf_id]; exact hJ_3⟩ (Nat.le_of_ble_eq_true rfl) (Nat.le_of_ble_eq_true rfl) dX3_right_25
      · refine lv_iload_n hx hb dX3_right_19 rfl (lv_at hl 2 rfl) ?_
        refine lv_iconst (v := 5) hx hb dX3_right_20 (by decide) ?_
        refine lv_icmp_le (tgt := 26) hx hb dX3_right_21 (by decide) (fun c_7 => ?_) (fun c_7 => ?_)
        · refine lv_aload_n hx hb dX3_right_26 rfl (lv_at hl 0 rfl) ?_
          refine z_get (v := .ref (ar 9)) S kX3 hK hM hJ_3.1 11 (by decide) kw_231 rfl dX3_right_27 ?_
          refine lv_bipush (v := 6) hx hb dX3_right_30 (by decide) ?_
          refine lv_iload_n hx hb dX3_right_32 rfl (lv_at hl 1 rfl) ?_
          refine lv_imul hx hb dX3_right_33 ?_
          refine lv_iload_n hx hb dX3_right_34 rfl (lv_at hl 2 rfl) ?_
          refine lv_iadd hx hb dX3_right_35 ?_
          refine z_zald S hK hM 1 (show M_1 (ar 9) = some (.inl (G.2.2 1, 60, .inl (F 9))) from hJ_3.2.1 9 (by decide)) rfl (zRi_in6 (zPl_9 c_4 c_5) (zTy_5 c_6 c_7)) dX3_right_36 ?_
          refine lv_if_ne (tgt := 44) hx hb dX3_right_37 (by decide) (fun c_8 => ?_) (fun c_8 => ?_)
          · refine lv_iconst (v := 0) hx hb dX3_right_44 (by decide) ?_
            refine lv_istore (lv' := [(4, .int 0), (0, .ref m0), (1, .int p0), (2, .int p1), (3, .int on)]) hx hb dX3_right_45 hl (by decide) rfl (fun ls hl => ?_)
            refine lv_aload_n hx hb dX3_right_47 rfl (lv_at hl 1 rfl) ?_
            refine z_get (v := .ref (ar 9)) S kX3 hK hM hJ_3.1 11 (by decide) kw_231 rfl dX3_right_48 ?_
            refine lv_bipush (v := 6) hx hb dX3_right_51 (by decide) ?_
            refine lv_iload_n hx hb dX3_right_53 rfl (lv_at hl 2 rfl) ?_
            refine lv_imul hx hb dX3_right_54 ?_
            refine lv_iload_n hx hb dX3_right_55 rfl (lv_at hl 3 rfl) ?_
            refine lv_iadd hx hb dX3_right_56 ?_
            refine lv_iload_n hx hb dX3_right_57 rfl (lv_at hl 4 rfl) ?_
            refine lv_if_ne (tgt := 65) hx hb dX3_right_58 (by decide) (fun c_9 => ?_) (fun c_9 => ?_)
            · refine lv_iconst (v := 0) hx hb dX3_right_65 (by decide) ?_
              refine z_zast S hK hM hS 1 (show M_1 (ar 9) = some (.inl (G.2.2 1, 60, .inl (F 9))) from hJ_3.2.1 9 (by decide)) rfl (zRi_in6 (zPl_9 c_4 c_5) (zTy_5 c_6 c_7)) (by decide) dX3_right_66 (fun H locs hM hS => ?_)
              obtain ⟨M_10, eM_11⟩ : ∃ z : zMap, z = zu M_1 (ar 9) (.inl ((G.2.2 1), 60, .inl (upd (F 9) ((6 * p0) + p1).toNatClampNeg 0))) := ⟨_, rfl⟩
              replace hM : zM A G M_10 H := by rw [eM_11]; exact hM
              have hJ_12 : zJ G M_10 m0 ar 0 (nI co) (nI ac) gr (zuf F 9 (upd (F 9) ((6 * p0) + p1).toNatClampNeg 0)) L := by rw [eM_11]; exact hJ_3.setI 9 (by decide) rfl _
              refine lv_iload hx hb dX3_right_67 (lv_at hl 0 rfl) ?_
              exact z_zret S hr hlocks (by decide) hM hS ⟨by rw [zb_f (fun q => c_8 (by have h8 := q.2.2; rw [zix6] at h8; exact h8))], by unfold zRt; rw [if_pos ⟨zPl_9 c_4 c_5, zTy_5 c_6 c_7⟩, zix6, zb_f c_9]; exact hJ_12⟩ (Nat.le_of_ble_eq_true rfl) (Nat.le_of_ble_eq_true rfl) dX3_right_69
            · refine lv_iconst (v := 1) hx hb dX3_right_61 (by decide) ?_
              refine lv_goto (tgt := 66) hx hb dX3_right_62 (by decide) ?_
              refine z_zast S hK hM hS 1 (show M_1 (ar 9) = some (.inl (G.2.2 1, 60, .inl (F 9))) from hJ_3.2.1 9 (by decide)) rfl (zRi_in6 (zPl_9 c_4 c_5) (zTy_5 c_6 c_7)) (by decide) dX3_right_66 (fun H locs hM hS => ?_)
              obtain ⟨M_13, eM_14⟩ : ∃ z : zMap, z = zu M_1 (ar 9) (.inl ((G.2.2 1), 60, .inl (upd (F 9) ((6 * p0) + p1).toNatClampNeg 1))) := ⟨_, rfl⟩
              replace hM : zM A G M_13 H := by rw [eM_14]; exact hM
              have hJ_15 : zJ G M_13 m0 ar 0 (nI co) (nI ac) gr (zuf F 9 (upd (F 9) ((6 * p0) + p1).toNatClampNeg 1)) L := by rw [eM_14]; exact hJ_3.setI 9 (by decide) rfl _
              refine lv_iload hx hb dX3_right_67 (lv_at hl 0 rfl) ?_
              exact z_zret S hr hlocks (by decide) hM hS ⟨by rw [zb_f (fun q => c_8 (by have h8 := q.2.2; rw [zix6] at h8; exact h8))], by unfold zRt; rw [if_pos ⟨zPl_9 c_4 c_5, zTy_5 c_6 c_7⟩, zix6, zb_t c_9]; exact hJ_15⟩ (Nat.le_of_ble_eq_true rfl) (Nat.le_of_ble_eq_true rfl) dX3_right_69
          · refine lv_iconst (v := 1) hx hb dX3_right_40 (by decide) ?_
            refine lv_goto (tgt := 45) hx hb dX3_right_41 (by decide) ?_
            refine lv_istore (lv' := [(4, .int 1), (0, .ref m0), (1, .int p0), (2, .int p1), (3, .int on)]) hx hb dX3_right_45 hl (by decide) rfl (fun ls hl => ?_)
            refine lv_aload_n hx hb dX3_right_47 rfl (lv_at hl 1 rfl) ?_
            refine z_get (v := .ref (ar 9)) S kX3 hK hM hJ_3.1 11 (by decide) kw_231 rfl dX3_right_48 ?_
            refine lv_bipush (v := 6) hx hb dX3_right_51 (by decide) ?_
            refine lv_iload_n hx hb dX3_right_53 rfl (lv_at hl 2 rfl) ?_
            refine lv_imul hx hb dX3_right_54 ?_
            refine lv_iload_n hx hb dX3_right_55 rfl (lv_at hl 3 rfl) ?_
            refine lv_iadd hx hb dX3_right_56 ?_
            refine lv_iload_n hx hb dX3_right_57 rfl (lv_at hl 4 rfl) ?_
            refine lv_if_ne (tgt := 65) hx hb dX3_right_58 (by decide) (fun c_16 => ?_) (fun c_16 => ?_)
            · refine lv_iconst (v := 0) hx hb dX3_right_65 (by decide) ?_
              refine z_zast S hK hM hS 1 (show M_1 (ar 9) = some (.inl (G.2.2 1, 60, .inl (F 9))) from hJ_3.2.1 9 (by decide)) rfl (zRi_in6 (zPl_9 c_4 c_5) (zTy_5 c_6 c_7)) (by decide) dX3_right_66 (fun H locs hM hS => ?_)
              obtain ⟨M_17, eM_18⟩ : ∃ z : zMap, z = zu M_1 (ar 9) (.inl ((G.2.2 1), 60, .inl (upd (F 9) ((6 * p0) + p1).toNatClampNeg 0))) := ⟨_, rfl⟩
              replace hM : zM A G M_17 H := by rw [eM_18]; exact hM
              have hJ_19 : zJ G M_17 m0 ar 0 (nI co) (nI ac) gr (zuf F 9 (upd (F 9) ((6 * p0) + p1).toNatClampNeg 0)) L := by rw [eM_18]; exact hJ_3.setI 9 (by decide) rfl _
              refine lv_iload hx hb dX3_right_67 (lv_at hl 0 rfl) ?_
              exact z_zret S hr hlocks (by decide) hM hS ⟨by rw [zb_t ⟨zPl_9 c_4 c_5, zTy_5 c_6 c_7, by rw [zix6]; exact c_8⟩], by unfold zRt; rw [if_pos ⟨zPl_9 c_4 c_5, zTy_5 c_6 c_7⟩, zix6, zb_f c_16]; exact hJ_19⟩ (Nat.le_of_ble_eq_true rfl) (Nat.le_of_ble_eq_true rfl) dX3_right_69
            · refine lv_iconst (v := 1) hx hb dX3_right_61 (by decide) ?_
              refine lv_goto (tgt := 66) hx hb dX3_right_62 (by decide) ?_
              refine z_zast S hK hM hS 1 (show M_1 (ar 9) = some (.inl (G.2.2 1, 60, .inl (F 9))) from hJ_3.2.1 9 (by decide)) rfl (zRi_in6 (zPl_9 c_4 c_5) (zTy_5 c_6 c_7)) (by decide) dX3_right_66 (fun H locs hM hS => ?_)
              obtain ⟨M_20, eM_21⟩ : ∃ z : zMap, z = zu M_1 (ar 9) (.inl ((G.2.2 1), 60, .inl (upd (F 9) ((6 * p0) + p1).toNatClampNeg 1))) := ⟨_, rfl⟩
              replace hM : zM A G M_20 H := by rw [eM_21]; exact hM
              have hJ_22 : zJ G M_20 m0 ar 0 (nI co) (nI ac) gr (zuf F 9 (upd (F 9) ((6 * p0) + p1).toNatClampNeg 1)) L := by rw [eM_21]; exact hJ_3.setI 9 (by decide) rfl _
              refine lv_iload hx hb dX3_right_67 (lv_at hl 0 rfl) ?_
              exact z_zret S hr hlocks (by decide) hM hS ⟨by rw [zb_t ⟨zPl_9 c_4 c_5, zTy_5 c_6 c_7, by rw [zix6]; exact c_8⟩], by unfold zRt; rw [if_pos ⟨zPl_9 c_4 c_5, zTy_5 c_6 c_7⟩, zix6, zb_t c_16]; exact hJ_22⟩ (Nat.le_of_ble_eq_true rfl) (Nat.le_of_ble_eq_true rfl) dX3_right_69
        · refine lv_iconst (v := 0) hx hb dX3_right_24 (by decide) ?_
          exact z_zret S hr hlocks (by decide) hM hS ⟨by rw [zb_f (fun q => (fun (q : zPl p0 ∧ zTy p1) => q.2.2 (le5 c_7)) ⟨q.1, q.2.1⟩)], by unfold zRt; rw [if_neg (fun q => q.2.2 (le5 c_7)), zuf_id]; exact hJ_3⟩ (Nat.le_of_ble_eq_true rfl) (Nat.le_of_ble_eq_true rfl) dX3_right_25
set_option maxHeartbeats 4000000 in
set_option maxRecDepth 100000 in
theorem c_X3_fee (l : Launch) (A : Nat → Prop) (G : zG) (M : zMap) (m0 : Nat) (ar : Nat → Nat) (th : Int32) (co ac : Nat) (gr : Int64) (F : Nat → Nat → Int32) (L : Nat → Nat → Int64) (p0 p1 : Int32) (hJ : zJ G M m0 ar th (nI co) (nI ac) gr F L) (hco : co ≤ 80) : zMet l yX3_fee cX3_fee 4 (some .int) { frames := 1, cells := 0, slots := 0, locals := 40 } [.ref m0, .int p0, .int p1] A G M (fun r M1 => r = some (.int (zFr p0 p1 (F 10))) ∧ zJ G M1 m0 ar 0 (nI co) (nI ac) gr (zuf F 10 (zFe p0 p1 (F 10))) L) := by
  refine zMet.of (by decide) (Nat.le_of_ble_eq_true rfl) ?_
  intro p e s m args below meth c ls S hr hlocks hnm hK hM hA hS hl
  have hl : lv_has ls 4 [(0, .ref m0), (1, .int p0), (2, .int p1)] := hl
  have hx := S.1
  have hb := S.2.1
  have hown := S.2.2.2.1
  have hts := S.2.2.2.2
  have hr : meth.sig.returnType = some .int := hr
  refine lv_aload_n hx hb dX3_fee_0 rfl (lv_at hl 0 rfl) ?_
  refine lv_iconst (v := 0) hx hb dX3_fee_1 (by decide) ?_
  refine z_put S kX3 hK hM hS hJ.1 0 (by decide) kw_220 rfl rfl rfl (Nat.le_of_ble_eq_true rfl) dX3_fee_2 (fun H locs hM hS => ?_)
  obtain ⟨M_1, eM_2⟩ : ∃ z : zMap, z = zu M m0 (oM 0 (nI co) ar (nI ac) gr) := ⟨_, rfl⟩
  replace hM : zM A G M_1 H := by rw [eM_2]; exact hM
  have hJ_3 : zJ G M_1 m0 ar 0 (nI co) (nI ac) gr F L := by rw [eM_2]; exact hJ.setO _ _ _ _
  refine lv_iload_n hx hb dX3_fee_5 rfl (lv_at hl 1 rfl) ?_
  refine lv_if_lt (tgt := 24) hx hb dX3_fee_6 (by decide) (fun c_4 => ?_) (fun c_4 => ?_)
  · refine lv_iconst (v := -1) hx hb dX3_fee_24 (by decide) ?_
    exact z_iret S hr hlocks hM hS ⟨by unfold zFr; rw [if_neg (fun q => q.1.1 c_4)], by unfold zFe; rw [if_neg (fun q => q.1.1 c_4), zuf_id]; exact hJ_3⟩ (Nat.le_of_ble_eq_true rfl) (Nat.le_of_ble_eq_true rfl) dX3_fee_25
  · refine lv_iload_n hx hb dX3_fee_9 rfl (lv_at hl 1 rfl) ?_
    refine lv_iconst (v := 5) hx hb dX3_fee_10 (by decide) ?_
    refine lv_icmp_gt (tgt := 24) hx hb dX3_fee_11 (by decide) (fun c_5 => ?_) (fun c_5 => ?_)
    · refine lv_iconst (v := -1) hx hb dX3_fee_24 (by decide) ?_
      exact z_iret S hr hlocks hM hS ⟨by unfold zFr; rw [if_neg (fun q => q.1.2 (gt5 c_5))], by unfold zFe; rw [if_neg (fun q => q.1.2 (gt5 c_5)), zuf_id]; exact hJ_3⟩ (Nat.le_of_ble_eq_true rfl) (Nat.le_of_ble_eq_true rfl) dX3_fee_25
    · refine lv_iload_n hx hb dX3_fee_14 rfl (lv_at hl 2 rfl) ?_
      refine lv_if_lt (tgt := 24) hx hb dX3_fee_15 (by decide) (fun c_6 => ?_) (fun c_6 => ?_)
      · refine lv_iconst (v := -1) hx hb dX3_fee_24 (by decide) ?_
        exact z_iret S hr hlocks hM hS ⟨by unfold zFr; rw [if_neg (fun q => q.2.1 c_6)], by unfold zFe; rw [if_neg (fun q => q.2.1 c_6), zuf_id]; exact hJ_3⟩ (Nat.le_of_ble_eq_true rfl) (Nat.le_of_ble_eq_true rfl) dX3_fee_25
      · refine lv_iload_n hx hb dX3_fee_18 rfl (lv_at hl 2 rfl) ?_
        refine lv_ldc (v := 1000000) hx hb hown (hts _ kw_302) dX3_fee_19 ?_
        refine lv_icmp_le (tgt := 26) hx hb dX3_fee_21 (by decide) (fun c_7 => ?_) (fun c_7 => ?_)
        · refine lv_aload_n hx hb dX3_fee_26 rfl (lv_at hl 0 rfl) ?_
          refine z_get (v := .ref (ar 10)) S kX3 hK hM hJ_3.1 12 (by decide) kw_232 rfl dX3_fee_27 ?_
          refine lv_iload_n hx hb dX3_fee_30 rfl (lv_at hl 1 rfl) ?_
          refine z_iald S hK hM 0 (show M_1 (ar 10) = some (.inl (G.2.2 0, 6, .inl (F 10))) from hJ_3.2.1 10 (by decide)) rfl (zTy_vp (zTy_g5 c_4 c_5)) dX3_fee_31 ?_
          refine lv_istore_n (lv' := [(3, .int (F 10 p0.toNatClampNeg)), (0, .ref m0), (1, .int p0), (2, .int p1)]) hx hb dX3_fee_32 rfl hl (by decide) rfl (fun ls hl => ?_)
          refine lv_aload_n hx hb dX3_fee_33 rfl (lv_at hl 1 rfl) ?_
          refine z_get (v := .ref (ar 10)) S kX3 hK hM hJ_3.1 12 (by decide) kw_232 rfl dX3_fee_34 ?_
          refine lv_iload_n hx hb dX3_fee_37 rfl (lv_at hl 2 rfl) ?_
          refine lv_iload_n hx hb dX3_fee_38 rfl (lv_at hl 3 rfl) ?_
          refine z_iast S hK hM hS 0 (show M_1 (ar 10) = some (.inl (G.2.2 0, 6, .inl (F 10))) from hJ_3.2.1 10 (by decide)) rfl (zTy_vp (zTy_g5 c_4 c_5)) dX3_fee_39 (fun H locs hM hS => ?_)
          obtain ⟨M_8, eM_9⟩ : ∃ z : zMap, z = zu M_1 (ar 10) (.inl ((G.2.2 0), 6, .inl (upd (F 10) p0.toNatClampNeg p1))) := ⟨_, rfl⟩
          replace hM : zM A G M_8 H := by rw [eM_9]; exact hM
          have hJ_10 : zJ G M_8 m0 ar 0 (nI co) (nI ac) gr (zuf F 10 (upd (F 10) p0.toNatClampNeg p1)) L := by rw [eM_9]; exact hJ_3.setI 10 (by decide) rfl _
          refine lv_iload_n hx hb dX3_fee_40 rfl (lv_at hl 0 rfl) ?_
          exact z_iret S hr hlocks hM hS ⟨by unfold zFr; rw [if_pos ⟨zTy_g5 c_4 c_5, c_6, c_7⟩], by unfold zFe; rw [if_pos ⟨zTy_g5 c_4 c_5, c_6, c_7⟩]; exact hJ_10⟩ (Nat.le_of_ble_eq_true rfl) (Nat.le_of_ble_eq_true rfl) dX3_fee_41
        · refine lv_iconst (v := -1) hx hb dX3_fee_24 (by decide) ?_
          exact z_iret S hr hlocks hM hS ⟨by unfold zFr; rw [if_neg (fun q => c_7 q.2.2)], by unfold zFe; rw [if_neg (fun q => c_7 q.2.2), zuf_id]; exact hJ_3⟩ (Nat.le_of_ble_eq_true rfl) (Nat.le_of_ble_eq_true rfl) dX3_fee_25
set_option maxHeartbeats 4000000 in
set_option maxRecDepth 100000 in
theorem c_X3_follows (l : Launch) (A : Nat → Prop) (G : zG) (M : zMap) (p0 p1 : Int32) : zMet l yX3_follows cX3_follows 2 (some .boolean) { frames := 0, cells := 0, slots := 0, locals := 0 } [.int p0, .int p1] A G M (fun r M1 => r = some (.int (zb (zFm p0 p1))) ∧ M1 = M) := by
  refine zMet.of (by decide) (Nat.le_of_ble_eq_true rfl) ?_
  intro p e s m args below meth c ls S hr hlocks hnm hK hM hA hS hl
  have hl : lv_has ls 2 [(0, .int p0), (1, .int p1)] := hl
  have hx := S.1
  have hb := S.2.1
  have hown := S.2.2.2.1
  have hts := S.2.2.2.2
  have hr : meth.sig.returnType = some .boolean := hr
  refine lv_iload_n hx hb dX3_follows_0 rfl (lv_at hl 0 rfl) ?_
  by_cases hk_0 : p0 = 0
  · subst hk_0
    refine lv_tableIn (tgt := 40) hx hb dX3_follows_1 (by decide) (by decide) rfl (by decide) ?_
    refine lv_iload_n hx hb dX3_follows_40 rfl (lv_at hl 1 rfl) ?_
    refine lv_if_le (tgt := 54) hx hb dX3_follows_41 (by decide) (fun c_1 => ?_) (fun c_1 => ?_)
    · refine lv_iconst (v := 0) hx hb dX3_follows_54 (by decide) ?_
      exact z_zret S hr hlocks (by decide) hM hS ⟨by simp [zb, zFm, c_1], rfl⟩ (Nat.le_of_ble_eq_true rfl) (Nat.le_of_ble_eq_true rfl) dX3_follows_55
    · refine lv_iload_n hx hb dX3_follows_44 rfl (lv_at hl 1 rfl) ?_
      refine lv_bipush (v := 7) hx hb dX3_follows_45 (by decide) ?_
      refine lv_icmp_ge (tgt := 54) hx hb dX3_follows_47 (by decide) (fun c_2 => ?_) (fun c_2 => ?_)
      · refine lv_iconst (v := 0) hx hb dX3_follows_54 (by decide) ?_
        exact z_zret S hr hlocks (by decide) hM hS ⟨by simp [zb, zFm, c_1, c_2], rfl⟩ (Nat.le_of_ble_eq_true rfl) (Nat.le_of_ble_eq_true rfl) dX3_follows_55
      · refine lv_iconst (v := 1) hx hb dX3_follows_50 (by decide) ?_
        refine lv_goto (tgt := 55) hx hb dX3_follows_51 (by decide) ?_
        exact z_zret S hr hlocks (by decide) hM hS ⟨by simp [zb, zFm, c_1, c_2], rfl⟩ (Nat.le_of_ble_eq_true rfl) (Nat.le_of_ble_eq_true rfl) dX3_follows_55
  by_cases hk_1 : p0 = 1
  · subst hk_1
    refine lv_tableIn (tgt := 56) hx hb dX3_follows_1 (by decide) (by decide) rfl (by decide) ?_
    refine lv_iload_n hx hb dX3_follows_56 rfl (lv_at hl 1 rfl) ?_
    refine lv_if_eq (tgt := 65) hx hb dX3_follows_57 (by decide) (fun c_3 => ?_) (fun c_3 => ?_)
    · refine lv_iconst (v := 1) hx hb dX3_follows_65 (by decide) ?_
      refine lv_goto (tgt := 70) hx hb dX3_follows_66 (by decide) ?_
      exact z_zret S hr hlocks (by decide) hM hS ⟨by simp [zb, zFm, c_3], rfl⟩ (Nat.le_of_ble_eq_true rfl) (Nat.le_of_ble_eq_true rfl) dX3_follows_70
    · refine lv_iload_n hx hb dX3_follows_60 rfl (lv_at hl 1 rfl) ?_
      refine lv_iconst (v := 4) hx hb dX3_follows_61 (by decide) ?_
      refine lv_icmp_ne (tgt := 69) hx hb dX3_follows_62 (by decide) (fun c_4 => ?_) (fun c_4 => ?_)
      · refine lv_iconst (v := 0) hx hb dX3_follows_69 (by decide) ?_
        exact z_zret S hr hlocks (by decide) hM hS ⟨by simp [zb, zFm, c_3, c_4], rfl⟩ (Nat.le_of_ble_eq_true rfl) (Nat.le_of_ble_eq_true rfl) dX3_follows_70
      · refine lv_iconst (v := 1) hx hb dX3_follows_65 (by decide) ?_
        refine lv_goto (tgt := 70) hx hb dX3_follows_66 (by decide) ?_
        exact z_zret S hr hlocks (by decide) hM hS ⟨by simp [zb, zFm, c_3, c_4], rfl⟩ (Nat.le_of_ble_eq_true rfl) (Nat.le_of_ble_eq_true rfl) dX3_follows_70
  by_cases hk_2 : p0 = 2
  · subst hk_2
    refine lv_tableIn (tgt := 71) hx hb dX3_follows_1 (by decide) (by decide) rfl (by decide) ?_
    refine lv_iload_n hx hb dX3_follows_71 rfl (lv_at hl 1 rfl) ?_
    refine lv_if_eq (tgt := 80) hx hb dX3_follows_72 (by decide) (fun c_5 => ?_) (fun c_5 => ?_)
    · refine lv_iconst (v := 1) hx hb dX3_follows_80 (by decide) ?_
      refine lv_goto (tgt := 85) hx hb dX3_follows_81 (by decide) ?_
      exact z_zret S hr hlocks (by decide) hM hS ⟨by simp [zb, zFm, c_5], rfl⟩ (Nat.le_of_ble_eq_true rfl) (Nat.le_of_ble_eq_true rfl) dX3_follows_85
    · refine lv_iload_n hx hb dX3_follows_75 rfl (lv_at hl 1 rfl) ?_
      refine lv_iconst (v := 3) hx hb dX3_follows_76 (by decide) ?_
      refine lv_icmp_ne (tgt := 84) hx hb dX3_follows_77 (by decide) (fun c_6 => ?_) (fun c_6 => ?_)
      · refine lv_iconst (v := 0) hx hb dX3_follows_84 (by decide) ?_
        exact z_zret S hr hlocks (by decide) hM hS ⟨by simp [zb, zFm, c_5, c_6], rfl⟩ (Nat.le_of_ble_eq_true rfl) (Nat.le_of_ble_eq_true rfl) dX3_follows_85
      · refine lv_iconst (v := 1) hx hb dX3_follows_80 (by decide) ?_
        refine lv_goto (tgt := 85) hx hb dX3_follows_81 (by decide) ?_
        exact z_zret S hr hlocks (by decide) hM hS ⟨by simp [zb, zFm, c_5, c_6], rfl⟩ (Nat.le_of_ble_eq_true rfl) (Nat.le_of_ble_eq_true rfl) dX3_follows_85
  by_cases hk_3 : p0 = 3
  · subst hk_3
    refine lv_tableIn (tgt := 86) hx hb dX3_follows_1 (by decide) (by decide) rfl (by decide) ?_
    refine lv_iload_n hx hb dX3_follows_86 rfl (lv_at hl 1 rfl) ?_
    refine lv_if_eq (tgt := 96) hx hb dX3_follows_87 (by decide) (fun c_7 => ?_) (fun c_7 => ?_)
    · refine lv_iconst (v := 1) hx hb dX3_follows_96 (by decide) ?_
      refine lv_goto (tgt := 101) hx hb dX3_follows_97 (by decide) ?_
      exact z_zret S hr hlocks (by decide) hM hS ⟨by simp [zb, zFm, c_7], rfl⟩ (Nat.le_of_ble_eq_true rfl) (Nat.le_of_ble_eq_true rfl) dX3_follows_101
    · refine lv_iload_n hx hb dX3_follows_90 rfl (lv_at hl 1 rfl) ?_
      refine lv_bipush (v := 6) hx hb dX3_follows_91 (by decide) ?_
      refine lv_icmp_ne (tgt := 100) hx hb dX3_follows_93 (by decide) (fun c_8 => ?_) (fun c_8 => ?_)
      · refine lv_iconst (v := 0) hx hb dX3_follows_100 (by decide) ?_
        exact z_zret S hr hlocks (by decide) hM hS ⟨by simp [zb, zFm, c_7, c_8], rfl⟩ (Nat.le_of_ble_eq_true rfl) (Nat.le_of_ble_eq_true rfl) dX3_follows_101
      · refine lv_iconst (v := 1) hx hb dX3_follows_96 (by decide) ?_
        refine lv_goto (tgt := 101) hx hb dX3_follows_97 (by decide) ?_
        exact z_zret S hr hlocks (by decide) hM hS ⟨by simp [zb, zFm, c_7, c_8], rfl⟩ (Nat.le_of_ble_eq_true rfl) (Nat.le_of_ble_eq_true rfl) dX3_follows_101
  by_cases hk_4 : p0 = 4
  · subst hk_4
    refine lv_tableIn (tgt := 102) hx hb dX3_follows_1 (by decide) (by decide) rfl (by decide) ?_
    refine lv_iload_n hx hb dX3_follows_102 rfl (lv_at hl 1 rfl) ?_
    refine lv_if_ne (tgt := 110) hx hb dX3_follows_103 (by decide) (fun c_9 => ?_) (fun c_9 => ?_)
    · refine lv_iconst (v := 0) hx hb dX3_follows_110 (by decide) ?_
      exact z_zret S hr hlocks (by decide) hM hS ⟨by simp [zb, zFm, c_9], rfl⟩ (Nat.le_of_ble_eq_true rfl) (Nat.le_of_ble_eq_true rfl) dX3_follows_111
    · refine lv_iconst (v := 1) hx hb dX3_follows_106 (by decide) ?_
      refine lv_goto (tgt := 111) hx hb dX3_follows_107 (by decide) ?_
      exact z_zret S hr hlocks (by decide) hM hS ⟨by simp [zb, zFm, c_9], rfl⟩ (Nat.le_of_ble_eq_true rfl) (Nat.le_of_ble_eq_true rfl) dX3_follows_111
  by_cases hk_5 : p0 = 5
  · subst hk_5
    refine lv_tableIn (tgt := 112) hx hb dX3_follows_1 (by decide) (by decide) rfl (by decide) ?_
    refine lv_iload_n hx hb dX3_follows_112 rfl (lv_at hl 1 rfl) ?_
    refine lv_if_eq (tgt := 121) hx hb dX3_follows_113 (by decide) (fun c_10 => ?_) (fun c_10 => ?_)
    · refine lv_iconst (v := 1) hx hb dX3_follows_121 (by decide) ?_
      refine lv_goto (tgt := 126) hx hb dX3_follows_122 (by decide) ?_
      exact z_zret S hr hlocks (by decide) hM hS ⟨by simp [zb, zFm, c_10], rfl⟩ (Nat.le_of_ble_eq_true rfl) (Nat.le_of_ble_eq_true rfl) dX3_follows_126
    · refine lv_iload_n hx hb dX3_follows_116 rfl (lv_at hl 1 rfl) ?_
      refine lv_iconst (v := 3) hx hb dX3_follows_117 (by decide) ?_
      refine lv_icmp_ne (tgt := 125) hx hb dX3_follows_118 (by decide) (fun c_11 => ?_) (fun c_11 => ?_)
      · refine lv_iconst (v := 0) hx hb dX3_follows_125 (by decide) ?_
        exact z_zret S hr hlocks (by decide) hM hS ⟨by simp [zb, zFm, c_10, c_11], rfl⟩ (Nat.le_of_ble_eq_true rfl) (Nat.le_of_ble_eq_true rfl) dX3_follows_126
      · refine lv_iconst (v := 1) hx hb dX3_follows_121 (by decide) ?_
        refine lv_goto (tgt := 126) hx hb dX3_follows_122 (by decide) ?_
        exact z_zret S hr hlocks (by decide) hM hS ⟨by simp [zb, zFm, c_10, c_11], rfl⟩ (Nat.le_of_ble_eq_true rfl) (Nat.le_of_ble_eq_true rfl) dX3_follows_126
  refine lv_tableOut (tgt := 127) hx hb dX3_follows_1 (zsw6 hk_0 hk_1 hk_2 hk_3 hk_4 hk_5) (by decide) ?_
  refine lv_iload_n hx hb dX3_follows_127 rfl (lv_at hl 1 rfl) ?_
  refine lv_bipush (v := 6) hx hb dX3_follows_128 (by decide) ?_
  refine lv_icmp_ge (tgt := 137) hx hb dX3_follows_130 (by decide) (fun c_12 => ?_) (fun c_12 => ?_)
  · refine lv_iconst (v := 0) hx hb dX3_follows_137 (by decide) ?_
    exact z_zret S hr hlocks (by decide) hM hS ⟨by simp [zb, zFm, hk_0, hk_1, hk_2, hk_3, hk_4, hk_5, c_12], rfl⟩ (Nat.le_of_ble_eq_true rfl) (Nat.le_of_ble_eq_true rfl) dX3_follows_138
  · refine lv_iconst (v := 1) hx hb dX3_follows_133 (by decide) ?_
    refine lv_goto (tgt := 138) hx hb dX3_follows_134 (by decide) ?_
    exact z_zret S hr hlocks (by decide) hM hS ⟨by simp [zb, zFm, hk_0, hk_1, hk_2, hk_3, hk_4, hk_5, c_12], rfl⟩ (Nat.le_of_ble_eq_true rfl) (Nat.le_of_ble_eq_true rfl) dX3_follows_138
