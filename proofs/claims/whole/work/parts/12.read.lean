set_option maxHeartbeats 4000000 in
set_option maxRecDepth 100000 in
theorem c_X2_place (l : Launch) (A : Nat → Prop) (G : zG) (M : zMap) (h0 cps den fee N : Nat) (ca : Nat → Nat) (cv : Nat → zCV) (ch : Nat → List (Nat × zEV)) (dn fe : Nat → Int32) (gd : Int64) (ec : Nat) (k : Int32) (hI : zI G M h0 cps den fee N ca cv ch dn fe gd ec) : zMet l yX2_place cX2_place 3 (some .int) { frames := 1, cells := 0, slots := 0, locals := 40 } [.ref h0, .int k] A G M (fun r M1 => r = some (.int (zsel N k (-1) (fun j => (cv j).2.2.2.2.1))) ∧ M1 = M) := by
  refine zMet.of (by decide) (Nat.le_of_ble_eq_true rfl) ?_
  intro p e s m args below meth c ls S hr hlocks hnm hK hM hA hS hl
  have hl : lv_has ls 3 [(0, .ref h0), (1, .int k)] := hl
  have hx := S.1
  have hb := S.2.1
  have hown := S.2.2.2.1
  have hts := S.2.2.2.2
  have hr : meth.sig.returnType = some .int := hr
  obtain ⟨h, hc, hd, hf, hdf, hN, hcp, hsep⟩ := id hI
  refine lv_aload_n hx hb dX2_place_0 rfl (lv_at hl 0 rfl) ?_
  refine lv_iload_n hx hb dX2_place_1 rfl (lv_at hl 1 rfl) ?_
  refine z_callV (As := [.int k]) (rest := []) S (c_X2_find l A G M h0 cps (nI N) den fee gd (nI ec) (zF N ca) k h hc) ok_X2_find kw_64 kw_66 ks_2 ⟨Nat.le_of_ble_eq_true rfl, Nat.le_of_ble_eq_true rfl⟩ hK hM hS hA h rfl rfl hl.1 rfl (Nat.le_of_ble_eq_true rfl) dX2_place_2 ⟨Nat.le_of_ble_eq_true rfl, Nat.le_of_ble_eq_true rfl⟩ (fun r_3 M_1 H locs hp_2 hM hS => ?_)
  obtain ⟨rfl, hM9⟩ := hp_2
  rw [hM9] at hM
  rw [zFi_eq hN]
  refine W.eq (g2 := F0 m 5 ls [va_rf ((zIx N k).map ca)]) rfl ?_
  rcases hz : zIx N k with _ | j
  · refine W.eq (g2 := F0 m 5 ls [.null]) rfl ?_
    refine lv_astore_nN (lv' := [(2, .null), (0, .ref h0), (1, .int k)]) hx hb dX2_place_5 rfl hl (by decide) rfl (fun ls hl => ?_)
    refine lv_aload_nN hx hb dX2_place_6 rfl (lv_at hl 0 rfl) ?_
    refine lv_ifnonnullN hx hb dX2_place_7 ?_
    refine lv_iconst (v := -1) hx hb dX2_place_10 (by decide) ?_
    refine lv_goto (tgt := 18) hx hb dX2_place_11 (by decide) ?_
    exact z_iret S hr hlocks hM hS ⟨by rw [zsel_n hz], rfl⟩ (Nat.le_of_ble_eq_true rfl) (Nat.le_of_ble_eq_true rfl) dX2_place_18
  · refine W.eq (g2 := F0 m 5 ls [.ref (ca j)]) rfl ?_
    have hj := (zIx_some hN hz).1
    have hcj := (hcp j hj).1
    refine lv_astore_n (lv' := [(2, .ref (ca j)), (0, .ref h0), (1, .int k)]) hx hb dX2_place_5 rfl hl (by decide) rfl (fun ls hl => ?_)
    refine lv_aload_n hx hb dX2_place_6 rfl (lv_at hl 0 rfl) ?_
    refine lv_ifnonnull (tgt := 14) hx hb dX2_place_7 (by decide) ?_
    refine lv_aload_n hx hb dX2_place_14 rfl (lv_at hl 0 rfl) ?_
    refine z_getN (v := .int ((cv j).2.2.2.2.1)) S kX0 hK hM hcj 4 (by decide) kw_86 rfl dX2_place_15 ?_
    exact z_iret S hr hlocks hM hS ⟨by rw [zsel_s hz], rfl⟩ (Nat.le_of_ble_eq_true rfl) (Nat.le_of_ble_eq_true rfl) dX2_place_18
set_option maxHeartbeats 4000000 in
set_option maxRecDepth 100000 in
theorem c_X2_home (l : Launch) (A : Nat → Prop) (G : zG) (M : zMap) (h0 cps den fee N : Nat) (ca : Nat → Nat) (cv : Nat → zCV) (ch : Nat → List (Nat × zEV)) (dn fe : Nat → Int32) (gd : Int64) (ec : Nat) (k : Int32) (hI : zI G M h0 cps den fee N ca cv ch dn fe gd ec) : zMet l yX2_home cX2_home 3 (some .int) { frames := 1, cells := 0, slots := 0, locals := 40 } [.ref h0, .int k] A G M (fun r M1 => r = some (.int (zsel N k (-1) (fun j => (cv j).2.2.2.1))) ∧ M1 = M) := by
  refine zMet.of (by decide) (Nat.le_of_ble_eq_true rfl) ?_
  intro p e s m args below meth c ls S hr hlocks hnm hK hM hA hS hl
  have hl : lv_has ls 3 [(0, .ref h0), (1, .int k)] := hl
  have hx := S.1
  have hb := S.2.1
  have hown := S.2.2.2.1
  have hts := S.2.2.2.2
  have hr : meth.sig.returnType = some .int := hr
  obtain ⟨h, hc, hd, hf, hdf, hN, hcp, hsep⟩ := id hI
  refine lv_aload_n hx hb dX2_home_0 rfl (lv_at hl 0 rfl) ?_
  refine lv_iload_n hx hb dX2_home_1 rfl (lv_at hl 1 rfl) ?_
  refine z_callV (As := [.int k]) (rest := []) S (c_X2_find l A G M h0 cps (nI N) den fee gd (nI ec) (zF N ca) k h hc) ok_X2_find kw_64 kw_66 ks_2 ⟨Nat.le_of_ble_eq_true rfl, Nat.le_of_ble_eq_true rfl⟩ hK hM hS hA h rfl rfl hl.1 rfl (Nat.le_of_ble_eq_true rfl) dX2_home_2 ⟨Nat.le_of_ble_eq_true rfl, Nat.le_of_ble_eq_true rfl⟩ (fun r_3 M_1 H locs hp_2 hM hS => ?_)
  obtain ⟨rfl, hM9⟩ := hp_2
  rw [hM9] at hM
  rw [zFi_eq hN]
  refine W.eq (g2 := F0 m 5 ls [va_rf ((zIx N k).map ca)]) rfl ?_
  rcases hz : zIx N k with _ | j
  · refine W.eq (g2 := F0 m 5 ls [.null]) rfl ?_
    refine lv_astore_nN (lv' := [(2, .null), (0, .ref h0), (1, .int k)]) hx hb dX2_home_5 rfl hl (by decide) rfl (fun ls hl => ?_)
    refine lv_aload_nN hx hb dX2_home_6 rfl (lv_at hl 0 rfl) ?_
    refine lv_ifnonnullN hx hb dX2_home_7 ?_
    refine lv_iconst (v := -1) hx hb dX2_home_10 (by decide) ?_
    refine lv_goto (tgt := 18) hx hb dX2_home_11 (by decide) ?_
    exact z_iret S hr hlocks hM hS ⟨by rw [zsel_n hz], rfl⟩ (Nat.le_of_ble_eq_true rfl) (Nat.le_of_ble_eq_true rfl) dX2_home_18
  · refine W.eq (g2 := F0 m 5 ls [.ref (ca j)]) rfl ?_
    have hj := (zIx_some hN hz).1
    have hcj := (hcp j hj).1
    refine lv_astore_n (lv' := [(2, .ref (ca j)), (0, .ref h0), (1, .int k)]) hx hb dX2_home_5 rfl hl (by decide) rfl (fun ls hl => ?_)
    refine lv_aload_n hx hb dX2_home_6 rfl (lv_at hl 0 rfl) ?_
    refine lv_ifnonnull (tgt := 14) hx hb dX2_home_7 (by decide) ?_
    refine lv_aload_n hx hb dX2_home_14 rfl (lv_at hl 0 rfl) ?_
    refine z_getN (v := .int ((cv j).2.2.2.1)) S kX0 hK hM hcj 3 (by decide) kw_84 rfl dX2_home_15 ?_
    exact z_iret S hr hlocks hM hS ⟨by rw [zsel_s hz], rfl⟩ (Nat.le_of_ble_eq_true rfl) (Nat.le_of_ble_eq_true rfl) dX2_home_18
set_option maxHeartbeats 4000000 in
set_option maxRecDepth 100000 in
theorem c_X2_owed (l : Launch) (A : Nat → Prop) (G : zG) (M : zMap) (h0 cps den fee N : Nat) (ca : Nat → Nat) (cv : Nat → zCV) (ch : Nat → List (Nat × zEV)) (dn fe : Nat → Int32) (gd : Int64) (ec : Nat) (k : Int32) (hI : zI G M h0 cps den fee N ca cv ch dn fe gd ec) : zMet l yX2_owed cX2_owed 3 (some .int) { frames := 1, cells := 0, slots := 0, locals := 40 } [.ref h0, .int k] A G M (fun r M1 => r = some (.int (zsel N k (-1) (fun j => (cv j).2.2.2.2.2.2.2.1))) ∧ M1 = M) := by
  refine zMet.of (by decide) (Nat.le_of_ble_eq_true rfl) ?_
  intro p e s m args below meth c ls S hr hlocks hnm hK hM hA hS hl
  have hl : lv_has ls 3 [(0, .ref h0), (1, .int k)] := hl
  have hx := S.1
  have hb := S.2.1
  have hown := S.2.2.2.1
  have hts := S.2.2.2.2
  have hr : meth.sig.returnType = some .int := hr
  obtain ⟨h, hc, hd, hf, hdf, hN, hcp, hsep⟩ := id hI
  refine lv_aload_n hx hb dX2_owed_0 rfl (lv_at hl 0 rfl) ?_
  refine lv_iload_n hx hb dX2_owed_1 rfl (lv_at hl 1 rfl) ?_
  refine z_callV (As := [.int k]) (rest := []) S (c_X2_find l A G M h0 cps (nI N) den fee gd (nI ec) (zF N ca) k h hc) ok_X2_find kw_64 kw_66 ks_2 ⟨Nat.le_of_ble_eq_true rfl, Nat.le_of_ble_eq_true rfl⟩ hK hM hS hA h rfl rfl hl.1 rfl (Nat.le_of_ble_eq_true rfl) dX2_owed_2 ⟨Nat.le_of_ble_eq_true rfl, Nat.le_of_ble_eq_true rfl⟩ (fun r_3 M_1 H locs hp_2 hM hS => ?_)
  obtain ⟨rfl, hM9⟩ := hp_2
  rw [hM9] at hM
  rw [zFi_eq hN]
  refine W.eq (g2 := F0 m 5 ls [va_rf ((zIx N k).map ca)]) rfl ?_
  rcases hz : zIx N k with _ | j
  · refine W.eq (g2 := F0 m 5 ls [.null]) rfl ?_
    refine lv_astore_nN (lv' := [(2, .null), (0, .ref h0), (1, .int k)]) hx hb dX2_owed_5 rfl hl (by decide) rfl (fun ls hl => ?_)
    refine lv_aload_nN hx hb dX2_owed_6 rfl (lv_at hl 0 rfl) ?_
    refine lv_ifnonnullN hx hb dX2_owed_7 ?_
    refine lv_iconst (v := -1) hx hb dX2_owed_10 (by decide) ?_
    refine lv_goto (tgt := 18) hx hb dX2_owed_11 (by decide) ?_
    exact z_iret S hr hlocks hM hS ⟨by rw [zsel_n hz], rfl⟩ (Nat.le_of_ble_eq_true rfl) (Nat.le_of_ble_eq_true rfl) dX2_owed_18
  · refine W.eq (g2 := F0 m 5 ls [.ref (ca j)]) rfl ?_
    have hj := (zIx_some hN hz).1
    have hcj := (hcp j hj).1
    refine lv_astore_n (lv' := [(2, .ref (ca j)), (0, .ref h0), (1, .int k)]) hx hb dX2_owed_5 rfl hl (by decide) rfl (fun ls hl => ?_)
    refine lv_aload_n hx hb dX2_owed_6 rfl (lv_at hl 0 rfl) ?_
    refine lv_ifnonnull (tgt := 14) hx hb dX2_owed_7 (by decide) ?_
    refine lv_aload_n hx hb dX2_owed_14 rfl (lv_at hl 0 rfl) ?_
    refine z_getN (v := .int ((cv j).2.2.2.2.2.2.2.1)) S kX0 hK hM hcj 7 (by decide) kw_92 rfl dX2_owed_15 ?_
    exact z_iret S hr hlocks hM hS ⟨by rw [zsel_s hz], rfl⟩ (Nat.le_of_ble_eq_true rfl) (Nat.le_of_ble_eq_true rfl) dX2_owed_18
set_option maxHeartbeats 4000000 in
set_option maxRecDepth 100000 in
theorem c_X2_state (l : Launch) (A : Nat → Prop) (G : zG) (M : zMap) (h0 cps den fee N : Nat) (ca : Nat → Nat) (cv : Nat → zCV) (ch : Nat → List (Nat × zEV)) (dn fe : Nat → Int32) (gd : Int64) (ec : Nat) (k : Int32) (day : Int64) (hI : zI G M h0 cps den fee N ca cv ch dn fe gd ec) : zMet l yX2_state cX2_state 5 (some .int) { frames := 2, cells := 0, slots := 0, locals := 80 } [.ref h0, .int k, .long day] A G M (fun r M1 => r = some (.int (zsel N k (-1) (fun j => zSt day (ch j)))) ∧ M1 = M) := by
  refine zMet.of (by decide) (Nat.le_of_ble_eq_true rfl) ?_
  intro p e s m args below meth c ls S hr hlocks hnm hK hM hA hS hl
  have hl : lv_has ls 5 [(0, .ref h0), (1, .int k), (2, .long day)] := hl
  have hx := S.1
  have hb := S.2.1
  have hown := S.2.2.2.1
  have hts := S.2.2.2.2
  have hr : meth.sig.returnType = some .int := hr
  obtain ⟨h, hc, hd, hf, hdf, hN, hcp, hsep⟩ := id hI
  refine lv_aload_n hx hb dX2_state_0 rfl (lv_at hl 0 rfl) ?_
  refine lv_iload_n hx hb dX2_state_1 rfl (lv_at hl 1 rfl) ?_
  refine z_callV (As := [.int k]) (rest := []) S (c_X2_find l A G M h0 cps (nI N) den fee gd (nI ec) (zF N ca) k h hc) ok_X2_find kw_64 kw_66 ks_2 ⟨Nat.le_of_ble_eq_true rfl, Nat.le_of_ble_eq_true rfl⟩ hK hM hS hA h rfl rfl hl.1 rfl (Nat.le_of_ble_eq_true rfl) dX2_state_2 ⟨Nat.le_of_ble_eq_true rfl, Nat.le_of_ble_eq_true rfl⟩ (fun r_3 M_1 H locs hp_2 hM hS => ?_)
  obtain ⟨rfl, hM9⟩ := hp_2
  rw [hM9] at hM
  rw [zFi_eq hN]
  refine W.eq (g2 := F0 m 5 ls [va_rf ((zIx N k).map ca)]) rfl ?_
  rcases hz : zIx N k with _ | j
  · refine W.eq (g2 := F0 m 5 ls [.null]) rfl ?_
    refine lv_astoreN (lv' := [(4, .null), (0, .ref h0), (1, .int k), (2, .long day)]) hx hb dX2_state_5 hl (by decide) rfl (fun ls hl => ?_)
    refine lv_aloadN hx hb dX2_state_7 (lv_at hl 0 rfl) ?_
    refine lv_ifnonnullN hx hb dX2_state_9 ?_
    refine lv_iconst (v := -1) hx hb dX2_state_12 (by decide) ?_
    refine lv_goto (tgt := 22) hx hb dX2_state_13 (by decide) ?_
    exact z_iret S hr hlocks hM hS ⟨by rw [zsel_n hz], rfl⟩ (Nat.le_of_ble_eq_true rfl) (Nat.le_of_ble_eq_true rfl) dX2_state_22
  · refine W.eq (g2 := F0 m 5 ls [.ref (ca j)]) rfl ?_
    have hj := (zIx_some hN hz).1
    have hcj := (hcp j hj).1
    refine lv_astore (lv' := [(4, .ref (ca j)), (0, .ref h0), (1, .int k), (2, .long day)]) hx hb dX2_state_5 hl (by decide) rfl (fun ls hl => ?_)
    refine lv_aload hx hb dX2_state_7 (lv_at hl 0 rfl) ?_
    refine lv_ifnonnull (tgt := 16) hx hb dX2_state_9 (by decide) ?_
    refine lv_aload hx hb dX2_state_16 (lv_at hl 0 rfl) ?_
    refine lv_lload_n hx hb dX2_state_18 rfl (lv_at hl 3 rfl) ?_
    refine z_callS (As := [.ref (ca j), .long day]) (rest := []) S (c_X2_stateOn l A G M (ca j) (cv j).1 (cv j).2.1 (cv j).2.2.1 (cv j).2.2.2.1 (cv j).2.2.2.2.1 (cv j).2.2.2.2.2.1 (cv j).2.2.2.2.2.2.1 (cv j).2.2.2.2.2.2.2.1 (cv j).2.2.2.2.2.2.2.2 (ch j) day hcj (hcp j hj).2.1) ok_X2_stateOn kw_132 kw_133 ⟨Nat.le_of_ble_eq_true rfl, Nat.le_of_ble_eq_true rfl⟩ hK hM hS hA rfl hl.1 rfl (Nat.le_of_ble_eq_true rfl) dX2_state_19 ⟨Nat.le_of_ble_eq_true rfl, Nat.le_of_ble_eq_true rfl⟩ (fun r_6 M_4 H locs hp_5 hM hS => ?_)
    obtain ⟨rfl, hM9⟩ := hp_5
    rw [hM9] at hM
    refine W.eq (g2 := F0 m 22 ls [.int (zSt day (ch j))]) rfl ?_
    exact z_iret S hr hlocks hM hS ⟨by rw [zsel_s hz], rfl⟩ (Nat.le_of_ble_eq_true rfl) (Nat.le_of_ble_eq_true rfl) dX2_state_22
set_option maxHeartbeats 4000000 in
set_option maxRecDepth 100000 in
theorem c_X2_floats (l : Launch) (A : Nat → Prop) (G : zG) (M : zMap) (h0 cps den fee N : Nat) (ca : Nat → Nat) (cv : Nat → zCV) (ch : Nat → List (Nat × zEV)) (dn fe : Nat → Int32) (gd : Int64) (ec : Nat) (k on : Int32) (hI : zI G M h0 cps den fee N ca cv ch dn fe gd ec) (hbool : zbool on) : zMet l yX2_floats cX2_floats 5 (some .boolean) { frames := 1, cells := 0, slots := 0, locals := 40 } [.ref h0, .int k, .int on] A G M (fun r M1 => r = some (.int (zsel N k 0 (fun j => (cv j).2.2.2.2.2.2.1))) ∧ zI G M1 h0 cps den fee N ca (zFl N k on cv) ch dn fe gd ec) := by
  refine zMet.of (by decide) (Nat.le_of_ble_eq_true rfl) ?_
  intro p e s m args below meth c ls S hr hlocks hnm hK hM hA hS hl
  have hl : lv_has ls 5 [(0, .ref h0), (1, .int k), (2, .int on)] := hl
  have hx := S.1
  have hb := S.2.1
  have hown := S.2.2.2.1
  have hts := S.2.2.2.2
  have hr : meth.sig.returnType = some .boolean := hr
  obtain ⟨h, hc, hd, hf, hdf, hN, hcp, hsep⟩ := id hI
  refine lv_aload_n hx hb dX2_floats_0 rfl (lv_at hl 0 rfl) ?_
  refine lv_iload_n hx hb dX2_floats_1 rfl (lv_at hl 1 rfl) ?_
  refine z_callV (As := [.int k]) (rest := []) S (c_X2_find l A G M h0 cps (nI N) den fee gd (nI ec) (zF N ca) k h hc) ok_X2_find kw_64 kw_66 ks_2 ⟨Nat.le_of_ble_eq_true rfl, Nat.le_of_ble_eq_true rfl⟩ hK hM hS hA h rfl rfl hl.1 rfl (Nat.le_of_ble_eq_true rfl) dX2_floats_2 ⟨Nat.le_of_ble_eq_true rfl, Nat.le_of_ble_eq_true rfl⟩ (fun r_3 M_1 H locs hp_2 hM hS => ?_)
  obtain ⟨rfl, hM9⟩ := hp_2
  rw [hM9] at hM
  rw [zFi_eq hN]
  refine W.eq (g2 := F0 m 5 ls [va_rf ((zIx N k).map ca)]) rfl ?_
  rcases hz : zIx N k with _ | j
  · refine W.eq (g2 := F0 m 5 ls [.null]) rfl ?_
    refine lv_astore_nN (lv' := [(3, .null), (0, .ref h0), (1, .int k), (2, .int on)]) hx hb dX2_floats_5 rfl hl (by decide) rfl (fun ls hl => ?_)
    refine lv_aload_nN hx hb dX2_floats_6 rfl (lv_at hl 0 rfl) ?_
    refine lv_ifnonnullN hx hb dX2_floats_7 ?_
    refine lv_iconst (v := 0) hx hb dX2_floats_10 (by decide) ?_
    exact z_zret S hr hlocks (by decide) hM hS ⟨by rw [zsel_n hz], by unfold zFl; rw [hz]; exact hI⟩ (Nat.le_of_ble_eq_true rfl) (Nat.le_of_ble_eq_true rfl) dX2_floats_11
  · refine W.eq (g2 := F0 m 5 ls [.ref (ca j)]) rfl ?_
    have hj := (zIx_some hN hz).1
    have hcj := (hcp j hj).1
    refine lv_astore_n (lv' := [(3, .ref (ca j)), (0, .ref h0), (1, .int k), (2, .int on)]) hx hb dX2_floats_5 rfl hl (by decide) rfl (fun ls hl => ?_)
    refine lv_aload_n hx hb dX2_floats_6 rfl (lv_at hl 0 rfl) ?_
    refine lv_ifnonnull (tgt := 12) hx hb dX2_floats_7 (by decide) ?_
    refine lv_aload_n hx hb dX2_floats_12 rfl (lv_at hl 0 rfl) ?_
    refine z_getN (v := .int ((cv j).2.2.2.2.2.2.1)) S kX0 hK hM hcj 6 (by decide) kw_90 rfl dX2_floats_13 ?_
    refine lv_istore (lv' := [(4, .int ((cv j).2.2.2.2.2.2.1)), (3, .ref (ca j)), (0, .ref h0), (1, .int k), (2, .int on)]) hx hb dX2_floats_16 hl (by decide) rfl (fun ls hl => ?_)
    refine lv_aload_n hx hb dX2_floats_18 rfl (lv_at hl 1 rfl) ?_
    refine lv_iload_n hx hb dX2_floats_19 rfl (lv_at hl 4 rfl) ?_
    refine z_putN S kX0 hK hM hS hcj 6 (by decide) kw_90 rfl (z_nb hbool) (z_fb hbool) (Nat.le_of_ble_eq_true rfl) dX2_floats_20 (fun H locs hM hS => ?_)
    obtain ⟨M_4, eM_5⟩ : ∃ z : zMap, z = zu M (ca j) (.inr (0, [.int ((cv j).1), .long ((cv j).2.1), .int ((cv j).2.2.1), .int ((cv j).2.2.2.1), .int ((cv j).2.2.2.2.1), .int ((cv j).2.2.2.2.2.1), .int on, .int ((cv j).2.2.2.2.2.2.2.1), .int ((cv j).2.2.2.2.2.2.2.2), va_rf (zHd (ch j))])) := ⟨_, rfl⟩
    replace hM : zM A G M_4 H := by rw [eM_5]; exact hM
    have he_6 : M_4 (ca j) = some (.inr (0, [.int ((cv j).1), .long ((cv j).2.1), .int ((cv j).2.2.1), .int ((cv j).2.2.2.1), .int ((cv j).2.2.2.2.1), .int ((cv j).2.2.2.2.2.1), .int on, .int ((cv j).2.2.2.2.2.2.2.1), .int ((cv j).2.2.2.2.2.2.2.2), va_rf (zHd (ch j))])) := by rw [eM_5]; exact zu_s _ _ _
    have he_7 := (show M_4 h0 = M h0 by rw [eM_5]; exact zu_n (zne h hcj (by simp))).trans h
    have he_8 := (show M_4 cps = M cps by rw [eM_5]; exact zu_n (zne hc hcj (by simp))).trans hc
    have he_9 := (show M_4 den = M den by rw [eM_5]; exact zu_n (zne hd hcj (by simp))).trans hd
    have he_10 := (show M_4 fee = M fee by rw [eM_5]; exact zu_n (zne hf hcj (by simp))).trans hf
    refine lv_iload hx hb dX2_floats_23 (lv_at hl 0 rfl) ?_
    exact z_zret S hr hlocks (z_nb (hcp j hj).2.2) hM hS ⟨by rw [zsel_s hz], by rw [eM_5]; unfold zFl; rw [hz]; exact hI.setC hj ((cv j).1, (cv j).2.1, (cv j).2.2.1, (cv j).2.2.2.1, (cv j).2.2.2.2.1, (cv j).2.2.2.2.2.1, on, (cv j).2.2.2.2.2.2.2.1, (cv j).2.2.2.2.2.2.2.2) hbool⟩ (Nat.le_of_ble_eq_true rfl) (Nat.le_of_ble_eq_true rfl) dX2_floats_25
set_option maxHeartbeats 4000000 in
set_option maxRecDepth 100000 in
theorem c_X2_right (l : Launch) (A : Nat → Prop) (G : zG) (M : zMap) (h0 cps den fee N : Nat) (ca : Nat → Nat) (cv : Nat → zCV) (ch : Nat → List (Nat × zEV)) (dn fe : Nat → Int32) (gd : Int64) (ec : Nat) (p0 p1 on : Int32) (hI : zI G M h0 cps den fee N ca cv ch dn fe gd ec) : zMet l yX2_right cX2_right 5 (some .boolean) { frames := 2, cells := 0, slots := 0, locals := 80 } [.ref h0, .int p0, .int p1, .int on] A G M (fun r M1 => r = some (.int (zb (zRi dn p0 p1))) ∧ zI G M1 h0 cps den fee N ca cv ch (zRt p0 p1 on dn) fe gd ec) := by
  refine zMet.of (by decide) (Nat.le_of_ble_eq_true rfl) ?_
  intro p e s m args below meth c ls S hr hlocks hnm hK hM hA hS hl
  have hl : lv_has ls 5 [(0, .ref h0), (1, .int p0), (2, .int p1), (3, .int on)] := hl
  have hx := S.1
  have hb := S.2.1
  have hown := S.2.2.2.1
  have hts := S.2.2.2.2
  have hr : meth.sig.returnType = some .boolean := hr
  obtain ⟨h, hc, hd, hf, hdf, hN, hcp, hsep⟩ := id hI
  refine lv_aload_n hx hb dX2_right_0 rfl (lv_at hl 0 rfl) ?_
  refine lv_iload_n hx hb dX2_right_1 rfl (lv_at hl 1 rfl) ?_
  refine lv_iload_n hx hb dX2_right_2 rfl (lv_at hl 2 rfl) ?_
  refine z_callV (As := [.int p0, .int p1]) (rest := []) S (c_X2_hasRight l A G M h0 cps (nI N) den fee gd (nI ec) dn p0 p1 h hd) ok_X2_hasRight kw_68 kw_70 ks_3 ⟨Nat.le_of_ble_eq_true rfl, Nat.le_of_ble_eq_true rfl⟩ hK hM hS hA h rfl rfl hl.1 rfl (Nat.le_of_ble_eq_true rfl) dX2_right_3 ⟨Nat.le_of_ble_eq_true rfl, Nat.le_of_ble_eq_true rfl⟩ (fun r_3 M_1 H locs hp_2 hM hS => ?_)
  obtain ⟨rfl, hM9⟩ := hp_2
  rw [hM9] at hM
  refine W.eq (g2 := F0 m 6 ls [.int (zb (zRi dn p0 p1))]) rfl ?_
  refine lv_istore (lv' := [(4, .int (zb (zRi dn p0 p1))), (0, .ref h0), (1, .int p0), (2, .int p1), (3, .int on)]) hx hb dX2_right_6 hl (by decide) rfl (fun ls hl => ?_)
  refine lv_iload_n hx hb dX2_right_8 rfl (lv_at hl 2 rfl) ?_
  refine z_callS (As := [.int p0]) (rest := []) S (c_X2_isPlace l A G M p0) ok_X2_isPlace kw_52 kw_53 ⟨Nat.le_of_ble_eq_true rfl, Nat.le_of_ble_eq_true rfl⟩ hK hM hS hA rfl hl.1 rfl (Nat.le_of_ble_eq_true rfl) dX2_right_9 ⟨Nat.le_of_ble_eq_true rfl, Nat.le_of_ble_eq_true rfl⟩ (fun r_6 M_4 H locs hp_5 hM hS => ?_)
  obtain ⟨rfl, hM9⟩ := hp_5
  rw [hM9] at hM
  refine W.eq (g2 := F0 m 12 ls [.int (zb (zPl p0))]) rfl ?_
  refine lv_if_eq (tgt := 42) hx hb dX2_right_12 (by decide) (fun c_7 => ?_) (fun c_7 => ?_)
  · rw [zb_0] at c_7
    refine lv_iload hx hb dX2_right_42 (lv_at hl 0 rfl) ?_
    exact z_zret S hr hlocks (z_nb zb_bool) hM hS ⟨rfl, by unfold zRt; rw [if_neg (fun q => c_7 q.1)]; exact hI⟩ (Nat.le_of_ble_eq_true rfl) (Nat.le_of_ble_eq_true rfl) dX2_right_44
  · rw [zb_0n] at c_7
    refine lv_iload_n hx hb dX2_right_15 rfl (lv_at hl 3 rfl) ?_
    refine z_callS (As := [.int p1]) (rest := []) S (c_X2_isType l A G M p1) ok_X2_isType kw_49 kw_50 ⟨Nat.le_of_ble_eq_true rfl, Nat.le_of_ble_eq_true rfl⟩ hK hM hS hA rfl hl.1 rfl (Nat.le_of_ble_eq_true rfl) dX2_right_16 ⟨Nat.le_of_ble_eq_true rfl, Nat.le_of_ble_eq_true rfl⟩ (fun r_10 M_8 H locs hp_9 hM hS => ?_)
    obtain ⟨rfl, hM9⟩ := hp_9
    rw [hM9] at hM
    refine W.eq (g2 := F0 m 19 ls [.int (zb (zTy p1))]) rfl ?_
    refine lv_if_eq (tgt := 42) hx hb dX2_right_19 (by decide) (fun c_11 => ?_) (fun c_11 => ?_)
    · rw [zb_0] at c_11
      refine lv_iload hx hb dX2_right_42 (lv_at hl 0 rfl) ?_
      exact z_zret S hr hlocks (z_nb zb_bool) hM hS ⟨rfl, by unfold zRt; rw [if_neg (fun q => c_11 q.2)]; exact hI⟩ (Nat.le_of_ble_eq_true rfl) (Nat.le_of_ble_eq_true rfl) dX2_right_44
    · rw [zb_0n] at c_11
      refine lv_aload_n hx hb dX2_right_22 rfl (lv_at hl 1 rfl) ?_
      refine z_get (v := .ref den) S kX2 hK hM h 2 (by decide) kw_18 rfl dX2_right_23 ?_
      refine lv_iload_n hx hb dX2_right_26 rfl (lv_at hl 2 rfl) ?_
      refine lv_bipush (v := 6) hx hb dX2_right_27 (by decide) ?_
      refine lv_imul hx hb dX2_right_29 ?_
      refine lv_iload_n hx hb dX2_right_30 rfl (lv_at hl 3 rfl) ?_
      refine lv_iadd hx hb dX2_right_31 ?_
      refine lv_iload_n hx hb dX2_right_32 rfl (lv_at hl 4 rfl) ?_
      refine lv_if_ne (tgt := 40) hx hb dX2_right_33 (by decide) (fun c_12 => ?_) (fun c_12 => ?_)
      · refine lv_iconst (v := 0) hx hb dX2_right_40 (by decide) ?_
        refine z_zast S hK hM hS 1 hd rfl (zRi_in c_7 c_11) (by decide) dX2_right_41 (fun H locs hM hS => ?_)
        obtain ⟨M_13, eM_14⟩ : ∃ z : zMap, z = zu M den (.inl ((G.2.2 1), 60, .inl (upd dn ((p0 * 6) + p1).toNatClampNeg 0))) := ⟨_, rfl⟩
        replace hM : zM A G M_13 H := by rw [eM_14]; exact hM
        have he_15 : M_13 den = some (.inl ((G.2.2 1), 60, .inl (upd dn ((p0 * 6) + p1).toNatClampNeg 0))) := by rw [eM_14]; exact zu_s _ _ _
        have he_16 := (show M_13 h0 = M h0 by rw [eM_14]; exact zu_n (zne h hd (by simp))).trans h
        have he_17 := (show M_13 cps = M cps by rw [eM_14]; exact zu_n (zne hc hd (by simp))).trans hc
        have he_18 := (show M_13 fee = M fee by rw [eM_14]; exact zu_n (zne hf hd (by simp))).trans hf
        refine lv_iload hx hb dX2_right_42 (lv_at hl 0 rfl) ?_
        exact z_zret S hr hlocks (z_nb zb_bool) hM hS ⟨rfl, by rw [eM_14]; unfold zRt; rw [if_pos ⟨c_7, c_11⟩, zb_f c_12]; exact hI.setD _⟩ (Nat.le_of_ble_eq_true rfl) (Nat.le_of_ble_eq_true rfl) dX2_right_44
      · refine lv_iconst (v := 1) hx hb dX2_right_36 (by decide) ?_
        refine lv_goto (tgt := 41) hx hb dX2_right_37 (by decide) ?_
        refine z_zast S hK hM hS 1 hd rfl (zRi_in c_7 c_11) (by decide) dX2_right_41 (fun H locs hM hS => ?_)
        obtain ⟨M_19, eM_20⟩ : ∃ z : zMap, z = zu M den (.inl ((G.2.2 1), 60, .inl (upd dn ((p0 * 6) + p1).toNatClampNeg 1))) := ⟨_, rfl⟩
        replace hM : zM A G M_19 H := by rw [eM_20]; exact hM
        have he_21 : M_19 den = some (.inl ((G.2.2 1), 60, .inl (upd dn ((p0 * 6) + p1).toNatClampNeg 1))) := by rw [eM_20]; exact zu_s _ _ _
        have he_22 := (show M_19 h0 = M h0 by rw [eM_20]; exact zu_n (zne h hd (by simp))).trans h
        have he_23 := (show M_19 cps = M cps by rw [eM_20]; exact zu_n (zne hc hd (by simp))).trans hc
        have he_24 := (show M_19 fee = M fee by rw [eM_20]; exact zu_n (zne hf hd (by simp))).trans hf
        refine lv_iload hx hb dX2_right_42 (lv_at hl 0 rfl) ?_
        exact z_zret S hr hlocks (z_nb zb_bool) hM hS ⟨rfl, by rw [eM_20]; unfold zRt; rw [if_pos ⟨c_7, c_11⟩, zb_t c_12]; exact hI.setD _⟩ (Nat.le_of_ble_eq_true rfl) (Nat.le_of_ble_eq_true rfl) dX2_right_44
set_option maxHeartbeats 4000000 in
set_option maxRecDepth 100000 in
theorem c_X2_fee (l : Launch) (A : Nat → Prop) (G : zG) (M : zMap) (h0 cps den fee N : Nat) (ca : Nat → Nat) (cv : Nat → zCV) (ch : Nat → List (Nat × zEV)) (dn fe : Nat → Int32) (gd : Int64) (ec : Nat) (p0 p1 : Int32) (hI : zI G M h0 cps den fee N ca cv ch dn fe gd ec) : zMet l yX2_fee cX2_fee 4 (some .int) { frames := 1, cells := 0, slots := 0, locals := 40 } [.ref h0, .int p0, .int p1] A G M (fun r M1 => r = some (.int (zFr p0 p1 fe)) ∧ zI G M1 h0 cps den fee N ca cv ch dn (zFe p0 p1 fe) gd ec) := by
  refine zMet.of (by decide) (Nat.le_of_ble_eq_true rfl) ?_
  intro p e s m args below meth c ls S hr hlocks hnm hK hM hA hS hl
  have hl : lv_has ls 4 [(0, .ref h0), (1, .int p0), (2, .int p1)] := hl
  have hx := S.1
  have hb := S.2.1
  have hown := S.2.2.2.1
  have hts := S.2.2.2.2
  have hr : meth.sig.returnType = some .int := hr
  obtain ⟨h, hc, hd, hf, hdf, hN, hcp, hsep⟩ := id hI
  refine lv_iload_n hx hb dX2_fee_0 rfl (lv_at hl 1 rfl) ?_
  refine z_callS (As := [.int p0]) (rest := []) S (c_X2_isType l A G M p0) ok_X2_isType kw_49 kw_50 ⟨Nat.le_of_ble_eq_true rfl, Nat.le_of_ble_eq_true rfl⟩ hK hM hS hA rfl hl.1 rfl (Nat.le_of_ble_eq_true rfl) dX2_fee_1 ⟨Nat.le_of_ble_eq_true rfl, Nat.le_of_ble_eq_true rfl⟩ (fun r_3 M_1 H locs hp_2 hM hS => ?_)
  obtain ⟨rfl, hM9⟩ := hp_2
  rw [hM9] at hM
  refine W.eq (g2 := F0 m 4 ls [.int (zb (zTy p0))]) rfl ?_
  refine lv_if_eq (tgt := 17) hx hb dX2_fee_4 (by decide) (fun c_4 => ?_) (fun c_4 => ?_)
  · rw [zb_0] at c_4
    refine lv_iconst (v := -1) hx hb dX2_fee_17 (by decide) ?_
    exact z_iret S hr hlocks hM hS ⟨by unfold zFr; rw [if_neg (fun q => c_4 q.1)], by unfold zFe; rw [if_neg (fun q => c_4 q.1)]; exact hI⟩ (Nat.le_of_ble_eq_true rfl) (Nat.le_of_ble_eq_true rfl) dX2_fee_18
  · rw [zb_0n] at c_4
    refine lv_iload_n hx hb dX2_fee_7 rfl (lv_at hl 2 rfl) ?_
    refine lv_if_lt (tgt := 17) hx hb dX2_fee_8 (by decide) (fun c_5 => ?_) (fun c_5 => ?_)
    · refine lv_iconst (v := -1) hx hb dX2_fee_17 (by decide) ?_
      exact z_iret S hr hlocks hM hS ⟨by unfold zFr; rw [if_neg (fun q => q.2.1 c_5)], by unfold zFe; rw [if_neg (fun q => q.2.1 c_5)]; exact hI⟩ (Nat.le_of_ble_eq_true rfl) (Nat.le_of_ble_eq_true rfl) dX2_fee_18
    · refine lv_iload_n hx hb dX2_fee_11 rfl (lv_at hl 2 rfl) ?_
      refine lv_ldc (v := 1000000) hx hb hown (hts _ kw_126) dX2_fee_12 ?_
      refine lv_icmp_le (tgt := 19) hx hb dX2_fee_14 (by decide) (fun c_6 => ?_) (fun c_6 => ?_)
      · refine lv_aload_n hx hb dX2_fee_19 rfl (lv_at hl 0 rfl) ?_
        refine z_get (v := .ref fee) S kX2 hK hM h 3 (by decide) kw_19 rfl dX2_fee_20 ?_
        refine lv_iload_n hx hb dX2_fee_23 rfl (lv_at hl 1 rfl) ?_
        refine z_iald S hK hM 0 hf rfl (zTy_vp c_4) dX2_fee_24 ?_
        refine lv_istore_n (lv' := [(3, .int (fe p0.toNatClampNeg)), (0, .ref h0), (1, .int p0), (2, .int p1)]) hx hb dX2_fee_25 rfl hl (by decide) rfl (fun ls hl => ?_)
        refine lv_aload_n hx hb dX2_fee_26 rfl (lv_at hl 1 rfl) ?_
        refine z_get (v := .ref fee) S kX2 hK hM h 3 (by decide) kw_19 rfl dX2_fee_27 ?_
        refine lv_iload_n hx hb dX2_fee_30 rfl (lv_at hl 2 rfl) ?_
        refine lv_iload_n hx hb dX2_fee_31 rfl (lv_at hl 3 rfl) ?_
        refine z_iast S hK hM hS 0 hf rfl (zTy_vp c_4) dX2_fee_32 (fun H locs hM hS => ?_)
        obtain ⟨M_7, eM_8⟩ : ∃ z : zMap, z = zu M fee (.inl ((G.2.2 0), 6, .inl (upd fe p0.toNatClampNeg p1))) := ⟨_, rfl⟩
        replace hM : zM A G M_7 H := by rw [eM_8]; exact hM
        have he_9 : M_7 fee = some (.inl ((G.2.2 0), 6, .inl (upd fe p0.toNatClampNeg p1))) := by rw [eM_8]; exact zu_s _ _ _
        have he_10 := (show M_7 h0 = M h0 by rw [eM_8]; exact zu_n (zne h hf (by simp))).trans h
        have he_11 := (show M_7 cps = M cps by rw [eM_8]; exact zu_n (zne hc hf (by simp))).trans hc
        have he_12 := (show M_7 den = M den by rw [eM_8]; exact zu_n (zne hd hf (by simp))).trans hd
        refine lv_iload_n hx hb dX2_fee_33 rfl (lv_at hl 0 rfl) ?_
        exact z_iret S hr hlocks hM hS ⟨by unfold zFr; rw [if_pos ⟨c_4, c_5, c_6⟩], by rw [eM_8]; unfold zFe; rw [if_pos ⟨c_4, c_5, c_6⟩]; exact hI.setF _⟩ (Nat.le_of_ble_eq_true rfl) (Nat.le_of_ble_eq_true rfl) dX2_fee_34
      · refine lv_iconst (v := -1) hx hb dX2_fee_17 (by decide) ?_
        exact z_iret S hr hlocks hM hS ⟨by unfold zFr; rw [if_neg (fun q => c_6 q.2.2)], by unfold zFe; rw [if_neg (fun q => c_6 q.2.2)]; exact hI⟩ (Nat.le_of_ble_eq_true rfl) (Nat.le_of_ble_eq_true rfl) dX2_fee_18
