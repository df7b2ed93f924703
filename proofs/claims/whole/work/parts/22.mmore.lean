set_option maxHeartbeats 4000000 in
set_option maxRecDepth 100000 in
theorem c_X3_check (l : Launch) (A : Nat → Prop) (G : zG) (M : zMap) (m0 : Nat) (ar : Nat → Nat) (th : Int32) (co ac : Nat) (gr : Int64) (F : Nat → Nat → Int32) (L : Nat → Nat → Int64) (number : Int64) (digits : Int32) (hJ : zJ G M m0 ar th (nI co) (nI ac) gr F L) (hco : co ≤ 80) : zMet l yX3_check cX3_check 4 (some .int) { frames := 1, cells := 0, slots := 0, locals := 40 } [.ref m0, .long number, .int digits] A G M (fun r M1 => r = some (.int (zchk number digits)) ∧ zJ G M1 m0 ar 0 (nI co) (nI ac) gr F L) := by
  refine zMet.of (by decide) (Nat.le_of_ble_eq_true rfl) ?_
  intro p e s m args below meth c ls S hr hlocks hnm hK hM hA hS hl
  have hl : lv_has ls 4 [(0, .ref m0), (1, .long number), (3, .int digits)] := hl
  have hx := S.1
  have hb := S.2.1
  have hown := S.2.2.2.1
  have hts := S.2.2.2.2
  have hr : meth.sig.returnType = some .int := hr
  refine lv_aload_n hx hb dX3_check_0 rfl (lv_at hl 0 rfl) ?_
  refine lv_iconst (v := 0) hx hb dX3_check_1 (by decide) ?_
  refine z_put S kX3 hK hM hS hJ.1 0 (by decide) kw_220 rfl rfl rfl (Nat.le_of_ble_eq_true rfl) dX3_check_2 (fun H locs hM hS => ?_)
  obtain ⟨M_1, eM_2⟩ : ∃ z : zMap, z = zu M m0 (oM 0 (nI co) ar (nI ac) gr) := ⟨_, rfl⟩
  replace hM : zM A G M_1 H := by rw [eM_2]; exact hM
  have hJ_3 : zJ G M_1 m0 ar 0 (nI co) (nI ac) gr F L := by rw [eM_2]; exact hJ.setO _ _ _ _
  refine lv_iload_n hx hb dX3_check_5 rfl (lv_at hl 2 rfl) ?_
  refine lv_iconst (v := 1) hx hb dX3_check_6 (by decide) ?_
  refine lv_icmp_lt (tgt := 31) hx hb dX3_check_7 (by decide) (fun c_4 => ?_) (fun c_4 => ?_)
  · refine lv_iconst (v := -1) hx hb dX3_check_31 (by decide) ?_
    refine lv_goto (tgt := 39) hx hb dX3_check_32 (by decide) ?_
    exact z_iret S hr hlocks hM hS ⟨by unfold zchk; rw [if_pos (Or.inr (Or.inl c_4))], hJ_3⟩ (Nat.le_of_ble_eq_true rfl) (Nat.le_of_ble_eq_true rfl) dX3_check_39
  · refine lv_iload_n hx hb dX3_check_10 rfl (lv_at hl 2 rfl) ?_
    refine lv_bipush (v := 12) hx hb dX3_check_11 (by decide) ?_
    refine lv_icmp_gt (tgt := 31) hx hb dX3_check_13 (by decide) (fun c_5 => ?_) (fun c_5 => ?_)
    · refine lv_iconst (v := -1) hx hb dX3_check_31 (by decide) ?_
      refine lv_goto (tgt := 39) hx hb dX3_check_32 (by decide) ?_
      exact z_iret S hr hlocks hM hS ⟨by unfold zchk; rw [if_pos (Or.inr (Or.inr c_5))], hJ_3⟩ (Nat.le_of_ble_eq_true rfl) (Nat.le_of_ble_eq_true rfl) dX3_check_39
    · refine lv_lload_n hx hb dX3_check_16 rfl (lv_at hl 1 rfl) ?_
      refine lv_lconst (v := 0) hx hb dX3_check_17 (by decide) ?_
      refine W.lcmp hx hb dX3_check_18 ?_
      refine lv_if_lt (tgt := 31) hx hb dX3_check_19 (by decide) (fun c_6 => ?_) (fun c_6 => ?_)
      · rw [lg_cmp_lt] at c_6
        refine lv_iconst (v := -1) hx hb dX3_check_31 (by decide) ?_
        refine lv_goto (tgt := 39) hx hb dX3_check_32 (by decide) ?_
        exact z_iret S hr hlocks hM hS ⟨by unfold zchk; rw [if_pos (Or.inl c_6)], hJ_3⟩ (Nat.le_of_ble_eq_true rfl) (Nat.le_of_ble_eq_true rfl) dX3_check_39
      · rw [lg_cmp_lt] at c_6
        obtain ⟨K, hK1, hK2, rfl⟩ := z112 c_4 (Int32.not_lt.mp c_5)
        obtain ⟨a, ha, rfl⟩ := pk_lOf c_6
        refine lv_lload_n hx hb dX3_check_22 rfl (lv_at hl 1 rfl) ?_
        refine lv_iload_n hx hb dX3_check_23 rfl (lv_at hl 2 rfl) ?_
        refine z_callS (As := [.int (nI K)]) (rest := [.long (lN a)]) S (c_X3_ten l A G M_1 K (by omega)) ok_X3_ten kw_283 kw_284 ⟨Nat.le_of_ble_eq_true rfl, Nat.le_of_ble_eq_true rfl⟩ hK hM hS hA rfl hl.1 rfl (Nat.le_of_ble_eq_true rfl) dX3_check_24 ⟨Nat.le_of_ble_eq_true rfl, Nat.le_of_ble_eq_true rfl⟩ (fun r_9 M_7 H locs hp_8 hM hS => ?_)
        obtain ⟨rfl, hM9⟩ := hp_8
        rw [hM9] at hM
        refine W.eq (g2 := F0 m 27 ls [.long (zten K), .long (lN a)]) rfl ?_
        refine W.lcmp hx hb dX3_check_27 ?_
        refine lv_if_lt (tgt := 35) hx hb dX3_check_28 (by decide) (fun c_10 => ?_) (fun c_10 => ?_)
        · rw [lg_cmp_lt] at c_10
          refine lv_lload_n hx hb dX3_check_35 rfl (lv_at hl 1 rfl) ?_
          refine z_callS (As := [.long (lN a)]) (rest := []) S (c_X3_sign l A G M_1 a ha) ok_X3_sign kw_287 kw_288 ⟨Nat.le_of_ble_eq_true rfl, Nat.le_of_ble_eq_true rfl⟩ hK hM hS hA rfl hl.1 rfl (Nat.le_of_ble_eq_true rfl) dX3_check_36 ⟨Nat.le_of_ble_eq_true rfl, Nat.le_of_ble_eq_true rfl⟩ (fun r_13 M_11 H locs hp_12 hM hS => ?_)
          obtain ⟨K0, hK0, rfl, hM9⟩ := hp_12
          rw [hM9] at hM
          refine W.eq (g2 := F0 m 39 ls [.int (zrm (10 - zrm (zsS (lN a) K0) 10) 10)]) rfl ?_
          exact z_iret S hr hlocks hM hS ⟨by rw [zchk_sign ha hK1 hK2 c_10 hK0], hJ_3⟩ (Nat.le_of_ble_eq_true rfl) (Nat.le_of_ble_eq_true rfl) dX3_check_39
        · rw [lg_cmp_lt] at c_10
          refine lv_iconst (v := -1) hx hb dX3_check_31 (by decide) ?_
          refine lv_goto (tgt := 39) hx hb dX3_check_32 (by decide) ?_
          exact z_iret S hr hlocks hM hS ⟨by rw [zchk_big ha hK1 hK2 c_10], hJ_3⟩ (Nat.le_of_ble_eq_true rfl) (Nat.le_of_ble_eq_true rfl) dX3_check_39
set_option maxHeartbeats 4000000 in
set_option maxRecDepth 100000 in
theorem c_X3_state (l : Launch) (A : Nat → Prop) (G : zG) (M : zMap) (m0 : Nat) (ar : Nat → Nat) (th : Int32) (co ac : Nat) (gr : Int64) (F : Nat → Nat → Int32) (L : Nat → Nat → Int64) (k : Int32) (day : Int64) (hJ : zJ G M m0 ar th (nI co) (nI ac) gr F L) (hco : co ≤ 80) (hac : ac < 5000) : zMet l yX3_state cX3_state 5 (some .int) { frames := 1, cells := 0, slots := 0, locals := 40 } [.ref m0, .int k, .long day] A G M (fun r M1 => r = some (.int (zsel co k (-1) (fun j => zms (F 11) (F 12) (L 14) (nI (j + 1)) day ac))) ∧ zJ G M1 m0 ar 0 (nI co) (nI ac) gr F L) := by
  refine zMet.of (by decide) (Nat.le_of_ble_eq_true rfl) ?_
  intro p e s m args below meth c ls S hr hlocks hnm hK hM hA hS hl
  have hl : lv_has ls 5 [(0, .ref m0), (1, .int k), (2, .long day)] := hl
  have hx := S.1
  have hb := S.2.1
  have hown := S.2.2.2.1
  have hts := S.2.2.2.2
  have hr : meth.sig.returnType = some .int := hr
  refine lv_aload_n hx hb dX3_state_0 rfl (lv_at hl 0 rfl) ?_
  refine lv_iconst (v := 0) hx hb dX3_state_1 (by decide) ?_
  refine z_put S kX3 hK hM hS hJ.1 0 (by decide) kw_220 rfl rfl rfl (Nat.le_of_ble_eq_true rfl) dX3_state_2 (fun H locs hM hS => ?_)
  obtain ⟨M_1, eM_2⟩ : ∃ z : zMap, z = zu M m0 (oM 0 (nI co) ar (nI ac) gr) := ⟨_, rfl⟩
  replace hM : zM A G M_1 H := by rw [eM_2]; exact hM
  have hJ_3 : zJ G M_1 m0 ar 0 (nI co) (nI ac) gr F L := by rw [eM_2]; exact hJ.setO _ _ _ _
  refine lv_aload_n hx hb dX3_state_5 rfl (lv_at hl 0 rfl) ?_
  refine lv_iload_n hx hb dX3_state_6 rfl (lv_at hl 1 rfl) ?_
  refine z_callV (As := [.int k]) (rest := []) S (c_X3_isCopy l A G M_1 m0 ar 0 co ac gr F L k hJ_3 hco) ok_X3_isCopy kw_307 kw_309 ks_7 ⟨Nat.le_of_ble_eq_true rfl, Nat.le_of_ble_eq_true rfl⟩ hK hM hS hA hJ_3.1 rfl rfl hl.1 rfl (Nat.le_of_ble_eq_true rfl) dX3_state_7 ⟨Nat.le_of_ble_eq_true rfl, Nat.le_of_ble_eq_true rfl⟩ (fun r_6 M_4 H locs hp_5 hM hS => ?_)
  obtain ⟨rfl, hM9⟩ := hp_5
  rw [hM9] at hM
  refine W.eq (g2 := F0 m 10 ls [.int (zb ((zIx co k).isSome = true))]) rfl ?_
  refine lv_if_ne (tgt := 15) hx hb dX3_state_10 (by decide) (fun c_7 => ?_) (fun c_7 => ?_)
  · rw [zb_0n] at c_7
    obtain ⟨j, hz⟩ := zisS c_7
    obtain ⟨hj, rfl⟩ := zIx_some hco hz
    have hcl : (nI (j + 1)).toNatClampNeg = j + 1 := nI_clamp (by omega)
    refine lv_aload_n hx hb dX3_state_15 rfl (lv_at hl 0 rfl) ?_
    refine lv_iload_n hx hb dX3_state_16 rfl (lv_at hl 1 rfl) ?_
    refine lv_lload_n hx hb dX3_state_17 rfl (lv_at hl 2 rfl) ?_
    refine z_callV (As := [.int (nI (j + 1)), .long day]) (rest := []) S (c_X3_last l A G M_1 m0 ar 0 co ac gr F L (nI (j + 1)) day hJ_3 hco (by omega)) ok_X3_last kw_311 kw_313 ks_8 ⟨Nat.le_of_ble_eq_true rfl, Nat.le_of_ble_eq_true rfl⟩ hK hM hS hA hJ_3.1 rfl rfl hl.1 rfl (Nat.le_of_ble_eq_true rfl) dX3_state_18 ⟨Nat.le_of_ble_eq_true rfl, Nat.le_of_ble_eq_true rfl⟩ (fun r_10 M_8 H locs hp_9 hM hS => ?_)
    obtain ⟨rfl, hM9⟩ := hp_9
    rw [hM9] at hM
    refine W.eq (g2 := F0 m 21 ls [.int (nI (zlm (F 11) (L 14) (nI (j + 1)) day ac) - 1)]) rfl ?_
    rcases hm : zlm (F 11) (L 14) (nI (j + 1)) day ac with _ | z
    · refine W.eq (g2 := F0 m 21 ls [.int (-1)]) rfl ?_
      refine lv_istore (lv' := [(4, .int (-1)), (0, .ref m0), (1, .int (nI (j + 1))), (2, .long day)]) hx hb dX3_state_21 hl (by decide) rfl (fun ls hl => ?_)
      refine lv_iload hx hb dX3_state_23 (lv_at hl 0 rfl) ?_
      refine lv_iconst (v := -1) hx hb dX3_state_25 (by decide) ?_
      refine lv_icmp_ne (tgt := 33) hx hb dX3_state_26 (by decide) (fun c_11 => absurd c_11 (by decide)) (fun c_11 => ?_)
      refine lv_iconst (v := 3) hx hb dX3_state_29 (by decide) ?_
      refine lv_goto (tgt := 40) hx hb dX3_state_30 (by decide) ?_
      exact z_iret S hr hlocks hM hS ⟨by rw [zsel_s hz]; unfold zms; rw [hm], hJ_3⟩ (Nat.le_of_ble_eq_true rfl) (Nat.le_of_ble_eq_true rfl) dX3_state_40
    · rw [nI_pred]
      have hza : z < ac := by have h5 := zlm_le (F 11) (L 14) (nI (j + 1)) day ac; omega
      have hcz : (nI z).toNatClampNeg = z := nI_clamp (by omega)
      refine lv_istore (lv' := [(4, .int (nI z)), (0, .ref m0), (1, .int (nI (j + 1))), (2, .long day)]) hx hb dX3_state_21 hl (by decide) rfl (fun ls hl => ?_)
      refine lv_iload hx hb dX3_state_23 (lv_at hl 0 rfl) ?_
      refine lv_iconst (v := -1) hx hb dX3_state_25 (by decide) ?_
      refine lv_icmp_ne (tgt := 33) hx hb dX3_state_26 (by decide) (fun c_12 => ?_) (fun c_12 => ?_)
      · refine lv_aload_n hx hb dX3_state_33 rfl (lv_at hl 1 rfl) ?_
        refine z_get (v := .ref (ar 12)) S kX3 hK hM hJ_3.1 15 (by decide) kw_235 rfl dX3_state_34 ?_
        refine lv_iload hx hb dX3_state_37 (lv_at hl 0 rfl) ?_
        refine z_iald S hK hM 0 (show M_1 (ar 12) = some (.inl (G.2.2 0, 5000, .inl (F 12))) from hJ_3.2.1 12 (by decide)) rfl (zvp5 hza hac) dX3_state_39 ?_
        rw [hcz]
        exact z_iret S hr hlocks hM hS ⟨by rw [zsel_s hz]; unfold zms; rw [hm], hJ_3⟩ (Nat.le_of_ble_eq_true rfl) (Nat.le_of_ble_eq_true rfl) dX3_state_40
      · exact absurd c_12 (zne1 (by omega))
  · rw [zb_0] at c_7
    have hz := zisN c_7
    refine lv_iconst (v := -1) hx hb dX3_state_13 (by decide) ?_
    exact z_iret S hr hlocks hM hS ⟨by rw [zsel_n hz], hJ_3⟩ (Nat.le_of_ble_eq_true rfl) (Nat.le_of_ble_eq_true rfl) dX3_state_14
set_option maxHeartbeats 4000000 in
set_option maxRecDepth 100000 in
theorem c_X3_count (l : Launch) (A : Nat → Prop) (G : zG) (M : zMap) (m0 : Nat) (ar : Nat → Nat) (th : Int32) (co ac : Nat) (gr : Int64) (F : Nat → Nat → Int32) (L : Nat → Nat → Int64) (sta hom : Int32) (hJ : zJ G M m0 ar th (nI co) (nI ac) gr F L) (hco : co ≤ 80) : zMet l yX3_count cX3_count 5 (some .int) { frames := 1, cells := 0, slots := 0, locals := 40 } [.ref m0, .int sta, .int hom] A G M (fun r M1 => r = some (.int (zCt (cvm F L) sta hom co)) ∧ zJ G M1 m0 ar 0 (nI co) (nI ac) gr F L) := by
  refine zMet.of (by decide) (Nat.le_of_ble_eq_true rfl) ?_
  intro p e s m args below meth c ls S hr hlocks hnm hK hM hA hS hl
  have hl : lv_has ls 5 [(0, .ref m0), (1, .int sta), (2, .int hom)] := hl
  have hx := S.1
  have hb := S.2.1
  have hown := S.2.2.2.1
  have hts := S.2.2.2.2
  have hr : meth.sig.returnType = some .int := hr
  refine lv_aload_n hx hb dX3_count_0 rfl (lv_at hl 0 rfl) ?_
  refine lv_iconst (v := 0) hx hb dX3_count_1 (by decide) ?_
  refine z_put S kX3 hK hM hS hJ.1 0 (by decide) kw_220 rfl rfl rfl (Nat.le_of_ble_eq_true rfl) dX3_count_2 (fun H locs hM hS => ?_)
  obtain ⟨M_1, eM_2⟩ : ∃ z : zMap, z = zu M m0 (oM 0 (nI co) ar (nI ac) gr) := ⟨_, rfl⟩
  replace hM : zM A G M_1 H := by rw [eM_2]; exact hM
  have hJ_3 : zJ G M_1 m0 ar 0 (nI co) (nI ac) gr F L := by rw [eM_2]; exact hJ.setO _ _ _ _
  refine lv_iconst (v := 0) hx hb dX3_count_5 (by decide) ?_
  refine lv_istore_n (lv' := [(3, .int 0), (0, .ref m0), (1, .int sta), (2, .int hom)]) hx hb dX3_count_6 rfl hl (by decide) rfl (fun ls hl => ?_)
  refine lv_iconst (v := 1) hx hb dX3_count_7 (by decide) ?_
  refine lv_istore (lv' := [(4, .int 1), (3, .int 0), (0, .ref m0), (1, .int sta), (2, .int hom)]) hx hb dX3_count_8 hl (by decide) rfl (fun ls hl => ?_)
  refine z_loop (fun (t : Nat) ls H' locs' => t ≤ co ∧ lv_has ls 5 [(3, .int (zCt (cvm F L) sta hom t)), (4, .int (nI (t + 1))), (0, .ref m0), (1, .int sta), (2, .int hom)] ∧ zM A G M_1 H' ∧ va_S A s.heap H' locs') (fun t => co - t) 0 ⟨Nat.zero_le _, lv_sub hl [1, 0, 2, 3, 4] rfl, hM, hS⟩ ?_
  rintro t ls H locs ⟨htN0, hl, hM, hS⟩ ih
  have hcl : (nI (t + 1)).toNatClampNeg = t + 1 := nI_clamp (by omega)
  refine lv_iload hx hb dX3_count_10 (lv_at hl 1 rfl) ?_
  refine lv_aload_n hx hb dX3_count_12 rfl (lv_at hl 2 rfl) ?_
  refine z_get (v := .int (nI co)) S kX3 hK hM hJ_3.1 1 (by decide) kw_221 rfl dX3_count_13 ?_
  refine lv_icmp_gt (tgt := 60) hx hb dX3_count_16 (by decide) (fun c_4 => ?_) (fun c_4 => ?_)
  · have htN : t = co := by have := (nI_ltI (by omega) (by omega)).mp c_4; omega
    refine lv_iload_n hx hb dX3_count_60 rfl (lv_at hl 0 rfl) ?_
    exact z_iret S hr hlocks hM hS ⟨by rw [htN], hJ_3⟩ (Nat.le_of_ble_eq_true rfl) (Nat.le_of_ble_eq_true rfl) dX3_count_61
  · have ht : t < co := Nat.lt_of_not_le (fun q => c_4 ((nI_ltI (by omega) (by omega)).mpr (by omega)))
    refine lv_iload_n hx hb dX3_count_19 rfl (lv_at hl 0 rfl) ?_
    refine lv_aload_n hx hb dX3_count_20 rfl (lv_at hl 2 rfl) ?_
    refine z_get (v := .ref (ar 5)) S kX3 hK hM hJ_3.1 7 (by decide) kw_227 rfl dX3_count_21 ?_
    refine lv_iload hx hb dX3_count_24 (lv_at hl 1 rfl) ?_
    refine z_iald S hK hM 0 (show M_1 (ar 5) = some (.inl (G.2.2 0, 81, .inl (F 5))) from hJ_3.2.1 5 (by decide)) rfl (zvp81 ht hco) dX3_count_26 ?_
    rw [hcl]
    refine lv_iload_n hx hb dX3_count_27 rfl (lv_at hl 3 rfl) ?_
    refine lv_icmp_ne (tgt := 51) hx hb dX3_count_28 (by decide) (fun c_5 => ?_) (fun c_5 => ?_)
    · refine lv_iconst (v := 0) hx hb dX3_count_51 (by decide) ?_
      refine lv_iadd hx hb dX3_count_52 ?_
      refine lv_istore_n (lv' := [(3, .int ((zCt (cvm F L) sta hom t) + 0)), (4, .int (nI (t + 1))), (0, .ref m0), (1, .int sta), (2, .int hom)]) hx hb dX3_count_53 rfl hl (by decide) rfl (fun ls hl => ?_)
      refine lv_iinc (v := (nI (t + 1)) + 1) (lv' := [(4, .int ((nI (t + 1)) + 1)), (3, .int ((zCt (cvm F L) sta hom t) + 0)), (0, .ref m0), (1, .int sta), (2, .int hom)]) hx hb dX3_count_54 hl (k := 1) rfl rfl (by decide) rfl (fun ls hl => ?_)
      refine lv_goto (tgt := 10) hx hb dX3_count_57 (by decide) ?_
      exact ih (t + 1) ls _ _ ⟨by omega, by
        have h7 := lv_sub hl [1, 0, 2, 3, 4] rfl
        rw [← nI_1 (t + 1), zCt, if_neg (fun q => c_5 q.1)]
        exact h7, hM, hS⟩ (by omega)
    · refine lv_iload_n hx hb dX3_count_31 rfl (lv_at hl 4 rfl) ?_
      refine lv_iconst (v := -1) hx hb dX3_count_32 (by decide) ?_
      refine lv_icmp_eq (tgt := 47) hx hb dX3_count_33 (by decide) (fun c_6 => ?_) (fun c_6 => ?_)
      · refine lv_iconst (v := 1) hx hb dX3_count_47 (by decide) ?_
        refine lv_goto (tgt := 52) hx hb dX3_count_48 (by decide) ?_
        refine lv_iadd hx hb dX3_count_52 ?_
        refine lv_istore_n (lv' := [(3, .int ((zCt (cvm F L) sta hom t) + 1)), (4, .int (nI (t + 1))), (0, .ref m0), (1, .int sta), (2, .int hom)]) hx hb dX3_count_53 rfl hl (by decide) rfl (fun ls hl => ?_)
        refine lv_iinc (v := (nI (t + 1)) + 1) (lv' := [(4, .int ((nI (t + 1)) + 1)), (3, .int ((zCt (cvm F L) sta hom t) + 1)), (0, .ref m0), (1, .int sta), (2, .int hom)]) hx hb dX3_count_54 hl (k := 1) rfl rfl (by decide) rfl (fun ls hl => ?_)
        refine lv_goto (tgt := 10) hx hb dX3_count_57 (by decide) ?_
        exact ih (t + 1) ls _ _ ⟨by omega, by
          have h7 := lv_sub hl [1, 0, 2, 3, 4] rfl
          rw [← nI_1 (t + 1), zCt, if_pos ⟨c_5, Or.inl c_6⟩]
          exact h7, hM, hS⟩ (by omega)
      · refine lv_aload_n hx hb dX3_count_36 rfl (lv_at hl 2 rfl) ?_
        refine z_get (v := .ref (ar 3)) S kX3 hK hM hJ_3.1 5 (by decide) kw_225 rfl dX3_count_37 ?_
        refine lv_iload hx hb dX3_count_40 (lv_at hl 1 rfl) ?_
        refine z_iald S hK hM 0 (show M_1 (ar 3) = some (.inl (G.2.2 0, 81, .inl (F 3))) from hJ_3.2.1 3 (by decide)) rfl (zvp81 ht hco) dX3_count_42 ?_
        rw [hcl]
        refine lv_iload_n hx hb dX3_count_43 rfl (lv_at hl 4 rfl) ?_
        refine lv_icmp_ne (tgt := 51) hx hb dX3_count_44 (by decide) (fun c_7 => ?_) (fun c_7 => ?_)
        · refine lv_iconst (v := 0) hx hb dX3_count_51 (by decide) ?_
          refine lv_iadd hx hb dX3_count_52 ?_
          refine lv_istore_n (lv' := [(3, .int ((zCt (cvm F L) sta hom t) + 0)), (4, .int (nI (t + 1))), (0, .ref m0), (1, .int sta), (2, .int hom)]) hx hb dX3_count_53 rfl hl (by decide) rfl (fun ls hl => ?_)
          refine lv_iinc (v := (nI (t + 1)) + 1) (lv' := [(4, .int ((nI (t + 1)) + 1)), (3, .int ((zCt (cvm F L) sta hom t) + 0)), (0, .ref m0), (1, .int sta), (2, .int hom)]) hx hb dX3_count_54 hl (k := 1) rfl rfl (by decide) rfl (fun ls hl => ?_)
          refine lv_goto (tgt := 10) hx hb dX3_count_57 (by decide) ?_
          exact ih (t + 1) ls _ _ ⟨by omega, by
            have h7 := lv_sub hl [1, 0, 2, 3, 4] rfl
            rw [← nI_1 (t + 1), zCt, if_neg (fun q => q.2.elim c_6 c_7)]
            exact h7, hM, hS⟩ (by omega)
        · refine lv_iconst (v := 1) hx hb dX3_count_47 (by decide) ?_
          refine lv_goto (tgt := 52) hx hb dX3_count_48 (by decide) ?_
          refine lv_iadd hx hb dX3_count_52 ?_
          refine lv_istore_n (lv' := [(3, .int ((zCt (cvm F L) sta hom t) + 1)), (4, .int (nI (t + 1))), (0, .ref m0), (1, .int sta), (2, .int hom)]) hx hb dX3_count_53 rfl hl (by decide) rfl (fun ls hl => ?_)
          refine lv_iinc (v := (nI (t + 1)) + 1) (lv' := [(4, .int ((nI (t + 1)) + 1)), (3, .int ((zCt (cvm F L) sta hom t) + 1)), (0, .ref m0), (1, .int sta), (2, .int hom)]) hx hb dX3_count_54 hl (k := 1) rfl rfl (by decide) rfl (fun ls hl => ?_)
          refine lv_goto (tgt := 10) hx hb dX3_count_57 (by decide) ?_
          exact ih (t + 1) ls _ _ ⟨by omega, by
            have h7 := lv_sub hl [1, 0, 2, 3, 4] rfl
            rw [← nI_1 (t + 1), zCt, if_pos ⟨c_5, Or.inr c_7⟩]
            exact h7, hM, hS⟩ (by omega)
set_option maxHeartbeats 4000000 in
set_option maxRecDepth 100000 in
theorem c_X3_enter (l : Launch) (A : Nat → Prop) (G : zG) (M : zMap) (m0 : Nat) (ar : Nat → Nat) (th : Int32) (co ac : Nat) (gr : Int64) (F : Nat → Nat → Int32) (L : Nat → Nat → Int64) (cp sta lt : Int32) (day : Int64) (hJ : zJ G M m0 ar th (nI co) (nI ac) gr F L) (hco : co ≤ 80) (hac : ac < 4999) (hbool : zbool lt) (hbl : ∀ k, zbool (F 13 k)) : zMet l yX3_enter cX3_enter 7 none { frames := 0, cells := 0, slots := 0, locals := 0 } [.ref m0, .int cp, .int sta, .int lt, .long day] A G M (fun r M1 => r = none ∧ zJ G M1 m0 ar th (nI co) (nI (ac + 1)) (if day ≤ gr then gr else day) (zEN F (zps (L 14) day ac) ac cp sta lt) (zuf L 14 (zpi (L 14) (zps (L 14) day ac) ac day))) := by
  refine zMet.of (by decide) (Nat.le_of_ble_eq_true rfl) ?_
  intro p e s m args below meth c ls S hr hlocks hnm hK hM hA hS hl
  have hl : lv_has ls 7 [(0, .ref m0), (1, .int cp), (2, .int sta), (3, .int lt), (4, .long day)] := hl
  have hx := S.1
  have hb := S.2.1
  have hown := S.2.2.2.1
  have hts := S.2.2.2.2
  have hr : meth.sig.returnType = none := hr
  refine lv_aload_n hx hb dX3_enter_0 rfl (lv_at hl 0 rfl) ?_
  refine z_get (v := .int (nI ac)) S kX3 hK hM hJ.1 13 (by decide) kw_233 rfl dX3_enter_1 ?_
  refine lv_istore (lv' := [(6, .int (nI ac)), (0, .ref m0), (1, .int cp), (2, .int sta), (3, .int lt), (4, .long day)]) hx hb dX3_enter_4 hl (by decide) rfl (fun ls hl => ?_)
  refine z_loop (fun (x : Nat × zMap) ls H' locs' => x.1 ≤ ac ∧ zps (L 14) day ac = zps (L 14) day x.1 ∧ lv_has ls 7 [(6, .int (nI x.1)), (0, .ref m0), (1, .int cp), (2, .int sta), (3, .int lt), (4, .long day)] ∧ zM A G x.2 H' ∧ va_S A s.heap H' locs' ∧ zJ G x.2 m0 ar th (nI co) (nI ac) gr (zEF F x.1 ac) (zEL L x.1 ac)) (fun x => x.1) (ac, M) ⟨Nat.le_refl _, rfl, hl, hM, hS, by rw [zEF_0, zEL_0]; exact hJ⟩ ?_
  rintro ⟨t, M9⟩ ls H locs ⟨hta, hpt, hl, hM, hS, hJ9⟩ ih
  rcases t with _ | t
  · have hl : lv_has ls 7 [(6, .int 0), (0, .ref m0), (1, .int cp), (2, .int sta), (3, .int lt), (4, .long day)] := hl
    have hJ9 : zJ G M9 m0 ar th (nI co) (nI ac) gr (zEF F 0 ac) (zEL L 0 ac) := hJ9
    have hM : zM A G M9 H := hM
    have hp0 : zps (L 14) day ac = 0 := hpt
    have hc0 : (0 : Int32).toNatClampNeg = 0 := rfl
    refine lv_iload hx hb dX3_enter_6 (lv_at hl 0 rfl) ?_
    refine lv_if_le (tgt := 96) hx hb dX3_enter_8 (by decide) (fun c_1 => ?_) (fun c_1 => absurd c_1 (by decide))
    refine lv_aload_n hx hb dX3_enter_96 rfl (lv_at hl 1 rfl) ?_
    refine z_get (v := .ref (ar 11)) S kX3 hK hM hJ9.1 14 (by decide) kw_234 rfl dX3_enter_97 ?_
    refine lv_iload hx hb dX3_enter_100 (lv_at hl 0 rfl) ?_
    refine lv_iload_n hx hb dX3_enter_102 rfl (lv_at hl 2 rfl) ?_
    refine z_iast S hK hM hS 0 (show M9 (ar 11) = some (.inl (G.2.2 0, 5000, .inl (zsh (F 11) 0 ac))) from hJ9.2.1 11 (by decide)) rfl (vp_in_nI (n := 0) (by omega) (by decide)) dX3_enter_103 (fun H locs hM hS => ?_)
    rw [hc0] at hM
    rw [zpi_i] at hM
    obtain ⟨M_2, eM_3⟩ : ∃ z : zMap, z = zu M9 (ar 11) (.inl ((G.2.2 0), 5000, .inl (zpi (F 11) 0 ac cp))) := ⟨_, rfl⟩
    replace hM : zM A G M_2 H := by rw [eM_3]; exact hM
    have hJ_4 : zJ G M_2 m0 ar th (nI co) (nI ac) gr (zuf (zEF F 0 ac) 11 (zpi (F 11) 0 ac cp)) (zEL L 0 ac) := by rw [eM_3]; exact hJ9.setI 11 (by decide) rfl _
    refine lv_aload_n hx hb dX3_enter_104 rfl (lv_at hl 1 rfl) ?_
    refine z_get (v := .ref (ar 12)) S kX3 hK hM hJ_4.1 15 (by decide) kw_235 rfl dX3_enter_105 ?_
    refine lv_iload hx hb dX3_enter_108 (lv_at hl 0 rfl) ?_
    refine lv_iload_n hx hb dX3_enter_110 rfl (lv_at hl 3 rfl) ?_
    refine z_iast S hK hM hS 0 (show M_2 (ar 12) = some (.inl (G.2.2 0, 5000, .inl (zsh (F 12) 0 ac))) from hJ_4.2.1 12 (by decide)) rfl (vp_in_nI (n := 0) (by omega) (by decide)) dX3_enter_111 (fun H locs hM hS => ?_)
    rw [hc0] at hM
    rw [zpi_i] at hM
    obtain ⟨M_5, eM_6⟩ : ∃ z : zMap, z = zu M_2 (ar 12) (.inl ((G.2.2 0), 5000, .inl (zpi (F 12) 0 ac sta))) := ⟨_, rfl⟩
    replace hM : zM A G M_5 H := by rw [eM_6]; exact hM
    have hJ_7 : zJ G M_5 m0 ar th (nI co) (nI ac) gr (zuf (zuf (zEF F 0 ac) 11 (zpi (F 11) 0 ac cp)) 12 (zpi (F 12) 0 ac sta)) (zEL L 0 ac) := by rw [eM_6]; exact hJ_4.setI 12 (by decide) rfl _
    refine lv_aload_n hx hb dX3_enter_112 rfl (lv_at hl 1 rfl) ?_
    refine z_get (v := .ref (ar 13)) S kX3 hK hM hJ_7.1 16 (by decide) kw_236 rfl dX3_enter_113 ?_
    refine lv_iload hx hb dX3_enter_116 (lv_at hl 0 rfl) ?_
    refine lv_iload_n hx hb dX3_enter_118 rfl (lv_at hl 4 rfl) ?_
    refine z_zast S hK hM hS 1 (show M_5 (ar 13) = some (.inl (G.2.2 1, 5000, .inl (zsh (F 13) 0 ac))) from hJ_7.2.1 13 (by decide)) rfl (vp_in_nI (n := 0) (by omega) (by decide)) (z_nb hbool) dX3_enter_119 (fun H locs hM hS => ?_)
    rw [hc0] at hM
    rw [zpi_i] at hM
    obtain ⟨M_8, eM_9⟩ : ∃ z : zMap, z = zu M_5 (ar 13) (.inl ((G.2.2 1), 5000, .inl (zpi (F 13) 0 ac lt))) := ⟨_, rfl⟩
    replace hM : zM A G M_8 H := by rw [eM_9]; exact hM
    have hJ_10 : zJ G M_8 m0 ar th (nI co) (nI ac) gr (zuf (zuf (zuf (zEF F 0 ac) 11 (zpi (F 11) 0 ac cp)) 12 (zpi (F 12) 0 ac sta)) 13 (zpi (F 13) 0 ac lt)) (zEL L 0 ac) := by rw [eM_9]; exact hJ_7.setI 13 (by decide) rfl _
    refine lv_aload_n hx hb dX3_enter_120 rfl (lv_at hl 1 rfl) ?_
    refine z_get (v := .ref (ar 14)) S kX3 hK hM hJ_10.1 17 (by decide) kw_237 rfl dX3_enter_121 ?_
    refine lv_iload hx hb dX3_enter_124 (lv_at hl 0 rfl) ?_
    refine lv_lload hx hb dX3_enter_126 (lv_at hl 5 rfl) ?_
    refine z_last S hK hM hS 3 (show M_8 (ar 14) = some (.inl (G.2.2 3, 5000, .inr (.inl (zsh (L 14) 0 ac)))) from hJ_10.2.1 14 (by decide)) rfl (vp_in_nI (n := 0) (by omega) (by decide)) dX3_enter_128 (fun H locs hM hS => ?_)
    rw [hc0] at hM
    rw [zpi_l] at hM
    obtain ⟨M_11, eM_12⟩ : ∃ z : zMap, z = zu M_8 (ar 14) (.inl ((G.2.2 3), 5000, .inr (.inl (zpi (L 14) 0 ac day)))) := ⟨_, rfl⟩
    replace hM : zM A G M_11 H := by rw [eM_12]; exact hM
    have hJ_13 : zJ G M_11 m0 ar th (nI co) (nI ac) gr (zuf (zuf (zuf (zEF F 0 ac) 11 (zpi (F 11) 0 ac cp)) 12 (zpi (F 12) 0 ac sta)) 13 (zpi (F 13) 0 ac lt)) (zuf (zEL L 0 ac) 14 (zpi (L 14) 0 ac day)) := by rw [eM_12]; exact hJ_10.setL 14 (by decide) rfl _
    refine lv_aload_n hx hb dX3_enter_129 rfl (lv_at hl 1 rfl) ?_
    refine lv_dup hx hb dX3_enter_130 rfl ?_
    refine z_get (v := .int (nI ac)) S kX3 hK hM hJ_13.1 13 (by decide) kw_233 rfl dX3_enter_131 ?_
    refine lv_iconst (v := 1) hx hb dX3_enter_134 (by decide) ?_
    refine lv_iadd hx hb dX3_enter_135 ?_
    refine z_put S kX3 hK hM hS hJ_13.1 13 (by decide) kw_233 rfl rfl rfl (Nat.le_of_ble_eq_true rfl) dX3_enter_136 (fun H locs hM hS => ?_)
    obtain ⟨M_14, eM_15⟩ : ∃ z : zMap, z = zu M_11 m0 (oM th (nI co) ar ((nI ac) + 1) gr) := ⟨_, rfl⟩
    replace hM : zM A G M_14 H := by rw [eM_15]; exact hM
    have hJ_16 : zJ G M_14 m0 ar th (nI co) ((nI ac) + 1) gr (zuf (zuf (zuf (zEF F 0 ac) 11 (zpi (F 11) 0 ac cp)) 12 (zpi (F 12) 0 ac sta)) 13 (zpi (F 13) 0 ac lt)) (zuf (zEL L 0 ac) 14 (zpi (L 14) 0 ac day)) := by rw [eM_15]; exact hJ_13.setO _ _ _ _
    refine lv_aload_n hx hb dX3_enter_139 rfl (lv_at hl 1 rfl) ?_
    refine lv_lload hx hb dX3_enter_140 (lv_at hl 5 rfl) ?_
    refine lv_aload_n hx hb dX3_enter_142 rfl (lv_at hl 1 rfl) ?_
    refine z_get (v := .long gr) S kX3 hK hM hJ_16.1 18 (by decide) kw_238 rfl dX3_enter_143 ?_
    refine W.lcmp hx hb dX3_enter_146 ?_
    refine lv_if_le (tgt := 155) hx hb dX3_enter_147 (by decide) (fun c_17 => ?_) (fun c_17 => ?_)
    · rw [lg_cmp_le] at c_17
      refine lv_aload_n hx hb dX3_enter_155 rfl (lv_at hl 1 rfl) ?_
      refine z_get (v := .long gr) S kX3 hK hM hJ_16.1 18 (by decide) kw_238 rfl dX3_enter_156 ?_
      refine z_put S kX3 hK hM hS hJ_16.1 18 (by decide) kw_238 rfl rfl rfl (Nat.le_of_ble_eq_true rfl) dX3_enter_159 (fun H locs hM hS => ?_)
      obtain ⟨M_18, eM_19⟩ : ∃ z : zMap, z = zu M_14 m0 (oM th (nI co) ar ((nI ac) + 1) gr) := ⟨_, rfl⟩
      replace hM : zM A G M_18 H := by rw [eM_19]; exact hM
      have hJ_20 : zJ G M_18 m0 ar th (nI co) ((nI ac) + 1) gr (zuf (zuf (zuf (zEF F 0 ac) 11 (zpi (F 11) 0 ac cp)) 12 (zpi (F 12) 0 ac sta)) 13 (zpi (F 13) 0 ac lt)) (zuf (zEL L 0 ac) 14 (zpi (L 14) 0 ac day)) := by rw [eM_19]; exact hJ_16.setO _ _ _ _
      exact z_vret S hr hlocks hM hS ⟨rfl, by
        have h6 := hJ_20
        rw [zEF_c, zEL_c, nI_1] at h6
        rw [hp0, if_pos c_17]
        exact h6⟩ (Nat.le_of_ble_eq_true rfl) (Nat.le_of_ble_eq_true rfl) dX3_enter_162
    · rw [lg_cmp_le] at c_17
      refine lv_lload hx hb dX3_enter_150 (lv_at hl 5 rfl) ?_
      refine lv_goto (tgt := 159) hx hb dX3_enter_152 (by decide) ?_
      refine z_put S kX3 hK hM hS hJ_16.1 18 (by decide) kw_238 rfl rfl rfl (Nat.le_of_ble_eq_true rfl) dX3_enter_159 (fun H locs hM hS => ?_)
      obtain ⟨M_21, eM_22⟩ : ∃ z : zMap, z = zu M_14 m0 (oM th (nI co) ar ((nI ac) + 1) day) := ⟨_, rfl⟩
      replace hM : zM A G M_21 H := by rw [eM_22]; exact hM
      have hJ_23 : zJ G M_21 m0 ar th (nI co) ((nI ac) + 1) day (zuf (zuf (zuf (zEF F 0 ac) 11 (zpi (F 11) 0 ac cp)) 12 (zpi (F 12) 0 ac sta)) 13 (zpi (F 13) 0 ac lt)) (zuf (zEL L 0 ac) 14 (zpi (L 14) 0 ac day)) := by rw [eM_22]; exact hJ_16.setO _ _ _ _
      exact z_vret S hr hlocks hM hS ⟨rfl, by
        have h6 := hJ_23
        rw [zEF_c, zEL_c, nI_1] at h6
        rw [hp0, if_neg c_17]
        exact h6⟩ (Nat.le_of_ble_eq_true rfl) (Nat.le_of_ble_eq_true rfl) dX3_enter_162
  · have hl : lv_has ls 7 [(6, .int (nI (t + 1))), (0, .ref m0), (1, .int cp), (2, .int sta), (3, .int lt), (4, .long day)] := hl
    have hta : t + 1 ≤ ac := hta
    have hJ9 : zJ G M9 m0 ar th (nI co) (nI ac) gr (zEF F (t + 1) ac) (zEL L (t + 1) ac) := hJ9
    have hM : zM A G M9 H := hM
    have hct : (nI t).toNatClampNeg = t := nI_clamp (by omega)
    have hcs : (nI (t + 1)).toNatClampNeg = t + 1 := nI_clamp (by omega)
    refine lv_iload hx hb dX3_enter_6 (lv_at hl 0 rfl) ?_
    refine lv_if_le (tgt := 96) hx hb dX3_enter_8 (by decide) (fun c_24 => ?_) (fun c_24 => ?_)
    · exact absurd c_24 (nI_nle (by omega) (by omega))
    · refine lv_aload_n hx hb dX3_enter_11 rfl (lv_at hl 1 rfl) ?_
      refine z_get (v := .ref (ar 14)) S kX3 hK hM hJ9.1 17 (by decide) kw_237 rfl dX3_enter_12 ?_
      refine lv_iload hx hb dX3_enter_15 (lv_at hl 0 rfl) ?_
      refine lv_iconst (v := 1) hx hb dX3_enter_17 (by decide) ?_
      refine lv_isub hx hb dX3_enter_18 ?_
      rw [nI_pred]
      refine z_lald S hK hM 3 (show M9 (ar 14) = some (.inl (G.2.2 3, 5000, .inr (.inl (zsh (L 14) (t + 1) ac)))) from hJ9.2.1 14 (by decide)) rfl (vp_in_nI (n := t) (by omega) (by decide)) dX3_enter_19 ?_
      rw [hct]
      rw [zsh_at]
      refine lv_lload hx hb dX3_enter_20 (lv_at hl 5 rfl) ?_
      refine W.lcmp hx hb dX3_enter_22 ?_
      refine lv_if_le (tgt := 96) hx hb dX3_enter_23 (by decide) (fun c_25 => ?_) (fun c_25 => ?_)
      · rw [lg_cmp_le] at c_25
        have hp0 : zps (L 14) day ac = t + 1 := by rw [hpt]; show zps (L 14) day (t + 1) = t + 1; rw [zps, if_neg (Int64.not_lt.mpr c_25)]
        refine lv_aload_n hx hb dX3_enter_96 rfl (lv_at hl 1 rfl) ?_
        refine z_get (v := .ref (ar 11)) S kX3 hK hM hJ9.1 14 (by decide) kw_234 rfl dX3_enter_97 ?_
        refine lv_iload hx hb dX3_enter_100 (lv_at hl 0 rfl) ?_
        refine lv_iload_n hx hb dX3_enter_102 rfl (lv_at hl 2 rfl) ?_
        refine z_iast S hK hM hS 0 (show M9 (ar 11) = some (.inl (G.2.2 0, 5000, .inl (zsh (F 11) (t + 1) ac))) from hJ9.2.1 11 (by decide)) rfl (vp_in_nI (n := (t + 1)) (by omega) (by decide)) dX3_enter_103 (fun H locs hM hS => ?_)
        rw [hcs] at hM
        rw [zpi_i] at hM
        obtain ⟨M_26, eM_27⟩ : ∃ z : zMap, z = zu M9 (ar 11) (.inl ((G.2.2 0), 5000, .inl (zpi (F 11) (t + 1) ac cp))) := ⟨_, rfl⟩
        replace hM : zM A G M_26 H := by rw [eM_27]; exact hM
        have hJ_28 : zJ G M_26 m0 ar th (nI co) (nI ac) gr (zuf (zEF F (t + 1) ac) 11 (zpi (F 11) (t + 1) ac cp)) (zEL L (t + 1) ac) := by rw [eM_27]; exact hJ9.setI 11 (by decide) rfl _
        refine lv_aload_n hx hb dX3_enter_104 rfl (lv_at hl 1 rfl) ?_
        refine z_get (v := .ref (ar 12)) S kX3 hK hM hJ_28.1 15 (by decide) kw_235 rfl dX3_enter_105 ?_
        refine lv_iload hx hb dX3_enter_108 (lv_at hl 0 rfl) ?_
        refine lv_iload_n hx hb dX3_enter_110 rfl (lv_at hl 3 rfl) ?_
        refine z_iast S hK hM hS 0 (show M_26 (ar 12) = some (.inl (G.2.2 0, 5000, .inl (zsh (F 12) (t + 1) ac))) from hJ_28.2.1 12 (by decide)) rfl (vp_in_nI (n := (t + 1)) (by omega) (by decide)) dX3_enter_111 (fun H locs hM hS => ?_)
        rw [hcs] at hM
        rw [zpi_i] at hM
        obtain ⟨M_29, eM_30⟩ : ∃ z : zMap, z = zu M_26 (ar 12) (.inl ((G.2.2 0), 5000, .inl (zpi (F 12) (t + 1) ac sta))) := ⟨_, rfl⟩
        replace hM : zM A G M_29 H := by rw [eM_30]; exact hM
        have hJ_31 : zJ G M_29 m0 ar th (nI co) (nI ac) gr (zuf (zuf (zEF F (t + 1) ac) 11 (zpi (F 11) (t + 1) ac cp)) 12 (zpi (F 12) (t + 1) ac sta)) (zEL L (t + 1) ac) := by rw [eM_30]; exact hJ_28.setI 12 (by decide) rfl _
        refine lv_aload_n hx hb dX3_enter_112 rfl (lv_at hl 1 rfl) ?_
        refine z_get (v := .ref (ar 13)) S kX3 hK hM hJ_31.1 16 (by decide) kw_236 rfl dX3_enter_113 ?_
        refine lv_iload hx hb dX3_enter_116 (lv_at hl 0 rfl) ?_
        refine lv_iload_n hx hb dX3_enter_118 rfl (lv_at hl 4 rfl) ?_
        refine z_zast S hK hM hS 1 (show M_29 (ar 13) = some (.inl (G.2.2 1, 5000, .inl (zsh (F 13) (t + 1) ac))) from hJ_31.2.1 13 (by decide)) rfl (vp_in_nI (n := (t + 1)) (by omega) (by decide)) (z_nb hbool) dX3_enter_119 (fun H locs hM hS => ?_)
        rw [hcs] at hM
        rw [zpi_i] at hM
        obtain ⟨M_32, eM_33⟩ : ∃ z : zMap, z = zu M_29 (ar 13) (.inl ((G.2.2 1), 5000, .inl (zpi (F 13) (t + 1) ac lt))) := ⟨_, rfl⟩
        replace hM : zM A G M_32 H := by rw [eM_33]; exact hM
        have hJ_34 : zJ G M_32 m0 ar th (nI co) (nI ac) gr (zuf (zuf (zuf (zEF F (t + 1) ac) 11 (zpi (F 11) (t + 1) ac cp)) 12 (zpi (F 12) (t + 1) ac sta)) 13 (zpi (F 13) (t + 1) ac lt)) (zEL L (t + 1) ac) := by rw [eM_33]; exact hJ_31.setI 13 (by decide) rfl _
        refine lv_aload_n hx hb dX3_enter_120 rfl (lv_at hl 1 rfl) ?_
        refine z_get (v := .ref (ar 14)) S kX3 hK hM hJ_34.1 17 (by decide) kw_237 rfl dX3_enter_121 ?_
        refine lv_iload hx hb dX3_enter_124 (lv_at hl 0 rfl) ?_
        refine lv_lload hx hb dX3_enter_126 (lv_at hl 5 rfl) ?_
        refine z_last S hK hM hS 3 (show M_32 (ar 14) = some (.inl (G.2.2 3, 5000, .inr (.inl (zsh (L 14) (t + 1) ac)))) from hJ_34.2.1 14 (by decide)) rfl (vp_in_nI (n := (t + 1)) (by omega) (by decide)) dX3_enter_128 (fun H locs hM hS => ?_)
        rw [hcs] at hM
        rw [zpi_l] at hM
        obtain ⟨M_35, eM_36⟩ : ∃ z : zMap, z = zu M_32 (ar 14) (.inl ((G.2.2 3), 5000, .inr (.inl (zpi (L 14) (t + 1) ac day)))) := ⟨_, rfl⟩
        replace hM : zM A G M_35 H := by rw [eM_36]; exact hM
        have hJ_37 : zJ G M_35 m0 ar th (nI co) (nI ac) gr (zuf (zuf (zuf (zEF F (t + 1) ac) 11 (zpi (F 11) (t + 1) ac cp)) 12 (zpi (F 12) (t + 1) ac sta)) 13 (zpi (F 13) (t + 1) ac lt)) (zuf (zEL L (t + 1) ac) 14 (zpi (L 14) (t + 1) ac day)) := by rw [eM_36]; exact hJ_34.setL 14 (by decide) rfl _
        refine lv_aload_n hx hb dX3_enter_129 rfl (lv_at hl 1 rfl) ?_
        refine lv_dup hx hb dX3_enter_130 rfl ?_
        refine z_get (v := .int (nI ac)) S kX3 hK hM hJ_37.1 13 (by decide) kw_233 rfl dX3_enter_131 ?_
        refine lv_iconst (v := 1) hx hb dX3_enter_134 (by decide) ?_
        refine lv_iadd hx hb dX3_enter_135 ?_
        refine z_put S kX3 hK hM hS hJ_37.1 13 (by decide) kw_233 rfl rfl rfl (Nat.le_of_ble_eq_true rfl) dX3_enter_136 (fun H locs hM hS => ?_)
        obtain ⟨M_38, eM_39⟩ : ∃ z : zMap, z = zu M_35 m0 (oM th (nI co) ar ((nI ac) + 1) gr) := ⟨_, rfl⟩
        replace hM : zM A G M_38 H := by rw [eM_39]; exact hM
        have hJ_40 : zJ G M_38 m0 ar th (nI co) ((nI ac) + 1) gr (zuf (zuf (zuf (zEF F (t + 1) ac) 11 (zpi (F 11) (t + 1) ac cp)) 12 (zpi (F 12) (t + 1) ac sta)) 13 (zpi (F 13) (t + 1) ac lt)) (zuf (zEL L (t + 1) ac) 14 (zpi (L 14) (t + 1) ac day)) := by rw [eM_39]; exact hJ_37.setO _ _ _ _
        refine lv_aload_n hx hb dX3_enter_139 rfl (lv_at hl 1 rfl) ?_
        refine lv_lload hx hb dX3_enter_140 (lv_at hl 5 rfl) ?_
        refine lv_aload_n hx hb dX3_enter_142 rfl (lv_at hl 1 rfl) ?_
        refine z_get (v := .long gr) S kX3 hK hM hJ_40.1 18 (by decide) kw_238 rfl dX3_enter_143 ?_
        refine W.lcmp hx hb dX3_enter_146 ?_
        refine lv_if_le (tgt := 155) hx hb dX3_enter_147 (by decide) (fun c_41 => ?_) (fun c_41 => ?_)
        · rw [lg_cmp_le] at c_41
          refine lv_aload_n hx hb dX3_enter_155 rfl (lv_at hl 1 rfl) ?_
          refine z_get (v := .long gr) S kX3 hK hM hJ_40.1 18 (by decide) kw_238 rfl dX3_enter_156 ?_
          refine z_put S kX3 hK hM hS hJ_40.1 18 (by decide) kw_238 rfl rfl rfl (Nat.le_of_ble_eq_true rfl) dX3_enter_159 (fun H locs hM hS => ?_)
          obtain ⟨M_42, eM_43⟩ : ∃ z : zMap, z = zu M_38 m0 (oM th (nI co) ar ((nI ac) + 1) gr) := ⟨_, rfl⟩
          replace hM : zM A G M_42 H := by rw [eM_43]; exact hM
          have hJ_44 : zJ G M_42 m0 ar th (nI co) ((nI ac) + 1) gr (zuf (zuf (zuf (zEF F (t + 1) ac) 11 (zpi (F 11) (t + 1) ac cp)) 12 (zpi (F 12) (t + 1) ac sta)) 13 (zpi (F 13) (t + 1) ac lt)) (zuf (zEL L (t + 1) ac) 14 (zpi (L 14) (t + 1) ac day)) := by rw [eM_43]; exact hJ_40.setO _ _ _ _
          exact z_vret S hr hlocks hM hS ⟨rfl, by
            have h6 := hJ_44
            rw [zEF_c, zEL_c, nI_1] at h6
            rw [hp0, if_pos c_41]
            exact h6⟩ (Nat.le_of_ble_eq_true rfl) (Nat.le_of_ble_eq_true rfl) dX3_enter_162
        · rw [lg_cmp_le] at c_41
          refine lv_lload hx hb dX3_enter_150 (lv_at hl 5 rfl) ?_
          refine lv_goto (tgt := 159) hx hb dX3_enter_152 (by decide) ?_
          refine z_put S kX3 hK hM hS hJ_40.1 18 (by decide) kw_238 rfl rfl rfl (Nat.le_of_ble_eq_true rfl) dX3_enter_159 (fun H locs hM hS => ?_)
          obtain ⟨M_45, eM_46⟩ : ∃ z : zMap, z = zu M_38 m0 (oM th (nI co) ar ((nI ac) + 1) day) := ⟨_, rfl⟩
          replace hM : zM A G M_45 H := by rw [eM_46]; exact hM
          have hJ_47 : zJ G M_45 m0 ar th (nI co) ((nI ac) + 1) day (zuf (zuf (zuf (zEF F (t + 1) ac) 11 (zpi (F 11) (t + 1) ac cp)) 12 (zpi (F 12) (t + 1) ac sta)) 13 (zpi (F 13) (t + 1) ac lt)) (zuf (zEL L (t + 1) ac) 14 (zpi (L 14) (t + 1) ac day)) := by rw [eM_46]; exact hJ_40.setO _ _ _ _
          exact z_vret S hr hlocks hM hS ⟨rfl, by
            have h6 := hJ_47
            rw [zEF_c, zEL_c, nI_1] at h6
            rw [hp0, if_neg c_41]
            exact h6⟩ (Nat.le_of_ble_eq_true rfl) (Nat.le_of_ble_eq_true rfl) dX3_enter_162
      · rw [lg_cmp_le] at c_25
        refine lv_aload_n hx hb dX3_enter_26 rfl (lv_at hl 1 rfl) ?_
        refine z_get (v := .ref (ar 11)) S kX3 hK hM hJ9.1 14 (by decide) kw_234 rfl dX3_enter_27 ?_
        refine lv_iload hx hb dX3_enter_30 (lv_at hl 0 rfl) ?_
        refine lv_aload_n hx hb dX3_enter_32 rfl (lv_at hl 1 rfl) ?_
        refine z_get (v := .ref (ar 11)) S kX3 hK hM hJ9.1 14 (by decide) kw_234 rfl dX3_enter_33 ?_
        refine lv_iload hx hb dX3_enter_36 (lv_at hl 0 rfl) ?_
        refine lv_iconst (v := 1) hx hb dX3_enter_38 (by decide) ?_
        refine lv_isub hx hb dX3_enter_39 ?_
        rw [nI_pred]
        refine z_iald S hK hM 0 (show M9 (ar 11) = some (.inl (G.2.2 0, 5000, .inl (zsh (F 11) (t + 1) ac))) from hJ9.2.1 11 (by decide)) rfl (vp_in_nI (n := t) (by omega) (by decide)) dX3_enter_40 ?_
        rw [hct]
        rw [zsh_at]
        refine z_iast S hK hM hS 0 (show M9 (ar 11) = some (.inl (G.2.2 0, 5000, .inl (zsh (F 11) (t + 1) ac))) from hJ9.2.1 11 (by decide)) rfl (vp_in_nI (n := (t + 1)) (by omega) (by decide)) dX3_enter_41 (fun H locs hM hS => ?_)
        rw [hcs] at hM
        rw [zsh_1 hta] at hM
        obtain ⟨M_48, eM_49⟩ : ∃ z : zMap, z = zu M9 (ar 11) (.inl ((G.2.2 0), 5000, .inl (zsh (F 11) t ac))) := ⟨_, rfl⟩
        replace hM : zM A G M_48 H := by rw [eM_49]; exact hM
        have hJ_50 : zJ G M_48 m0 ar th (nI co) (nI ac) gr (zuf (zEF F (t + 1) ac) 11 (zsh (F 11) t ac)) (zEL L (t + 1) ac) := by rw [eM_49]; exact hJ9.setI 11 (by decide) rfl _
        refine lv_aload_n hx hb dX3_enter_42 rfl (lv_at hl 1 rfl) ?_
        refine z_get (v := .ref (ar 12)) S kX3 hK hM hJ_50.1 15 (by decide) kw_235 rfl dX3_enter_43 ?_
        refine lv_iload hx hb dX3_enter_46 (lv_at hl 0 rfl) ?_
        refine lv_aload_n hx hb dX3_enter_48 rfl (lv_at hl 1 rfl) ?_
        refine z_get (v := .ref (ar 12)) S kX3 hK hM hJ_50.1 15 (by decide) kw_235 rfl dX3_enter_49 ?_
        refine lv_iload hx hb dX3_enter_52 (lv_at hl 0 rfl) ?_
        refine lv_iconst (v := 1) hx hb dX3_enter_54 (by decide) ?_
        refine lv_isub hx hb dX3_enter_55 ?_
        rw [nI_pred]
        refine z_iald S hK hM 0 (show M_48 (ar 12) = some (.inl (G.2.2 0, 5000, .inl (zsh (F 12) (t + 1) ac))) from hJ_50.2.1 12 (by decide)) rfl (vp_in_nI (n := t) (by omega) (by decide)) dX3_enter_56 ?_
        rw [hct]
        rw [zsh_at]
        refine z_iast S hK hM hS 0 (show M_48 (ar 12) = some (.inl (G.2.2 0, 5000, .inl (zsh (F 12) (t + 1) ac))) from hJ_50.2.1 12 (by decide)) rfl (vp_in_nI (n := (t + 1)) (by omega) (by decide)) dX3_enter_57 (fun H locs hM hS => ?_)
        rw [hcs] at hM
        rw [zsh_1 hta] at hM
        obtain ⟨M_51, eM_52⟩ : ∃ z : zMap, z = zu M_48 (ar 12) (.inl ((G.2.2 0), 5000, .inl (zsh (F 12) t ac))) := ⟨_, rfl⟩
        replace hM : zM A G M_51 H := by rw [eM_52]; exact hM
        have hJ_53 : zJ G M_51 m0 ar th (nI co) (nI ac) gr (zuf (zuf (zEF F (t + 1) ac) 11 (zsh (F 11) t ac)) 12 (zsh (F 12) t ac)) (zEL L (t + 1) ac) := by rw [eM_52]; exact hJ_50.setI 12 (by decide) rfl _
        refine lv_aload_n hx hb dX3_enter_58 rfl (lv_at hl 1 rfl) ?_
        refine z_get (v := .ref (ar 13)) S kX3 hK hM hJ_53.1 16 (by decide) kw_236 rfl dX3_enter_59 ?_
        refine lv_iload hx hb dX3_enter_62 (lv_at hl 0 rfl) ?_
        refine lv_aload_n hx hb dX3_enter_64 rfl (lv_at hl 1 rfl) ?_
        refine z_get (v := .ref (ar 13)) S kX3 hK hM hJ_53.1 16 (by decide) kw_236 rfl dX3_enter_65 ?_
        refine lv_iload hx hb dX3_enter_68 (lv_at hl 0 rfl) ?_
        refine lv_iconst (v := 1) hx hb dX3_enter_70 (by decide) ?_
        refine lv_isub hx hb dX3_enter_71 ?_
        rw [nI_pred]
        refine z_zald S hK hM 1 (show M_51 (ar 13) = some (.inl (G.2.2 1, 5000, .inl (zsh (F 13) (t + 1) ac))) from hJ_53.2.1 13 (by decide)) rfl (vp_in_nI (n := t) (by omega) (by decide)) dX3_enter_72 ?_
        rw [hct]
        rw [zsh_at]
        refine z_zast S hK hM hS 1 (show M_51 (ar 13) = some (.inl (G.2.2 1, 5000, .inl (zsh (F 13) (t + 1) ac))) from hJ_53.2.1 13 (by decide)) rfl (vp_in_nI (n := (t + 1)) (by omega) (by decide)) (z_nb (hbl t)) dX3_enter_73 (fun H locs hM hS => ?_)
        rw [hcs] at hM
        rw [zsh_1 hta] at hM
        obtain ⟨M_54, eM_55⟩ : ∃ z : zMap, z = zu M_51 (ar 13) (.inl ((G.2.2 1), 5000, .inl (zsh (F 13) t ac))) := ⟨_, rfl⟩
        replace hM : zM A G M_54 H := by rw [eM_55]; exact hM
        have hJ_56 : zJ G M_54 m0 ar th (nI co) (nI ac) gr (zuf (zuf (zuf (zEF F (t + 1) ac) 11 (zsh (F 11) t ac)) 12 (zsh (F 12) t ac)) 13 (zsh (F 13) t ac)) (zEL L (t + 1) ac) := by rw [eM_55]; exact hJ_53.setI 13 (by decide) rfl _
        refine lv_aload_n hx hb dX3_enter_74 rfl (lv_at hl 1 rfl) ?_
        refine z_get (v := .ref (ar 14)) S kX3 hK hM hJ_56.1 17 (by decide) kw_237 rfl dX3_enter_75 ?_
        refine lv_iload hx hb dX3_enter_78 (lv_at hl 0 rfl) ?_
        refine lv_aload_n hx hb dX3_enter_80 rfl (lv_at hl 1 rfl) ?_
        refine z_get (v := .ref (ar 14)) S kX3 hK hM hJ_56.1 17 (by decide) kw_237 rfl dX3_enter_81 ?_
        refine lv_iload hx hb dX3_enter_84 (lv_at hl 0 rfl) ?_
        refine lv_iconst (v := 1) hx hb dX3_enter_86 (by decide) ?_
        refine lv_isub hx hb dX3_enter_87 ?_
        rw [nI_pred]
        refine z_lald S hK hM 3 (show M_54 (ar 14) = some (.inl (G.2.2 3, 5000, .inr (.inl (zsh (L 14) (t + 1) ac)))) from hJ_56.2.1 14 (by decide)) rfl (vp_in_nI (n := t) (by omega) (by decide)) dX3_enter_88 ?_
        rw [hct]
        rw [zsh_at]
        refine z_last S hK hM hS 3 (show M_54 (ar 14) = some (.inl (G.2.2 3, 5000, .inr (.inl (zsh (L 14) (t + 1) ac)))) from hJ_56.2.1 14 (by decide)) rfl (vp_in_nI (n := (t + 1)) (by omega) (by decide)) dX3_enter_89 (fun H locs hM hS => ?_)
        rw [hcs] at hM
        rw [zsh_1L hta] at hM
        obtain ⟨M_57, eM_58⟩ : ∃ z : zMap, z = zu M_54 (ar 14) (.inl ((G.2.2 3), 5000, .inr (.inl (zsh (L 14) t ac)))) := ⟨_, rfl⟩
        replace hM : zM A G M_57 H := by rw [eM_58]; exact hM
        have hJ_59 : zJ G M_57 m0 ar th (nI co) (nI ac) gr (zuf (zuf (zuf (zEF F (t + 1) ac) 11 (zsh (F 11) t ac)) 12 (zsh (F 12) t ac)) 13 (zsh (F 13) t ac)) (zuf (zEL L (t + 1) ac) 14 (zsh (L 14) t ac)) := by rw [eM_58]; exact hJ_56.setL 14 (by decide) rfl _
        refine lv_iinc (v := (nI (t + 1)) + (-1)) (lv' := [(6, .int ((nI (t + 1)) + (-1))), (0, .ref m0), (1, .int cp), (2, .int sta), (3, .int lt), (4, .long day)]) hx hb dX3_enter_90 hl (k := 0) rfl rfl (by decide) rfl (fun ls hl => ?_)
        refine lv_goto (tgt := 6) hx hb dX3_enter_93 (by decide) ?_
        exact ih (t, M_57) ls _ _ ⟨by omega, by rw [hpt, zps, if_pos (Int64.not_le.mp c_25)], by
          have h7 := lv_sub hl [0, 1, 2, 3, 4, 5] rfl
          rw [pk_m1] at h7
          exact h7, hM, hS, by
          have h6 := hJ_59
          rw [zEF_c, zEL_c] at h6
          exact h6⟩ (by show t < t + 1; omega)
