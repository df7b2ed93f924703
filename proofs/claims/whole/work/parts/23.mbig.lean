set_option maxHeartbeats 4000000 in
set_option maxRecDepth 100000 in
theorem c_X3_weed (l : Launch) (A : Nat → Prop) (G : zG) (M : zMap) (m0 : Nat) (ar : Nat → Nat) (th : Int32) (co ac : Nat) (gr : Int64) (F : Nat → Nat → Int32) (L : Nat → Nat → Int64) (k who : Int32) (hJ : zJ G M m0 ar th (nI co) (nI ac) gr F L) (hco : co ≤ 80) (hac : ac < 4999) (hbl : ∀ k, zbool (F 13 k)) : zMet l yX3_weed cX3_weed 4 (some .int) { frames := 1, cells := 0, slots := 0, locals := 40 } [.ref m0, .int k, .int who] A G M (zVQ G m0 ar co ac gr F L k who) := by
  refine zMet.of (by decide) (Nat.le_of_ble_eq_true rfl) ?_
  intro p e s m args below meth c ls S hr hlocks hnm hK hM hA hS hl
  have hl : lv_has ls 4 [(0, .ref m0), (1, .int k), (2, .int who)] := hl
  have hx := S.1
  have hb := S.2.1
  have hown := S.2.2.2.1
  have hts := S.2.2.2.2
  have hr : meth.sig.returnType = some .int := hr
  refine lv_aload_n hx hb dX3_weed_0 rfl (lv_at hl 0 rfl) ?_
  refine lv_iconst (v := 0) hx hb dX3_weed_1 (by decide) ?_
  refine z_put S kX3 hK hM hS hJ.1 0 (by decide) kw_220 rfl rfl rfl (Nat.le_of_ble_eq_true rfl) dX3_weed_2 (fun H locs hM hS => ?_)
  obtain ⟨M_1, eM_2⟩ : ∃ z : zMap, z = zu M m0 (oM 0 (nI co) ar (nI ac) gr) := ⟨_, rfl⟩
  replace hM : zM A G M_1 H := by rw [eM_2]; exact hM
  have hJ_3 : zJ G M_1 m0 ar 0 (nI co) (nI ac) gr F L := by rw [eM_2]; exact hJ.setO _ _ _ _
  refine lv_aload_n hx hb dX3_weed_5 rfl (lv_at hl 0 rfl) ?_
  refine lv_iload_n hx hb dX3_weed_6 rfl (lv_at hl 1 rfl) ?_
  refine z_callV (As := [.int k]) (rest := []) S (c_X3_isCopy l A G M_1 m0 ar 0 co ac gr F L k hJ_3 hco) ok_X3_isCopy kw_307 kw_309 ks_7 ⟨Nat.le_of_ble_eq_true rfl, Nat.le_of_ble_eq_true rfl⟩ hK hM hS hA hJ_3.1 rfl rfl hl.1 rfl (Nat.le_of_ble_eq_true rfl) dX3_weed_7 ⟨Nat.le_of_ble_eq_true rfl, Nat.le_of_ble_eq_true rfl⟩ (fun r_6 M_4 H locs hp_5 hM hS => ?_)
  obtain ⟨rfl, hM9⟩ := hp_5
  rw [hM9] at hM
  refine W.eq (g2 := F0 m 10 ls [.int (zb ((zIx co k).isSome = true))]) rfl ?_
  refine lv_if_eq (tgt := 23) hx hb dX3_weed_10 (by decide) (fun c_7 => ?_) (fun c_7 => ?_)
  · rw [zb_0] at c_7
    have hz := zisN c_7
    refine lv_iconst (v := -1) hx hb dX3_weed_23 (by decide) ?_
    exact z_iret S hr hlocks hM hS (by unfold zVQ; rw [hz]; exact ⟨rfl, hJ_3⟩) (Nat.le_of_ble_eq_true rfl) (Nat.le_of_ble_eq_true rfl) dX3_weed_24
  · rw [zb_0n] at c_7
    obtain ⟨j, hz⟩ := zisS c_7
    obtain ⟨hj, rfl⟩ := zIx_some hco hz
    have hcl : (nI (j + 1)).toNatClampNeg = j + 1 := nI_clamp (by omega)
    refine lv_iload_n hx hb dX3_weed_13 rfl (lv_at hl 2 rfl) ?_
    refine lv_if_lt (tgt := 23) hx hb dX3_weed_14 (by decide) (fun c_8 => ?_) (fun c_8 => ?_)
    · refine lv_iconst (v := -1) hx hb dX3_weed_23 (by decide) ?_
      exact z_iret S hr hlocks hM hS (by unfold zVQ; rw [hz]; dsimp only; rw [if_neg (fun q => q.1 c_8)]; exact ⟨rfl, hJ_3⟩) (Nat.le_of_ble_eq_true rfl) (Nat.le_of_ble_eq_true rfl) dX3_weed_24
    · refine lv_iload_n hx hb dX3_weed_17 rfl (lv_at hl 2 rfl) ?_
      refine lv_bipush (v := 99) hx hb dX3_weed_18 (by decide) ?_
      refine lv_icmp_le (tgt := 25) hx hb dX3_weed_20 (by decide) (fun c_9 => ?_) (fun c_9 => ?_)
      · refine lv_aload_n hx hb dX3_weed_25 rfl (lv_at hl 0 rfl) ?_
        refine z_get (v := .ref (ar 5)) S kX3 hK hM hJ_3.1 7 (by decide) kw_227 rfl dX3_weed_26 ?_
        refine lv_iload_n hx hb dX3_weed_29 rfl (lv_at hl 1 rfl) ?_
        refine z_iald S hK hM 0 (show M_1 (ar 5) = some (.inl (G.2.2 0, 81, .inl (F 5))) from hJ_3.2.1 5 (by decide)) rfl (zvp81 hj hco) dX3_weed_30 ?_
        rw [hcl]
        refine lv_istore_n (lv' := [(3, .int (F 5 (j + 1))), (0, .ref m0), (1, .int (nI (j + 1))), (2, .int who)]) hx hb dX3_weed_31 rfl hl (by decide) rfl (fun ls hl => ?_)
        refine lv_iload_n hx hb dX3_weed_32 rfl (lv_at hl 0 rfl) ?_
        refine lv_if_eq (tgt := 47) hx hb dX3_weed_33 (by decide) (fun c_10 => ?_) (fun c_10 => ?_)
        · refine lv_aload_n hx hb dX3_weed_47 rfl (lv_at hl 1 rfl) ?_
          refine z_get (v := .ref (ar 7)) S kX3 hK hM hJ_3.1 9 (by decide) kw_229 rfl dX3_weed_48 ?_
          refine lv_iload_n hx hb dX3_weed_51 rfl (lv_at hl 2 rfl) ?_
          refine z_iald S hK hM 0 (show M_1 (ar 7) = some (.inl (G.2.2 0, 81, .inl (F 7))) from hJ_3.2.1 7 (by decide)) rfl (zvp81 hj hco) dX3_weed_52 ?_
          rw [hcl]
          refine lv_iload_n hx hb dX3_weed_53 rfl (lv_at hl 3 rfl) ?_
          refine lv_icmp_ne (tgt := 60) hx hb dX3_weed_54 (by decide) (fun c_11 => ?_) (fun c_11 => ?_)
          · refine lv_aload_n hx hb dX3_weed_60 rfl (lv_at hl 1 rfl) ?_
            refine z_get (v := .ref (ar 7)) S kX3 hK hM hJ_3.1 9 (by decide) kw_229 rfl dX3_weed_61 ?_
            refine lv_iload_n hx hb dX3_weed_64 rfl (lv_at hl 2 rfl) ?_
            refine z_iald S hK hM 0 (show M_1 (ar 7) = some (.inl (G.2.2 0, 81, .inl (F 7))) from hJ_3.2.1 7 (by decide)) rfl (zvp81 hj hco) dX3_weed_65 ?_
            rw [hcl]
            refine lv_iconst (v := -1) hx hb dX3_weed_66 (by decide) ?_
            refine lv_icmp_ne (tgt := 79) hx hb dX3_weed_67 (by decide) (fun c_12 => ?_) (fun c_12 => ?_)
            · refine lv_aload_n hx hb dX3_weed_79 rfl (lv_at hl 1 rfl) ?_
              refine lv_iload_n hx hb dX3_weed_80 rfl (lv_at hl 2 rfl) ?_
              refine lv_bipush (v := 7) hx hb dX3_weed_81 (by decide) ?_
              refine lv_iconst (v := 0) hx hb dX3_weed_83 (by decide) ?_
              refine lv_aload_n hx hb dX3_weed_84 rfl (lv_at hl 1 rfl) ?_
              refine z_get (v := .long gr) S kX3 hK hM hJ_3.1 18 (by decide) kw_238 rfl dX3_weed_85 ?_
              refine lv_lconst (v := 1) hx hb dX3_weed_88 (by decide) ?_
              refine lv_ladd hx hb dX3_weed_89 ?_
              refine z_callV (As := [.int (nI (j + 1)), .int 7, .int 0, .long (gr + 1)]) (rest := []) S (c_X3_enter l A G M_1 m0 ar 0 co ac gr F L (nI (j + 1)) 7 0 (gr + 1) hJ_3 hco (by omega) (Or.inl rfl) hbl) ok_X3_enter kw_323 kw_325 ks_9 ⟨Nat.le_of_ble_eq_true rfl, Nat.le_of_ble_eq_true rfl⟩ hK hM hS hA hJ_3.1 rfl rfl hl.1 rfl (Nat.le_of_ble_eq_true rfl) dX3_weed_90 ⟨Nat.le_of_ble_eq_true rfl, Nat.le_of_ble_eq_true rfl⟩ (fun r_15 M_13 H locs hp_14 hM hS => ?_)
              obtain ⟨rfl, hJ_16⟩ := hp_14
              refine W.eq (g2 := F0 m 93 ls []) rfl ?_
              refine lv_aload_n hx hb dX3_weed_93 rfl (lv_at hl 1 rfl) ?_
              refine z_get (v := .ref (ar 5)) S kX3 hK hM hJ_16.1 7 (by decide) kw_227 rfl dX3_weed_94 ?_
              refine lv_iload_n hx hb dX3_weed_97 rfl (lv_at hl 2 rfl) ?_
              refine lv_bipush (v := 7) hx hb dX3_weed_98 (by decide) ?_
              refine z_iast S hK hM hS 0 (show M_13 (ar 5) = some (.inl (G.2.2 0, 81, .inl (F 5))) from hJ_16.2.1 5 (by decide)) rfl (zvp81 hj hco) dX3_weed_100 (fun H locs hM hS => ?_)
              rw [hcl] at hM
              obtain ⟨M_17, eM_18⟩ : ∃ z : zMap, z = zu M_13 (ar 5) (.inl ((G.2.2 0), 81, .inl (upd (F 5) (j + 1) 7))) := ⟨_, rfl⟩
              replace hM : zM A G M_17 H := by rw [eM_18]; exact hM
              have hJ_19 : zJ G M_17 m0 ar 0 (nI co) (nI (ac + 1)) (if gr + 1 ≤ gr then gr else gr + 1) (zuf (zEN F (zps (L 14) (gr + 1) ac) ac (nI (j + 1)) 7 0) 5 (upd (F 5) (j + 1) 7)) (zuf L 14 (zpi (L 14) (zps (L 14) (gr + 1) ac) ac (gr + 1))) := by rw [eM_18]; exact hJ_16.setI 5 (by decide) rfl _
              refine lv_iconst (v := 2) hx hb dX3_weed_101 (by decide) ?_
              exact z_iret S hr hlocks hM hS (by unfold zVQ; rw [hz]; dsimp only; rw [if_pos ⟨c_8, c_9⟩, if_pos ⟨Or.inl c_10, c_11⟩, if_neg c_12]; exact ⟨rfl, hJ_19⟩) (Nat.le_of_ble_eq_true rfl) (Nat.le_of_ble_eq_true rfl) dX3_weed_102
            · refine lv_aload_n hx hb dX3_weed_70 rfl (lv_at hl 1 rfl) ?_
              refine z_get (v := .ref (ar 7)) S kX3 hK hM hJ_3.1 9 (by decide) kw_229 rfl dX3_weed_71 ?_
              refine lv_iload_n hx hb dX3_weed_74 rfl (lv_at hl 2 rfl) ?_
              refine lv_iload_n hx hb dX3_weed_75 rfl (lv_at hl 3 rfl) ?_
              refine z_iast S hK hM hS 0 (show M_1 (ar 7) = some (.inl (G.2.2 0, 81, .inl (F 7))) from hJ_3.2.1 7 (by decide)) rfl (zvp81 hj hco) dX3_weed_76 (fun H locs hM hS => ?_)
              rw [hcl] at hM
              obtain ⟨M_20, eM_21⟩ : ∃ z : zMap, z = zu M_1 (ar 7) (.inl ((G.2.2 0), 81, .inl (upd (F 7) (j + 1) who))) := ⟨_, rfl⟩
              replace hM : zM A G M_20 H := by rw [eM_21]; exact hM
              have hJ_22 : zJ G M_20 m0 ar 0 (nI co) (nI ac) gr (zuf F 7 (upd (F 7) (j + 1) who)) L := by rw [eM_21]; exact hJ_3.setI 7 (by decide) rfl _
              refine lv_iconst (v := 1) hx hb dX3_weed_77 (by decide) ?_
              exact z_iret S hr hlocks hM hS (by unfold zVQ; rw [hz]; dsimp only; rw [if_pos ⟨c_8, c_9⟩, if_pos ⟨Or.inl c_10, c_11⟩, if_pos c_12]; exact ⟨rfl, hJ_22⟩) (Nat.le_of_ble_eq_true rfl) (Nat.le_of_ble_eq_true rfl) dX3_weed_78
          · refine lv_bipush (v := -2) hx hb dX3_weed_57 (by decide) ?_
            exact z_iret S hr hlocks hM hS (by unfold zVQ; rw [hz]; dsimp only; rw [if_pos ⟨c_8, c_9⟩, if_neg (fun q => q.2 c_11)]; exact ⟨rfl, hJ_3⟩) (Nat.le_of_ble_eq_true rfl) (Nat.le_of_ble_eq_true rfl) dX3_weed_59
        · refine lv_iload_n hx hb dX3_weed_36 rfl (lv_at hl 0 rfl) ?_
          refine lv_iconst (v := 3) hx hb dX3_weed_37 (by decide) ?_
          refine lv_icmp_eq (tgt := 47) hx hb dX3_weed_38 (by decide) (fun c_23 => ?_) (fun c_23 => ?_)
          · refine lv_aload_n hx hb dX3_weed_47 rfl (lv_at hl 1 rfl) ?_
            refine z_get (v := .ref (ar 7)) S kX3 hK hM hJ_3.1 9 (by decide) kw_229 rfl dX3_weed_48 ?_
            refine lv_iload_n hx hb dX3_weed_51 rfl (lv_at hl 2 rfl) ?_
            refine z_iald S hK hM 0 (show M_1 (ar 7) = some (.inl (G.2.2 0, 81, .inl (F 7))) from hJ_3.2.1 7 (by decide)) rfl (zvp81 hj hco) dX3_weed_52 ?_
            rw [hcl]
            refine lv_iload_n hx hb dX3_weed_53 rfl (lv_at hl 3 rfl) ?_
            refine lv_icmp_ne (tgt := 60) hx hb dX3_weed_54 (by decide) (fun c_24 => ?_) (fun c_24 => ?_)
            · refine lv_aload_n hx hb dX3_weed_60 rfl (lv_at hl 1 rfl) ?_
              refine z_get (v := .ref (ar 7)) S kX3 hK hM hJ_3.1 9 (by decide) kw_229 rfl dX3_weed_61 ?_
              refine lv_iload_n hx hb dX3_weed_64 rfl (lv_at hl 2 rfl) ?_
              refine z_iald S hK hM 0 (show M_1 (ar 7) = some (.inl (G.2.2 0, 81, .inl (F 7))) from hJ_3.2.1 7 (by decide)) rfl (zvp81 hj hco) dX3_weed_65 ?_
              rw [hcl]
              refine lv_iconst (v := -1) hx hb dX3_weed_66 (by decide) ?_
              refine lv_icmp_ne (tgt := 79) hx hb dX3_weed_67 (by decide) (fun c_25 => ?_) (fun c_25 => ?_)
              · refine lv_aload_n hx hb dX3_weed_79 rfl (lv_at hl 1 rfl) ?_
                refine lv_iload_n hx hb dX3_weed_80 rfl (lv_at hl 2 rfl) ?_
                refine lv_bipush (v := 7) hx hb dX3_weed_81 (by decide) ?_
                refine lv_iconst (v := 0) hx hb dX3_weed_83 (by decide) ?_
                refine lv_aload_n hx hb dX3_weed_84 rfl (lv_at hl 1 rfl) ?_
                refine z_get (v := .long gr) S kX3 hK hM hJ_3.1 18 (by decide) kw_238 rfl dX3_weed_85 ?_
                refine lv_lconst (v := 1) hx hb dX3_weed_88 (by decide) ?_
                refine lv_ladd hx hb dX3_weed_89 ?_
                refine z_callV (As := [.int (nI (j + 1)), .int 7, .int 0, .long (gr + 1)]) (rest := []) S (c_X3_enter l A G M_1 m0 ar 0 co ac gr F L (nI (j + 1)) 7 0 (gr + 1) hJ_3 hco (by omega) (Or.inl rfl) hbl) ok_X3_enter kw_323 kw_325 ks_9 ⟨Nat.le_of_ble_eq_true rfl, Nat.le_of_ble_eq_true rfl⟩ hK hM hS hA hJ_3.1 rfl rfl hl.1 rfl (Nat.le_of_ble_eq_true rfl) dX3_weed_90 ⟨Nat.le_of_ble_eq_true rfl, Nat.le_of_ble_eq_true rfl⟩ (fun r_28 M_26 H locs hp_27 hM hS => ?_)
                obtain ⟨rfl, hJ_29⟩ := hp_27
                refine W.eq (g2 := F0 m 93 ls []) rfl ?_
                refine lv_aload_n hx hb dX3_weed_93 rfl (lv_at hl 1 rfl) ?_
                refine z_get (v := .ref (ar 5)) S kX3 hK hM hJ_29.1 7 (by decide) kw_227 rfl dX3_weed_94 ?_
                refine lv_iload_n hx hb dX3_weed_97 rfl (lv_at hl 2 rfl) ?_
                refine lv_bipush (v := 7) hx hb dX3_weed_98 (by decide) ?_
                refine z_iast S hK hM hS 0 (show M_26 (ar 5) = some (.inl (G.2.2 0, 81, .inl (F 5))) from hJ_29.2.1 5 (by decide)) rfl (zvp81 hj hco) dX3_weed_100 (fun H locs hM hS => ?_)
                rw [hcl] at hM
                obtain ⟨M_30, eM_31⟩ : ∃ z : zMap, z = zu M_26 (ar 5) (.inl ((G.2.2 0), 81, .inl (upd (F 5) (j + 1) 7))) := ⟨_, rfl⟩
                replace hM : zM A G M_30 H := by rw [eM_31]; exact hM
                have hJ_32 : zJ G M_30 m0 ar 0 (nI co) (nI (ac + 1)) (if gr + 1 ≤ gr then gr else gr + 1) (zuf (zEN F (zps (L 14) (gr + 1) ac) ac (nI (j + 1)) 7 0) 5 (upd (F 5) (j + 1) 7)) (zuf L 14 (zpi (L 14) (zps (L 14) (gr + 1) ac) ac (gr + 1))) := by rw [eM_31]; exact hJ_29.setI 5 (by decide) rfl _
                refine lv_iconst (v := 2) hx hb dX3_weed_101 (by decide) ?_
                exact z_iret S hr hlocks hM hS (by unfold zVQ; rw [hz]; dsimp only; rw [if_pos ⟨c_8, c_9⟩, if_pos ⟨Or.inr (Or.inl c_23), c_24⟩, if_neg c_25]; exact ⟨rfl, hJ_32⟩) (Nat.le_of_ble_eq_true rfl) (Nat.le_of_ble_eq_true rfl) dX3_weed_102
              · refine lv_aload_n hx hb dX3_weed_70 rfl (lv_at hl 1 rfl) ?_
                refine z_get (v := .ref (ar 7)) S kX3 hK hM hJ_3.1 9 (by decide) kw_229 rfl dX3_weed_71 ?_
                refine lv_iload_n hx hb dX3_weed_74 rfl (lv_at hl 2 rfl) ?_
                refine lv_iload_n hx hb dX3_weed_75 rfl (lv_at hl 3 rfl) ?_
                refine z_iast S hK hM hS 0 (show M_1 (ar 7) = some (.inl (G.2.2 0, 81, .inl (F 7))) from hJ_3.2.1 7 (by decide)) rfl (zvp81 hj hco) dX3_weed_76 (fun H locs hM hS => ?_)
                rw [hcl] at hM
                obtain ⟨M_33, eM_34⟩ : ∃ z : zMap, z = zu M_1 (ar 7) (.inl ((G.2.2 0), 81, .inl (upd (F 7) (j + 1) who))) := ⟨_, rfl⟩
                replace hM : zM A G M_33 H := by rw [eM_34]; exact hM
                have hJ_35 : zJ G M_33 m0 ar 0 (nI co) (nI ac) gr (zuf F 7 (upd (F 7) (j + 1) who)) L := by rw [eM_34]; exact hJ_3.setI 7 (by decide) rfl _
                refine lv_iconst (v := 1) hx hb dX3_weed_77 (by decide) ?_
                exact z_iret S hr hlocks hM hS (by unfold zVQ; rw [hz]; dsimp only; rw [if_pos ⟨c_8, c_9⟩, if_pos ⟨Or.inr (Or.inl c_23), c_24⟩, if_pos c_25]; exact ⟨rfl, hJ_35⟩) (Nat.le_of_ble_eq_true rfl) (Nat.le_of_ble_eq_true rfl) dX3_weed_78
            · refine lv_bipush (v := -2) hx hb dX3_weed_57 (by decide) ?_
              exact z_iret S hr hlocks hM hS (by unfold zVQ; rw [hz]; dsimp only; rw [if_pos ⟨c_8, c_9⟩, if_neg (fun q => q.2 c_24)]; exact ⟨rfl, hJ_3⟩) (Nat.le_of_ble_eq_true rfl) (Nat.le_of_ble_eq_true rfl) dX3_weed_59
          · refine lv_iload_n hx hb dX3_weed_41 rfl (lv_at hl 0 rfl) ?_
            refine lv_bipush (v := 6) hx hb dX3_weed_42 (by decide) ?_
            refine lv_icmp_ne (tgt := 57) hx hb dX3_weed_44 (by decide) (fun c_36 => ?_) (fun c_36 => ?_)
            · refine lv_bipush (v := -2) hx hb dX3_weed_57 (by decide) ?_
              exact z_iret S hr hlocks hM hS (by unfold zVQ; rw [hz]; dsimp only; rw [if_pos ⟨c_8, c_9⟩, if_neg (fun q => q.1.elim c_10 (fun q => q.elim c_23 c_36))]; exact ⟨rfl, hJ_3⟩) (Nat.le_of_ble_eq_true rfl) (Nat.le_of_ble_eq_true rfl) dX3_weed_59
            · refine lv_aload_n hx hb dX3_weed_47 rfl (lv_at hl 1 rfl) ?_
              refine z_get (v := .ref (ar 7)) S kX3 hK hM hJ_3.1 9 (by decide) kw_229 rfl dX3_weed_48 ?_
              refine lv_iload_n hx hb dX3_weed_51 rfl (lv_at hl 2 rfl) ?_
              refine z_iald S hK hM 0 (show M_1 (ar 7) = some (.inl (G.2.2 0, 81, .inl (F 7))) from hJ_3.2.1 7 (by decide)) rfl (zvp81 hj hco) dX3_weed_52 ?_
              rw [hcl]
              refine lv_iload_n hx hb dX3_weed_53 rfl (lv_at hl 3 rfl) ?_
              refine lv_icmp_ne (tgt := 60) hx hb dX3_weed_54 (by decide) (fun c_37 => ?_) (fun c_37 => ?_)
              · refine lv_aload_n hx hb dX3_weed_60 rfl (lv_at hl 1 rfl) ?_
                refine z_get (v := .ref (ar 7)) S kX3 hK hM hJ_3.1 9 (by decide) kw_229 rfl dX3_weed_61 ?_
                refine lv_iload_n hx hb dX3_weed_64 rfl (lv_at hl 2 rfl) ?_
                refine z_iald S hK hM 0 (show M_1 (ar 7) = some (.inl (G.2.2 0, 81, .inl (F 7))) from hJ_3.2.1 7 (by decide)) rfl (zvp81 hj hco) dX3_weed_65 ?_
                rw [hcl]
                refine lv_iconst (v := -1) hx hb dX3_weed_66 (by decide) ?_
                refine lv_icmp_ne (tgt := 79) hx hb dX3_weed_67 (by decide) (fun c_38 => ?_) (fun c_38 => ?_)
                · refine lv_aload_n hx hb dX3_weed_79 rfl (lv_at hl 1 rfl) ?_
                  refine lv_iload_n hx hb dX3_weed_80 rfl (lv_at hl 2 rfl) ?_
                  refine lv_bipush (v := 7) hx hb dX3_weed_81 (by decide) ?_
                  refine lv_iconst (v := 0) hx hb dX3_weed_83 (by decide) ?_
                  refine lv_aload_n hx hb dX3_weed_84 rfl (lv_at hl 1 rfl) ?_
                  refine z_get (v := .long gr) S kX3 hK hM hJ_3.1 18 (by decide) kw_238 rfl dX3_weed_85 ?_
                  refine lv_lconst (v := 1) hx hb dX3_weed_88 (by decide) ?_
                  refine lv_ladd hx hb dX3_weed_89 ?_
                  refine z_callV (As := [.int (nI (j + 1)), .int 7, .int 0, .long (gr + 1)]) (rest := []) S (c_X3_enter l A G M_1 m0 ar 0 co ac gr F L (nI (j + 1)) 7 0 (gr + 1) hJ_3 hco (by omega) (Or.inl rfl) hbl) ok_X3_enter kw_323 kw_325 ks_9 ⟨Nat.le_of_ble_eq_true rfl, Nat.le_of_ble_eq_true rfl⟩ hK hM hS hA hJ_3.1 rfl rfl hl.1 rfl (Nat.le_of_ble_eq_true rfl) dX3_weed_90 ⟨Nat.le_of_ble_eq_true rfl, Nat.le_of_ble_eq_true rfl⟩ (fun r_41 M_39 H locs hp_40 hM hS => ?_)
                  obtain ⟨rfl, hJ_42⟩ := hp_40
                  refine W.eq (g2 := F0 m 93 ls []) rfl ?_
                  refine lv_aload_n hx hb dX3_weed_93 rfl (lv_at hl 1 rfl) ?_
                  refine z_get (v := .ref (ar 5)) S kX3 hK hM hJ_42.1 7 (by decide) kw_227 rfl dX3_weed_94 ?_
                  refine lv_iload_n hx hb dX3_weed_97 rfl (lv_at hl 2 rfl) ?_
                  refine lv_bipush (v := 7) hx hb dX3_weed_98 (by decide) ?_
                  refine z_iast S hK hM hS 0 (show M_39 (ar 5) = some (.inl (G.2.2 0, 81, .inl (F 5))) from hJ_42.2.1 5 (by decide)) rfl (zvp81 hj hco) dX3_weed_100 (fun H locs hM hS => ?_)
                  rw [hcl] at hM
                  obtain ⟨M_43, eM_44⟩ : ∃ z : zMap, z = zu M_39 (ar 5) (.inl ((G.2.2 0), 81, .inl (upd (F 5) (j + 1) 7))) := ⟨_, rfl⟩
                  replace hM : zM A G M_43 H := by rw [eM_44]; exact hM
                  have hJ_45 : zJ G M_43 m0 ar 0 (nI co) (nI (ac + 1)) (if gr + 1 ≤ gr then gr else gr + 1) (zuf (zEN F (zps (L 14) (gr + 1) ac) ac (nI (j + 1)) 7 0) 5 (upd (F 5) (j + 1) 7)) (zuf L 14 (zpi (L 14) (zps (L 14) (gr + 1) ac) ac (gr + 1))) := by rw [eM_44]; exact hJ_42.setI 5 (by decide) rfl _
                  refine lv_iconst (v := 2) hx hb dX3_weed_101 (by decide) ?_
                  exact z_iret S hr hlocks hM hS (by unfold zVQ; rw [hz]; dsimp only; rw [if_pos ⟨c_8, c_9⟩, if_pos ⟨Or.inr (Or.inr c_36), c_37⟩, if_neg c_38]; exact ⟨rfl, hJ_45⟩) (Nat.le_of_ble_eq_true rfl) (Nat.le_of_ble_eq_true rfl) dX3_weed_102
                · refine lv_aload_n hx hb dX3_weed_70 rfl (lv_at hl 1 rfl) ?_
                  refine z_get (v := .ref (ar 7)) S kX3 hK hM hJ_3.1 9 (by decide) kw_229 rfl dX3_weed_71 ?_
                  refine lv_iload_n hx hb dX3_weed_74 rfl (lv_at hl 2 rfl) ?_
                  refine lv_iload_n hx hb dX3_weed_75 rfl (lv_at hl 3 rfl) ?_
                  refine z_iast S hK hM hS 0 (show M_1 (ar 7) = some (.inl (G.2.2 0, 81, .inl (F 7))) from hJ_3.2.1 7 (by decide)) rfl (zvp81 hj hco) dX3_weed_76 (fun H locs hM hS => ?_)
                  rw [hcl] at hM
                  obtain ⟨M_46, eM_47⟩ : ∃ z : zMap, z = zu M_1 (ar 7) (.inl ((G.2.2 0), 81, .inl (upd (F 7) (j + 1) who))) := ⟨_, rfl⟩
                  replace hM : zM A G M_46 H := by rw [eM_47]; exact hM
                  have hJ_48 : zJ G M_46 m0 ar 0 (nI co) (nI ac) gr (zuf F 7 (upd (F 7) (j + 1) who)) L := by rw [eM_47]; exact hJ_3.setI 7 (by decide) rfl _
                  refine lv_iconst (v := 1) hx hb dX3_weed_77 (by decide) ?_
                  exact z_iret S hr hlocks hM hS (by unfold zVQ; rw [hz]; dsimp only; rw [if_pos ⟨c_8, c_9⟩, if_pos ⟨Or.inr (Or.inr c_36), c_37⟩, if_pos c_38]; exact ⟨rfl, hJ_48⟩) (Nat.le_of_ble_eq_true rfl) (Nat.le_of_ble_eq_true rfl) dX3_weed_78
              · refine lv_bipush (v := -2) hx hb dX3_weed_57 (by decide) ?_
                exact z_iret S hr hlocks hM hS (by unfold zVQ; rw [hz]; dsimp only; rw [if_pos ⟨c_8, c_9⟩, if_neg (fun q => q.2 c_37)]; exact ⟨rfl, hJ_3⟩) (Nat.le_of_ble_eq_true rfl) (Nat.le_of_ble_eq_true rfl) dX3_weed_59
      · refine lv_iconst (v := -1) hx hb dX3_weed_23 (by decide) ?_
        exact z_iret S hr hlocks hM hS (by unfold zVQ; rw [hz]; dsimp only; rw [if_neg (fun q => c_9 q.2)]; exact ⟨rfl, hJ_3⟩) (Nat.le_of_ble_eq_true rfl) (Nat.le_of_ble_eq_true rfl) dX3_weed_24
set_option maxHeartbeats 4000000 in
set_option maxRecDepth 100000 in
theorem c_X3_history (l : Launch) (A : Nat → Prop) (G : zG) (M : zMap) (m0 : Nat) (ar : Nat → Nat) (th : Int32) (co ac : Nat) (gr : Int64) (F : Nat → Nat → Int32) (L : Nat → Nat → Int64) (k i what : Int32) (hJ : zJ G M m0 ar th (nI co) (nI ac) gr F L) (hco : co ≤ 80) (hac : ac < 5000) : zMet l yX3_history cX3_history 6 (some .int) { frames := 1, cells := 0, slots := 0, locals := 40 } [.ref m0, .int k, .int i, .int what] A G M (fun r M1 => r = some (.int (zsel co k (-1) (fun j => vHi (zel (F 11) (F 12) (F 13) (L 14) (nI (j + 1)) ac) i what))) ∧ zJ G M1 m0 ar 0 (nI co) (nI ac) gr F L) := by
  refine zMet.of (by decide) (Nat.le_of_ble_eq_true rfl) ?_
  intro p e s m args below meth c ls S hr hlocks hnm hK hM hA hS hl
  have hl : lv_has ls 6 [(0, .ref m0), (1, .int k), (2, .int i), (3, .int what)] := hl
  have hx := S.1
  have hb := S.2.1
  have hown := S.2.2.2.1
  have hts := S.2.2.2.2
  have hr : meth.sig.returnType = some .int := hr
  refine lv_aload_n hx hb dX3_history_0 rfl (lv_at hl 0 rfl) ?_
  refine lv_iconst (v := 0) hx hb dX3_history_1 (by decide) ?_
  refine z_put S kX3 hK hM hS hJ.1 0 (by decide) kw_220 rfl rfl rfl (Nat.le_of_ble_eq_true rfl) dX3_history_2 (fun H locs hM hS => ?_)
  obtain ⟨M_1, eM_2⟩ : ∃ z : zMap, z = zu M m0 (oM 0 (nI co) ar (nI ac) gr) := ⟨_, rfl⟩
  replace hM : zM A G M_1 H := by rw [eM_2]; exact hM
  have hJ_3 : zJ G M_1 m0 ar 0 (nI co) (nI ac) gr F L := by rw [eM_2]; exact hJ.setO _ _ _ _
  refine lv_iconst (v := 0) hx hb dX3_history_5 (by decide) ?_
  refine lv_istore (lv' := [(4, .int 0), (0, .ref m0), (1, .int k), (2, .int i), (3, .int what)]) hx hb dX3_history_6 hl (by decide) rfl (fun ls hl => ?_)
  refine lv_iconst (v := 0) hx hb dX3_history_8 (by decide) ?_
  refine lv_istore (lv' := [(5, .int 0), (4, .int 0), (0, .ref m0), (1, .int k), (2, .int i), (3, .int what)]) hx hb dX3_history_9 hl (by decide) rfl (fun ls hl => ?_)
  refine z_loop (fun (t : Nat) ls H' locs' => t ≤ ac ∧ (¬ i < 0 → (zel (F 11) (F 12) (F 13) (L 14) k t).length ≤ i.toNatClampNeg) ∧ lv_has ls 6 [(5, .int (nI t)), (4, .int (nI (zel (F 11) (F 12) (F 13) (L 14) k t).length)), (0, .ref m0), (1, .int k), (2, .int i), (3, .int what)] ∧ zM A G M_1 H' ∧ va_S A s.heap H' locs') (fun t => ac - t) 0 ⟨Nat.zero_le _, fun _ => Nat.zero_le _, hl, hM, hS⟩ ?_
  rintro t ls H locs ⟨hta, hlen, hl, hM, hS⟩ ih
  have hct : (nI t).toNatClampNeg = t := nI_clamp (by omega)
  refine lv_iload hx hb dX3_history_11 (lv_at hl 0 rfl) ?_
  refine lv_aload_n hx hb dX3_history_13 rfl (lv_at hl 2 rfl) ?_
  refine z_get (v := .int (nI ac)) S kX3 hK hM hJ_3.1 13 (by decide) kw_233 rfl dX3_history_14 ?_
  refine lv_icmp_ge (tgt := 97) hx hb dX3_history_17 (by decide) (fun c_4 => ?_) (fun c_4 => ?_)
  · have hta2 : t = ac := by have := (nI_leI (by omega) (by omega)).mp c_4; omega
    refine lv_iconst (v := -1) hx hb dX3_history_97 (by decide) ?_
    exact z_iret S hr hlocks hM hS ⟨by rw [zhi_end hlen hta2], hJ_3⟩ (Nat.le_of_ble_eq_true rfl) (Nat.le_of_ble_eq_true rfl) dX3_history_98
  · have hta2 : t < ac := Nat.lt_of_not_le (fun q => c_4 (nI_le q (by omega)))
    refine lv_iload_n hx hb dX3_history_20 rfl (lv_at hl 4 rfl) ?_
    refine lv_if_lt (tgt := 97) hx hb dX3_history_21 (by decide) (fun c_5 => ?_) (fun c_5 => ?_)
    · refine lv_iconst (v := -1) hx hb dX3_history_97 (by decide) ?_
      exact z_iret S hr hlocks hM hS ⟨by rw [zhi_neg c_5], hJ_3⟩ (Nat.le_of_ble_eq_true rfl) (Nat.le_of_ble_eq_true rfl) dX3_history_98
    · refine lv_aload_n hx hb dX3_history_24 rfl (lv_at hl 2 rfl) ?_
      refine lv_iload_n hx hb dX3_history_25 rfl (lv_at hl 3 rfl) ?_
      refine z_callV (As := [.int k]) (rest := []) S (c_X3_isCopy l A G M_1 m0 ar 0 co ac gr F L k hJ_3 hco) ok_X3_isCopy kw_307 kw_309 ks_7 ⟨Nat.le_of_ble_eq_true rfl, Nat.le_of_ble_eq_true rfl⟩ hK hM hS hA hJ_3.1 rfl rfl hl.1 rfl (Nat.le_of_ble_eq_true rfl) dX3_history_26 ⟨Nat.le_of_ble_eq_true rfl, Nat.le_of_ble_eq_true rfl⟩ (fun r_8 M_6 H locs hp_7 hM hS => ?_)
      obtain ⟨rfl, hM9⟩ := hp_7
      rw [hM9] at hM
      refine W.eq (g2 := F0 m 29 ls [.int (zb ((zIx co k).isSome = true))]) rfl ?_
      refine lv_if_eq (tgt := 97) hx hb dX3_history_29 (by decide) (fun c_9 => ?_) (fun c_9 => ?_)
      · rw [zb_0] at c_9
        have hz := zisN c_9
        refine lv_iconst (v := -1) hx hb dX3_history_97 (by decide) ?_
        exact z_iret S hr hlocks hM hS ⟨by rw [zsel_n hz], hJ_3⟩ (Nat.le_of_ble_eq_true rfl) (Nat.le_of_ble_eq_true rfl) dX3_history_98
      · rw [zb_0n] at c_9
        obtain ⟨j, hz⟩ := zisS c_9
        obtain ⟨hj, rfl⟩ := zIx_some hco hz
        refine lv_aload_n hx hb dX3_history_32 rfl (lv_at hl 2 rfl) ?_
        refine z_get (v := .ref (ar 11)) S kX3 hK hM hJ_3.1 14 (by decide) kw_234 rfl dX3_history_33 ?_
        refine lv_iload hx hb dX3_history_36 (lv_at hl 0 rfl) ?_
        refine z_iald S hK hM 0 (show M_1 (ar 11) = some (.inl (G.2.2 0, 5000, .inl (F 11))) from hJ_3.2.1 11 (by decide)) rfl (zvp5 hta2 hac) dX3_history_38 ?_
        rw [hct]
        refine lv_iload_n hx hb dX3_history_39 rfl (lv_at hl 3 rfl) ?_
        refine lv_icmp_ne (tgt := 91) hx hb dX3_history_40 (by decide) (fun c_10 => ?_) (fun c_10 => ?_)
        · refine lv_iinc (v := (nI t) + 1) (lv' := [(5, .int ((nI t) + 1)), (4, .int (nI (zel (F 11) (F 12) (F 13) (L 14) (nI (j + 1)) t).length)), (0, .ref m0), (1, .int (nI (j + 1))), (2, .int i), (3, .int what)]) hx hb dX3_history_91 hl (k := 0) rfl rfl (by decide) rfl (fun ls hl => ?_)
          refine lv_goto (tgt := 11) hx hb dX3_history_94 (by decide) ?_
          exact ih (t + 1) ls _ _ ⟨by omega, fun _ => by rw [zel, if_neg c_10, List.append_nil]; exact hlen c_5, by
            have h7 := lv_sub hl [0, 1, 2, 3, 4, 5] rfl
            rw [← nI_1 t, zel, if_neg c_10, List.append_nil]
            exact h7, hM, hS⟩ (by omega)
        · refine lv_iload hx hb dX3_history_43 (lv_at hl 1 rfl) ?_
          refine lv_iload_n hx hb dX3_history_45 rfl (lv_at hl 4 rfl) ?_
          refine lv_icmp_ne (tgt := 88) hx hb dX3_history_46 (by decide) (fun c_11 => ?_) (fun c_11 => ?_)
          · refine lv_iinc (v := (nI (zel (F 11) (F 12) (F 13) (L 14) (nI (j + 1)) t).length) + 1) (lv' := [(4, .int ((nI (zel (F 11) (F 12) (F 13) (L 14) (nI (j + 1)) t).length) + 1)), (5, .int (nI t)), (0, .ref m0), (1, .int (nI (j + 1))), (2, .int i), (3, .int what)]) hx hb dX3_history_88 hl (k := 1) rfl rfl (by decide) rfl (fun ls hl => ?_)
            refine lv_iinc (v := (nI t) + 1) (lv' := [(5, .int ((nI t) + 1)), (4, .int ((nI (zel (F 11) (F 12) (F 13) (L 14) (nI (j + 1)) t).length) + 1)), (0, .ref m0), (1, .int (nI (j + 1))), (2, .int i), (3, .int what)]) hx hb dX3_history_91 hl (k := 1) rfl rfl (by decide) rfl (fun ls hl => ?_)
            refine lv_goto (tgt := 11) hx hb dX3_history_94 (by decide) ?_
            have hlt : (zel (F 11) (F 12) (F 13) (L 14) (nI (j + 1)) t).length ≠ i.toNatClampNeg := fun q => c_11 (by rw [q]; exact nI_of_clamp c_5)
            exact ih (t + 1) ls _ _ ⟨by omega, fun _ => by
              rw [zel, if_pos c_10, List.length_append]
              have h8 := hlen c_5
              simp only [List.length_cons, List.length_nil]
              omega, by
              have h7 := lv_sub hl [0, 1, 2, 3, 4, 5] rfl
              rw [zel, if_pos c_10, List.length_append]
              rw [nI_1 t, nI_1] at h7
              exact h7, hM, hS⟩ (by omega)
          · refine lv_iload_n hx hb dX3_history_49 rfl (lv_at hl 5 rfl) ?_
            refine lv_if_ne (tgt := 63) hx hb dX3_history_50 (by decide) (fun c_12 => ?_) (fun c_12 => ?_)
            · refine lv_iload_n hx hb dX3_history_63 rfl (lv_at hl 5 rfl) ?_
              refine lv_iconst (v := 1) hx hb dX3_history_64 (by decide) ?_
              refine lv_icmp_ne (tgt := 86) hx hb dX3_history_65 (by decide) (fun c_13 => ?_) (fun c_13 => ?_)
              · refine lv_iconst (v := -1) hx hb dX3_history_86 (by decide) ?_
                exact z_iret S hr hlocks hM hS ⟨by rw [zsel_s hz, zhi_at c_5 hta2 c_10 (zclamp_of c_11 c_5 (by have h8 := zel_len (F 11) (F 12) (F 13) (L 14) (nI (j + 1)) t; omega))]; rw [zwhN c_12 c_13], hJ_3⟩ (Nat.le_of_ble_eq_true rfl) (Nat.le_of_ble_eq_true rfl) dX3_history_87
              · refine lv_aload_n hx hb dX3_history_68 rfl (lv_at hl 2 rfl) ?_
                refine z_get (v := .ref (ar 13)) S kX3 hK hM hJ_3.1 16 (by decide) kw_236 rfl dX3_history_69 ?_
                refine lv_iload hx hb dX3_history_72 (lv_at hl 0 rfl) ?_
                refine z_zald S hK hM 1 (show M_1 (ar 13) = some (.inl (G.2.2 1, 5000, .inl (F 13))) from hJ_3.2.1 13 (by decide)) rfl (zvp5 hta2 hac) dX3_history_74 ?_
                rw [hct]
                refine lv_if_eq (tgt := 82) hx hb dX3_history_75 (by decide) (fun c_14 => ?_) (fun c_14 => ?_)
                · refine lv_iconst (v := 0) hx hb dX3_history_82 (by decide) ?_
                  refine lv_goto (tgt := 87) hx hb dX3_history_83 (by decide) ?_
                  exact z_iret S hr hlocks hM hS ⟨by rw [zsel_s hz, zhi_at c_5 hta2 c_10 (zclamp_of c_11 c_5 (by have h8 := zel_len (F 11) (F 12) (F 13) (L 14) (nI (j + 1)) t; omega))]; rw [zwh1 c_13, zb_f (fun q => q c_14)], hJ_3⟩ (Nat.le_of_ble_eq_true rfl) (Nat.le_of_ble_eq_true rfl) dX3_history_87
                · refine lv_iconst (v := 1) hx hb dX3_history_78 (by decide) ?_
                  refine lv_goto (tgt := 87) hx hb dX3_history_79 (by decide) ?_
                  exact z_iret S hr hlocks hM hS ⟨by rw [zsel_s hz, zhi_at c_5 hta2 c_10 (zclamp_of c_11 c_5 (by have h8 := zel_len (F 11) (F 12) (F 13) (L 14) (nI (j + 1)) t; omega))]; rw [zwh1 c_13, zb_t c_14], hJ_3⟩ (Nat.le_of_ble_eq_true rfl) (Nat.le_of_ble_eq_true rfl) dX3_history_87
            · refine lv_aload_n hx hb dX3_history_53 rfl (lv_at hl 2 rfl) ?_
              refine z_get (v := .ref (ar 12)) S kX3 hK hM hJ_3.1 15 (by decide) kw_235 rfl dX3_history_54 ?_
              refine lv_iload hx hb dX3_history_57 (lv_at hl 0 rfl) ?_
              refine z_iald S hK hM 0 (show M_1 (ar 12) = some (.inl (G.2.2 0, 5000, .inl (F 12))) from hJ_3.2.1 12 (by decide)) rfl (zvp5 hta2 hac) dX3_history_59 ?_
              rw [hct]
              refine lv_goto (tgt := 87) hx hb dX3_history_60 (by decide) ?_
              exact z_iret S hr hlocks hM hS ⟨by rw [zsel_s hz, zhi_at c_5 hta2 c_10 (zclamp_of c_11 c_5 (by have h8 := zel_len (F 11) (F 12) (F 13) (L 14) (nI (j + 1)) t; omega))]; rw [zwh0 c_12], hJ_3⟩ (Nat.le_of_ble_eq_true rfl) (Nat.le_of_ble_eq_true rfl) dX3_history_87
set_option maxHeartbeats 4000000 in
set_option maxRecDepth 100000 in
theorem c_X3_act (l : Launch) (A : Nat → Prop) (G : zG) (M : zMap) (m0 : Nat) (ar : Nat → Nat) (th : Int32) (co ac : Nat) (gr : Int64) (F : Nat → Nat → Int32) (L : Nat → Nat → Int64) (k kind place : Int32) (day : Int64) (hJ : zJ G M m0 ar th (nI co) (nI ac) gr F L) (hco : co ≤ 80) (hac : ac < 4999) (hac5 : ac < 5000) (hbl : ∀ k, zbool (F 13 k)) (hty : ∀ j, j < co → zTy (F 0 (j + 1)) ∧ zPl (F 4 (j + 1))) : zMet l yX3_act cX3_act 9 (some .int) { frames := 1, cells := 0, slots := 0, locals := 40 } [.ref m0, .int k, .int kind, .int place, .long day] A G M (zBQ G m0 ar co ac gr F L k kind place day) := by
  refine zMet.of (by decide) (Nat.le_of_ble_eq_true rfl) ?_
  intro p e s m args below meth c ls S hr hlocks hnm hK hM hA hS hl
  have hl : lv_has ls 9 [(0, .ref m0), (1, .int k), (2, .int kind), (3, .int place), (4, .long day)] := hl
  have hx := S.1
  have hb := S.2.1
  have hown := S.2.2.2.1
  have hts := S.2.2.2.2
  have hr : meth.sig.returnType = some .int := hr
  refine lv_aload_n hx hb dX3_act_0 rfl (lv_at hl 0 rfl) ?_
  refine lv_iconst (v := 0) hx hb dX3_act_1 (by decide) ?_
  refine z_put S kX3 hK hM hS hJ.1 0 (by decide) kw_220 rfl rfl rfl (Nat.le_of_ble_eq_true rfl) dX3_act_2 (fun H locs hM hS => ?_)
  obtain ⟨M_1, eM_2⟩ : ∃ z : zMap, z = zu M m0 (oM 0 (nI co) ar (nI ac) gr) := ⟨_, rfl⟩
  replace hM : zM A G M_1 H := by rw [eM_2]; exact hM
  have hJ_3 : zJ G M_1 m0 ar 0 (nI co) (nI ac) gr F L := by rw [eM_2]; exact hJ.setO _ _ _ _
  refine lv_aload_n hx hb dX3_act_5 rfl (lv_at hl 0 rfl) ?_
  refine lv_iload_n hx hb dX3_act_6 rfl (lv_at hl 1 rfl) ?_
  refine z_callV (As := [.int k]) (rest := []) S (c_X3_isCopy l A G M_1 m0 ar 0 co ac gr F L k hJ_3 hco) ok_X3_isCopy kw_307 kw_309 ks_7 ⟨Nat.le_of_ble_eq_true rfl, Nat.le_of_ble_eq_true rfl⟩ hK hM hS hA hJ_3.1 rfl rfl hl.1 rfl (Nat.le_of_ble_eq_true rfl) dX3_act_7 ⟨Nat.le_of_ble_eq_true rfl, Nat.le_of_ble_eq_true rfl⟩ (fun r_6 M_4 H locs hp_5 hM hS => ?_)
  obtain ⟨rfl, hM9⟩ := hp_5
  rw [hM9] at hM
  refine W.eq (g2 := F0 m 10 ls [.int (zb ((zIx co k).isSome = true))]) rfl ?_
  refine lv_if_eq (tgt := 64) hx hb dX3_act_10 (by decide) (fun c_7 => ?_) (fun c_7 => ?_)
  · rw [zb_0] at c_7
    have hz := zisN c_7
    refine lv_iconst (v := -1) hx hb dX3_act_64 (by decide) ?_
    exact z_iret S hr hlocks hM hS (by unfold zBQ; rw [hz]; exact ⟨rfl, hJ_3⟩) (Nat.le_of_ble_eq_true rfl) (Nat.le_of_ble_eq_true rfl) dX3_act_65
  · rw [zb_0n] at c_7
    obtain ⟨j, hz⟩ := zisS c_7
    obtain ⟨hj, rfl⟩ := zIx_some hco hz
    have hcl : (nI (j + 1)).toNatClampNeg = j + 1 := nI_clamp (by omega)
    refine lv_iload_n hx hb dX3_act_13 rfl (lv_at hl 2 rfl) ?_
    refine lv_if_lt (tgt := 64) hx hb dX3_act_14 (by decide) (fun c_8 => ?_) (fun c_8 => ?_)
    · refine lv_iconst (v := -1) hx hb dX3_act_64 (by decide) ?_
      exact z_iret S hr hlocks hM hS (by unfold zBQ; rw [hz]; dsimp only; rw [if_neg (fun q => q.1 c_8)]; exact ⟨rfl, hJ_3⟩) (Nat.le_of_ble_eq_true rfl) (Nat.le_of_ble_eq_true rfl) dX3_act_65
    · refine lv_iload_n hx hb dX3_act_17 rfl (lv_at hl 2 rfl) ?_
      refine lv_bipush (v := 6) hx hb dX3_act_18 (by decide) ?_
      refine lv_icmp_gt (tgt := 64) hx hb dX3_act_20 (by decide) (fun c_9 => ?_) (fun c_9 => ?_)
      · refine lv_iconst (v := -1) hx hb dX3_act_64 (by decide) ?_
        exact z_iret S hr hlocks hM hS (by unfold zBQ; rw [hz]; dsimp only; rw [if_neg (fun q => q.2.1 c_9)]; exact ⟨rfl, hJ_3⟩) (Nat.le_of_ble_eq_true rfl) (Nat.le_of_ble_eq_true rfl) dX3_act_65
      · refine lv_lload hx hb dX3_act_23 (lv_at hl 4 rfl) ?_
        refine lv_lconst (v := 0) hx hb dX3_act_25 (by decide) ?_
        refine W.lcmp hx hb dX3_act_26 ?_
        refine lv_if_lt (tgt := 64) hx hb dX3_act_27 (by decide) (fun c_10 => ?_) (fun c_10 => ?_)
        · rw [lg_cmp_lt] at c_10
          refine lv_iconst (v := -1) hx hb dX3_act_64 (by decide) ?_
          exact z_iret S hr hlocks hM hS (by unfold zBQ; rw [hz]; dsimp only; rw [if_neg (fun q => q.2.2.1 c_10)]; exact ⟨rfl, hJ_3⟩) (Nat.le_of_ble_eq_true rfl) (Nat.le_of_ble_eq_true rfl) dX3_act_65
        · rw [lg_cmp_lt] at c_10
          refine lv_lload hx hb dX3_act_30 (lv_at hl 4 rfl) ?_
          refine lv_ldc2 (v := 1000000000000) hx hb hown (hts _ kw_319) dX3_act_32 ?_
          refine W.lcmp hx hb dX3_act_35 ?_
          refine lv_if_gt (tgt := 64) hx hb dX3_act_36 (by decide) (fun c_11 => ?_) (fun c_11 => ?_)
          · rw [lg_cmp_gt] at c_11
            refine lv_iconst (v := -1) hx hb dX3_act_64 (by decide) ?_
            exact z_iret S hr hlocks hM hS (by unfold zBQ; rw [hz]; dsimp only; rw [if_neg (fun q => q.2.2.2.1 c_11)]; exact ⟨rfl, hJ_3⟩) (Nat.le_of_ble_eq_true rfl) (Nat.le_of_ble_eq_true rfl) dX3_act_65
          · rw [lg_cmp_gt] at c_11
            refine lv_iload_n hx hb dX3_act_39 rfl (lv_at hl 2 rfl) ?_
            refine lv_iconst (v := 2) hx hb dX3_act_40 (by decide) ?_
            refine lv_icmp_ne (tgt := 66) hx hb dX3_act_41 (by decide) (fun c_12 => ?_) (fun c_12 => ?_)
            · refine lv_lload hx hb dX3_act_66 (lv_at hl 4 rfl) ?_
              refine lv_aload_n hx hb dX3_act_68 rfl (lv_at hl 0 rfl) ?_
              refine z_get (v := .long gr) S kX3 hK hM hJ_3.1 18 (by decide) kw_238 rfl dX3_act_69 ?_
              refine W.lcmp hx hb dX3_act_72 ?_
              refine lv_if_ge (tgt := 80) hx hb dX3_act_73 (by decide) (fun c_13 => ?_) (fun c_13 => ?_)
              · rw [lg_cmp_ge] at c_13
                refine lv_iconst (v := 0) hx hb dX3_act_80 (by decide) ?_
                refine lv_istore (lv' := [(6, .int 0), (0, .ref m0), (1, .int (nI (j + 1))), (2, .int kind), (3, .int place), (4, .long day)]) hx hb dX3_act_81 hl (by decide) rfl (fun ls hl => ?_)
                refine lv_iload hx hb dX3_act_83 (lv_at hl 0 rfl) ?_
                refine lv_if_eq (tgt := 98) hx hb dX3_act_85 (by decide) (fun c_14 => ?_) (fun c_14 => absurd c_14 (by decide))
                refine lv_iconst (v := -1) hx hb dX3_act_98 (by decide) ?_
                refine lv_istore (lv' := [(7, .int (-1)), (6, .int 0), (0, .ref m0), (1, .int (nI (j + 1))), (2, .int kind), (3, .int place), (4, .long day)]) hx hb dX3_act_99 hl (by decide) rfl (fun ls hl => ?_)
                refine lv_iload hx hb dX3_act_101 (lv_at hl 1 rfl) ?_
                refine lv_if_ne (tgt := 115) hx hb dX3_act_103 (by decide) (fun c_15 => absurd c_15 (by decide)) (fun c_15 => ?_)
                refine lv_aload_n hx hb dX3_act_106 rfl (lv_at hl 2 rfl) ?_
                refine z_get (v := .ref (ar 5)) S kX3 hK hM hJ_3.1 7 (by decide) kw_227 rfl dX3_act_107 ?_
                refine lv_iload_n hx hb dX3_act_110 rfl (lv_at hl 3 rfl) ?_
                refine z_iald S hK hM 0 (show M_1 (ar 5) = some (.inl (G.2.2 0, 81, .inl (F 5))) from hJ_3.2.1 5 (by decide)) rfl (zvp81 hj hco) dX3_act_111 ?_
                rw [hcl]
                refine lv_goto (tgt := 132) hx hb dX3_act_112 (by decide) ?_
                refine lv_istore (lv' := [(8, .int (F 5 (j + 1))), (7, .int (-1)), (6, .int 0), (0, .ref m0), (1, .int (nI (j + 1))), (2, .int kind), (3, .int place), (4, .long day)]) hx hb dX3_act_132 hl (by decide) rfl (fun ls hl => ?_)
                refine lv_iload_n hx hb dX3_act_134 rfl (lv_at hl 5 rfl) ?_
                refine lv_iload hx hb dX3_act_135 (lv_at hl 0 rfl) ?_
                refine z_callS (As := [.int kind, .int (F 5 (j + 1))]) (rest := []) S (c_X3_follows l A G M_1 kind (F 5 (j + 1))) ok_X3_follows kw_320 kw_321 ⟨Nat.le_of_ble_eq_true rfl, Nat.le_of_ble_eq_true rfl⟩ hK hM hS hA rfl hl.1 rfl (Nat.le_of_ble_eq_true rfl) dX3_act_137 ⟨Nat.le_of_ble_eq_true rfl, Nat.le_of_ble_eq_true rfl⟩ (fun r_18 M_16 H locs hp_17 hM hS => ?_)
                obtain ⟨rfl, hM9⟩ := hp_17
                rw [hM9] at hM
                refine W.eq (g2 := F0 m 140 ls [.int (zb (zFm kind (F 5 (j + 1))))]) rfl ?_
                refine lv_if_ne (tgt := 146) hx hb dX3_act_140 (by decide) (fun c_19 => ?_) (fun c_19 => ?_)
                · rw [zb_0n] at c_19
                  refine lv_iload_n hx hb dX3_act_146 rfl (lv_at hl 5 rfl) ?_
                  refine lv_iconst (v := 2) hx hb dX3_act_147 (by decide) ?_
                  refine lv_icmp_ne (tgt := 170) hx hb dX3_act_148 (by decide) (fun c_20 => ?_) (fun c_20 => ?_)
                  · refine lv_iload_n hx hb dX3_act_170 rfl (lv_at hl 5 rfl) ?_
                    refine lv_if_ne (tgt := 212) hx hb dX3_act_171 (by decide) (fun c_21 => ?_) (fun c_21 => ?_)
                    · refine lv_aload_n hx hb dX3_act_212 rfl (lv_at hl 3 rfl) ?_
                      refine lv_iload_n hx hb dX3_act_213 rfl (lv_at hl 4 rfl) ?_
                      refine lv_iload_n hx hb dX3_act_214 rfl (lv_at hl 5 rfl) ?_
                      refine lv_iload hx hb dX3_act_215 (lv_at hl 2 rfl) ?_
                      refine lv_lload hx hb dX3_act_217 (lv_at hl 7 rfl) ?_
                      refine z_callV (As := [.int (nI (j + 1)), .int kind, .int 0, .long day]) (rest := []) S (c_X3_enter l A G M_1 m0 ar 0 co ac gr F L (nI (j + 1)) kind 0 day hJ_3 hco (by omega) (Or.inl rfl) hbl) ok_X3_enter kw_323 kw_325 ks_9 ⟨Nat.le_of_ble_eq_true rfl, Nat.le_of_ble_eq_true rfl⟩ hK hM hS hA hJ_3.1 rfl rfl hl.1 rfl (Nat.le_of_ble_eq_true rfl) dX3_act_219 ⟨Nat.le_of_ble_eq_true rfl, Nat.le_of_ble_eq_true rfl⟩ (fun r_24 M_22 H locs hp_23 hM hS => ?_)
                      obtain ⟨rfl, hJ_25⟩ := hp_23
                      refine W.eq (g2 := F0 m 222 ls []) rfl ?_
                      refine lv_iload hx hb dX3_act_222 (lv_at hl 2 rfl) ?_
                      refine lv_if_eq (tgt := 229) hx hb dX3_act_224 (by decide) (fun c_26 => ?_) (fun c_26 => absurd c_26 (by decide))
                      refine lv_aload_n hx hb dX3_act_229 rfl (lv_at hl 3 rfl) ?_
                      refine z_get (v := .ref (ar 8)) S kX3 hK hM hJ_25.1 10 (by decide) kw_230 rfl dX3_act_230 ?_
                      refine lv_iload_n hx hb dX3_act_233 rfl (lv_at hl 4 rfl) ?_
                      refine lv_dup2_11 hx hb dX3_act_234 rfl rfl ?_
                      refine z_iald S hK hM 0 (show M_22 (ar 8) = some (.inl (G.2.2 0, 81, .inl (F 8))) from hJ_25.2.1 8 (by decide)) rfl (zvp81 hj hco) dX3_act_235 ?_
                      rw [hcl]
                      refine lv_iload_n hx hb dX3_act_236 rfl (lv_at hl 5 rfl) ?_
                      refine lv_bipush (v := 6) hx hb dX3_act_237 (by decide) ?_
                      refine lv_icmp_ne (tgt := 262) hx hb dX3_act_239 (by decide) (fun c_27 => ?_) (fun c_27 => ?_)
                      · refine lv_iconst (v := 0) hx hb dX3_act_262 (by decide) ?_
                        refine lv_iadd hx hb dX3_act_263 ?_
                        refine z_iast S hK hM hS 0 (show M_22 (ar 8) = some (.inl (G.2.2 0, 81, .inl (F 8))) from hJ_25.2.1 8 (by decide)) rfl (zvp81 hj hco) dX3_act_264 (fun H locs hM hS => ?_)
                        rw [hcl] at hM
                        obtain ⟨M_28, eM_29⟩ : ∃ z : zMap, z = zu M_22 (ar 8) (.inl ((G.2.2 0), 81, .inl (upd (F 8) (j + 1) ((F 8 (j + 1)) + 0)))) := ⟨_, rfl⟩
                        replace hM : zM A G M_28 H := by rw [eM_29]; exact hM
                        have hJ_30 : zJ G M_28 m0 ar 0 (nI co) (nI (ac + 1)) (if day ≤ gr then gr else day) (zuf (zEN F (zps (L 14) day ac) ac (nI (j + 1)) kind 0) 8 (upd (F 8) (j + 1) ((F 8 (j + 1)) + 0))) (zuf L 14 (zpi (L 14) (zps (L 14) day ac) ac day)) := by rw [eM_29]; exact hJ_25.setI 8 (by decide) rfl _
                        refine lv_aload_n hx hb dX3_act_265 rfl (lv_at hl 3 rfl) ?_
                        refine z_get (v := .ref (ar 5)) S kX3 hK hM hJ_30.1 7 (by decide) kw_227 rfl dX3_act_266 ?_
                        refine lv_iload_n hx hb dX3_act_269 rfl (lv_at hl 4 rfl) ?_
                        refine lv_iload_n hx hb dX3_act_270 rfl (lv_at hl 5 rfl) ?_
                        refine z_iast S hK hM hS 0 (show M_28 (ar 5) = some (.inl (G.2.2 0, 81, .inl (F 5))) from hJ_30.2.1 5 (by decide)) rfl (zvp81 hj hco) dX3_act_271 (fun H locs hM hS => ?_)
                        rw [hcl] at hM
                        obtain ⟨M_31, eM_32⟩ : ∃ z : zMap, z = zu M_28 (ar 5) (.inl ((G.2.2 0), 81, .inl (upd (F 5) (j + 1) kind))) := ⟨_, rfl⟩
                        replace hM : zM A G M_31 H := by rw [eM_32]; exact hM
                        have hJ_33 : zJ G M_31 m0 ar 0 (nI co) (nI (ac + 1)) (if day ≤ gr then gr else day) (zuf (zuf (zEN F (zps (L 14) day ac) ac (nI (j + 1)) kind 0) 8 (upd (F 8) (j + 1) ((F 8 (j + 1)) + 0))) 5 (upd (F 5) (j + 1) kind)) (zuf L 14 (zpi (L 14) (zps (L 14) day ac) ac day)) := by rw [eM_32]; exact hJ_30.setI 5 (by decide) rfl _
                        refine lv_aload_n hx hb dX3_act_272 rfl (lv_at hl 3 rfl) ?_
                        refine z_get (v := .ref (ar 4)) S kX3 hK hM hJ_33.1 6 (by decide) kw_226 rfl dX3_act_273 ?_
                        refine lv_iload_n hx hb dX3_act_276 rfl (lv_at hl 4 rfl) ?_
                        refine lv_iload_n hx hb dX3_act_277 rfl (lv_at hl 5 rfl) ?_
                        refine lv_iconst (v := 2) hx hb dX3_act_278 (by decide) ?_
                        refine lv_icmp_ne (tgt := 286) hx hb dX3_act_279 (by decide) (fun c_34 => ?_) (fun c_34 => ?_)
                        · refine lv_aload_n hx hb dX3_act_286 rfl (lv_at hl 3 rfl) ?_
                          refine z_get (v := .ref (ar 4)) S kX3 hK hM hJ_33.1 6 (by decide) kw_226 rfl dX3_act_287 ?_
                          refine lv_iload_n hx hb dX3_act_290 rfl (lv_at hl 4 rfl) ?_
                          refine z_iald S hK hM 0 (show M_31 (ar 4) = some (.inl (G.2.2 0, 81, .inl (F 4))) from hJ_33.2.1 4 (by decide)) rfl (zvp81 hj hco) dX3_act_291 ?_
                          rw [hcl]
                          refine z_iast S hK hM hS 0 (show M_31 (ar 4) = some (.inl (G.2.2 0, 81, .inl (F 4))) from hJ_33.2.1 4 (by decide)) rfl (zvp81 hj hco) dX3_act_292 (fun H locs hM hS => ?_)
                          rw [hcl] at hM
                          obtain ⟨M_35, eM_36⟩ : ∃ z : zMap, z = zu M_31 (ar 4) (.inl ((G.2.2 0), 81, .inl (upd (F 4) (j + 1) (F 4 (j + 1))))) := ⟨_, rfl⟩
                          replace hM : zM A G M_35 H := by rw [eM_36]; exact hM
                          have hJ_37 : zJ G M_35 m0 ar 0 (nI co) (nI (ac + 1)) (if day ≤ gr then gr else day) (zuf (zuf (zuf (zEN F (zps (L 14) day ac) ac (nI (j + 1)) kind 0) 8 (upd (F 8) (j + 1) ((F 8 (j + 1)) + 0))) 5 (upd (F 5) (j + 1) kind)) 4 (upd (F 4) (j + 1) (F 4 (j + 1)))) (zuf L 14 (zpi (L 14) (zps (L 14) day ac) ac day)) := by rw [eM_36]; exact hJ_33.setI 4 (by decide) rfl _
                          refine lv_aload_n hx hb dX3_act_293 rfl (lv_at hl 3 rfl) ?_
                          refine z_get (v := .ref (ar 3)) S kX3 hK hM hJ_37.1 5 (by decide) kw_225 rfl dX3_act_294 ?_
                          refine lv_iload_n hx hb dX3_act_297 rfl (lv_at hl 4 rfl) ?_
                          refine lv_iload_n hx hb dX3_act_298 rfl (lv_at hl 5 rfl) ?_
                          refine lv_if_ne (tgt := 320) hx hb dX3_act_299 (by decide) (fun c_38 => ?_) (fun c_38 => ?_)
                          · refine lv_aload_n hx hb dX3_act_320 rfl (lv_at hl 3 rfl) ?_
                            refine z_get (v := .ref (ar 3)) S kX3 hK hM hJ_37.1 5 (by decide) kw_225 rfl dX3_act_321 ?_
                            refine lv_iload_n hx hb dX3_act_324 rfl (lv_at hl 4 rfl) ?_
                            refine z_iald S hK hM 0 (show M_35 (ar 3) = some (.inl (G.2.2 0, 81, .inl (F 3))) from hJ_37.2.1 3 (by decide)) rfl (zvp81 hj hco) dX3_act_325 ?_
                            rw [hcl]
                            refine z_iast S hK hM hS 0 (show M_35 (ar 3) = some (.inl (G.2.2 0, 81, .inl (F 3))) from hJ_37.2.1 3 (by decide)) rfl (zvp81 hj hco) dX3_act_326 (fun H locs hM hS => ?_)
                            rw [hcl] at hM
                            obtain ⟨M_39, eM_40⟩ : ∃ z : zMap, z = zu M_35 (ar 3) (.inl ((G.2.2 0), 81, .inl (upd (F 3) (j + 1) (F 3 (j + 1))))) := ⟨_, rfl⟩
                            replace hM : zM A G M_39 H := by rw [eM_40]; exact hM
                            have hJ_41 : zJ G M_39 m0 ar 0 (nI co) (nI (ac + 1)) (if day ≤ gr then gr else day) (zuf (zuf (zuf (zuf (zEN F (zps (L 14) day ac) ac (nI (j + 1)) kind 0) 8 (upd (F 8) (j + 1) ((F 8 (j + 1)) + 0))) 5 (upd (F 5) (j + 1) kind)) 4 (upd (F 4) (j + 1) (F 4 (j + 1)))) 3 (upd (F 3) (j + 1) (F 3 (j + 1)))) (zuf L 14 (zpi (L 14) (zps (L 14) day ac) ac day)) := by rw [eM_40]; exact hJ_37.setI 3 (by decide) rfl _
                            refine lv_aload_n hx hb dX3_act_327 rfl (lv_at hl 3 rfl) ?_
                            refine z_get (v := .ref (ar 7)) S kX3 hK hM hJ_41.1 9 (by decide) kw_229 rfl dX3_act_328 ?_
                            refine lv_iload_n hx hb dX3_act_331 rfl (lv_at hl 4 rfl) ?_
                            refine lv_iconst (v := -1) hx hb dX3_act_332 (by decide) ?_
                            refine z_iast S hK hM hS 0 (show M_39 (ar 7) = some (.inl (G.2.2 0, 81, .inl (F 7))) from hJ_41.2.1 7 (by decide)) rfl (zvp81 hj hco) dX3_act_333 (fun H locs hM hS => ?_)
                            rw [hcl] at hM
                            obtain ⟨M_42, eM_43⟩ : ∃ z : zMap, z = zu M_39 (ar 7) (.inl ((G.2.2 0), 81, .inl (upd (F 7) (j + 1) (-1)))) := ⟨_, rfl⟩
                            replace hM : zM A G M_42 H := by rw [eM_43]; exact hM
                            have hJ_44 : zJ G M_42 m0 ar 0 (nI co) (nI (ac + 1)) (if day ≤ gr then gr else day) (zuf (zuf (zuf (zuf (zuf (zEN F (zps (L 14) day ac) ac (nI (j + 1)) kind 0) 8 (upd (F 8) (j + 1) ((F 8 (j + 1)) + 0))) 5 (upd (F 5) (j + 1) kind)) 4 (upd (F 4) (j + 1) (F 4 (j + 1)))) 3 (upd (F 3) (j + 1) (F 3 (j + 1)))) 7 (upd (F 7) (j + 1) (-1))) (zuf L 14 (zpi (L 14) (zps (L 14) day ac) ac day)) := by rw [eM_43]; exact hJ_41.setI 7 (by decide) rfl _
                            refine lv_iload_n hx hb dX3_act_334 rfl (lv_at hl 5 rfl) ?_
                            exact z_iret S hr hlocks hM hS (by unfold zBQ; rw [hz]; dsimp only; rw [if_pos ⟨c_8, c_9, c_10, c_11, fun q => absurd q c_12⟩, zBe_n (Int64.not_lt.mpr c_13)]; rw [if_pos c_19]; rw [if_neg (fun q => q.elim (fun q => absurd q.1 c_20) (fun q => absurd q.1 c_21)), if_neg (Int64.not_lt.mpr c_13), zb_f (Int64.not_lt.mpr c_13)]; exact ⟨rfl, by rw [zCF_eq (F0 := zEN F (zps (L 14) day ac) ac (nI (j + 1)) kind 0) (j := j) (kind := kind) (place := place) (fro := F 5 (j + 1)) (if_neg (fun q => c_27 q.1)) (if_neg c_34) (if_neg (fun q => c_38 q.1))]; exact hJ_44⟩) (Nat.le_of_ble_eq_true rfl) (Nat.le_of_ble_eq_true rfl) dX3_act_335
                          · exact absurd c_38 c_21
                        · exact absurd c_34 c_20
                      · refine lv_iload hx hb dX3_act_242 (lv_at hl 0 rfl) ?_
                        refine lv_iconst (v := 1) hx hb dX3_act_244 (by decide) ?_
                        refine lv_icmp_ne (tgt := 262) hx hb dX3_act_245 (by decide) (fun c_45 => ?_) (fun c_45 => ?_)
                        · refine lv_iconst (v := 0) hx hb dX3_act_262 (by decide) ?_
                          refine lv_iadd hx hb dX3_act_263 ?_
                          refine z_iast S hK hM hS 0 (show M_22 (ar 8) = some (.inl (G.2.2 0, 81, .inl (F 8))) from hJ_25.2.1 8 (by decide)) rfl (zvp81 hj hco) dX3_act_264 (fun H locs hM hS => ?_)
                          rw [hcl] at hM
                          obtain ⟨M_46, eM_47⟩ : ∃ z : zMap, z = zu M_22 (ar 8) (.inl ((G.2.2 0), 81, .inl (upd (F 8) (j + 1) ((F 8 (j + 1)) + 0)))) := ⟨_, rfl⟩
                          replace hM : zM A G M_46 H := by rw [eM_47]; exact hM
                          have hJ_48 : zJ G M_46 m0 ar 0 (nI co) (nI (ac + 1)) (if day ≤ gr then gr else day) (zuf (zEN F (zps (L 14) day ac) ac (nI (j + 1)) kind 0) 8 (upd (F 8) (j + 1) ((F 8 (j + 1)) + 0))) (zuf L 14 (zpi (L 14) (zps (L 14) day ac) ac day)) := by rw [eM_47]; exact hJ_25.setI 8 (by decide) rfl _
                          refine lv_aload_n hx hb dX3_act_265 rfl (lv_at hl 3 rfl) ?_
                          refine z_get (v := .ref (ar 5)) S kX3 hK hM hJ_48.1 7 (by decide) kw_227 rfl dX3_act_266 ?_
                          refine lv_iload_n hx hb dX3_act_269 rfl (lv_at hl 4 rfl) ?_
                          refine lv_iload_n hx hb dX3_act_270 rfl (lv_at hl 5 rfl) ?_
                          refine z_iast S hK hM hS 0 (show M_46 (ar 5) = some (.inl (G.2.2 0, 81, .inl (F 5))) from hJ_48.2.1 5 (by decide)) rfl (zvp81 hj hco) dX3_act_271 (fun H locs hM hS => ?_)
                          rw [hcl] at hM
                          obtain ⟨M_49, eM_50⟩ : ∃ z : zMap, z = zu M_46 (ar 5) (.inl ((G.2.2 0), 81, .inl (upd (F 5) (j + 1) kind))) := ⟨_, rfl⟩
                          replace hM : zM A G M_49 H := by rw [eM_50]; exact hM
                          have hJ_51 : zJ G M_49 m0 ar 0 (nI co) (nI (ac + 1)) (if day ≤ gr then gr else day) (zuf (zuf (zEN F (zps (L 14) day ac) ac (nI (j + 1)) kind 0) 8 (upd (F 8) (j + 1) ((F 8 (j + 1)) + 0))) 5 (upd (F 5) (j + 1) kind)) (zuf L 14 (zpi (L 14) (zps (L 14) day ac) ac day)) := by rw [eM_50]; exact hJ_48.setI 5 (by decide) rfl _
                          refine lv_aload_n hx hb dX3_act_272 rfl (lv_at hl 3 rfl) ?_
                          refine z_get (v := .ref (ar 4)) S kX3 hK hM hJ_51.1 6 (by decide) kw_226 rfl dX3_act_273 ?_
                          refine lv_iload_n hx hb dX3_act_276 rfl (lv_at hl 4 rfl) ?_
                          refine lv_iload_n hx hb dX3_act_277 rfl (lv_at hl 5 rfl) ?_
                          refine lv_iconst (v := 2) hx hb dX3_act_278 (by decide) ?_
                          refine lv_icmp_ne (tgt := 286) hx hb dX3_act_279 (by decide) (fun c_52 => ?_) (fun c_52 => ?_)
                          · refine lv_aload_n hx hb dX3_act_286 rfl (lv_at hl 3 rfl) ?_
                            refine z_get (v := .ref (ar 4)) S kX3 hK hM hJ_51.1 6 (by decide) kw_226 rfl dX3_act_287 ?_
                            refine lv_iload_n hx hb dX3_act_290 rfl (lv_at hl 4 rfl) ?_
                            refine z_iald S hK hM 0 (show M_49 (ar 4) = some (.inl (G.2.2 0, 81, .inl (F 4))) from hJ_51.2.1 4 (by decide)) rfl (zvp81 hj hco) dX3_act_291 ?_
                            rw [hcl]
                            refine z_iast S hK hM hS 0 (show M_49 (ar 4) = some (.inl (G.2.2 0, 81, .inl (F 4))) from hJ_51.2.1 4 (by decide)) rfl (zvp81 hj hco) dX3_act_292 (fun H locs hM hS => ?_)
                            rw [hcl] at hM
                            obtain ⟨M_53, eM_54⟩ : ∃ z : zMap, z = zu M_49 (ar 4) (.inl ((G.2.2 0), 81, .inl (upd (F 4) (j + 1) (F 4 (j + 1))))) := ⟨_, rfl⟩
                            replace hM : zM A G M_53 H := by rw [eM_54]; exact hM
                            have hJ_55 : zJ G M_53 m0 ar 0 (nI co) (nI (ac + 1)) (if day ≤ gr then gr else day) (zuf (zuf (zuf (zEN F (zps (L 14) day ac) ac (nI (j + 1)) kind 0) 8 (upd (F 8) (j + 1) ((F 8 (j + 1)) + 0))) 5 (upd (F 5) (j + 1) kind)) 4 (upd (F 4) (j + 1) (F 4 (j + 1)))) (zuf L 14 (zpi (L 14) (zps (L 14) day ac) ac day)) := by rw [eM_54]; exact hJ_51.setI 4 (by decide) rfl _
                            refine lv_aload_n hx hb dX3_act_293 rfl (lv_at hl 3 rfl) ?_
                            refine z_get (v := .ref (ar 3)) S kX3 hK hM hJ_55.1 5 (by decide) kw_225 rfl dX3_act_294 ?_
                            refine lv_iload_n hx hb dX3_act_297 rfl (lv_at hl 4 rfl) ?_
                            refine lv_iload_n hx hb dX3_act_298 rfl (lv_at hl 5 rfl) ?_
                            refine lv_if_ne (tgt := 320) hx hb dX3_act_299 (by decide) (fun c_56 => ?_) (fun c_56 => ?_)
                            · refine lv_aload_n hx hb dX3_act_320 rfl (lv_at hl 3 rfl) ?_
                              refine z_get (v := .ref (ar 3)) S kX3 hK hM hJ_55.1 5 (by decide) kw_225 rfl dX3_act_321 ?_
                              refine lv_iload_n hx hb dX3_act_324 rfl (lv_at hl 4 rfl) ?_
                              refine z_iald S hK hM 0 (show M_53 (ar 3) = some (.inl (G.2.2 0, 81, .inl (F 3))) from hJ_55.2.1 3 (by decide)) rfl (zvp81 hj hco) dX3_act_325 ?_
                              rw [hcl]
                              refine z_iast S hK hM hS 0 (show M_53 (ar 3) = some (.inl (G.2.2 0, 81, .inl (F 3))) from hJ_55.2.1 3 (by decide)) rfl (zvp81 hj hco) dX3_act_326 (fun H locs hM hS => ?_)
                              rw [hcl] at hM
                              obtain ⟨M_57, eM_58⟩ : ∃ z : zMap, z = zu M_53 (ar 3) (.inl ((G.2.2 0), 81, .inl (upd (F 3) (j + 1) (F 3 (j + 1))))) := ⟨_, rfl⟩
                              replace hM : zM A G M_57 H := by rw [eM_58]; exact hM
                              have hJ_59 : zJ G M_57 m0 ar 0 (nI co) (nI (ac + 1)) (if day ≤ gr then gr else day) (zuf (zuf (zuf (zuf (zEN F (zps (L 14) day ac) ac (nI (j + 1)) kind 0) 8 (upd (F 8) (j + 1) ((F 8 (j + 1)) + 0))) 5 (upd (F 5) (j + 1) kind)) 4 (upd (F 4) (j + 1) (F 4 (j + 1)))) 3 (upd (F 3) (j + 1) (F 3 (j + 1)))) (zuf L 14 (zpi (L 14) (zps (L 14) day ac) ac day)) := by rw [eM_58]; exact hJ_55.setI 3 (by decide) rfl _
                              refine lv_aload_n hx hb dX3_act_327 rfl (lv_at hl 3 rfl) ?_
                              refine z_get (v := .ref (ar 7)) S kX3 hK hM hJ_59.1 9 (by decide) kw_229 rfl dX3_act_328 ?_
                              refine lv_iload_n hx hb dX3_act_331 rfl (lv_at hl 4 rfl) ?_
                              refine lv_iconst (v := -1) hx hb dX3_act_332 (by decide) ?_
                              refine z_iast S hK hM hS 0 (show M_57 (ar 7) = some (.inl (G.2.2 0, 81, .inl (F 7))) from hJ_59.2.1 7 (by decide)) rfl (zvp81 hj hco) dX3_act_333 (fun H locs hM hS => ?_)
                              rw [hcl] at hM
                              obtain ⟨M_60, eM_61⟩ : ∃ z : zMap, z = zu M_57 (ar 7) (.inl ((G.2.2 0), 81, .inl (upd (F 7) (j + 1) (-1)))) := ⟨_, rfl⟩
                              replace hM : zM A G M_60 H := by rw [eM_61]; exact hM
                              have hJ_62 : zJ G M_60 m0 ar 0 (nI co) (nI (ac + 1)) (if day ≤ gr then gr else day) (zuf (zuf (zuf (zuf (zuf (zEN F (zps (L 14) day ac) ac (nI (j + 1)) kind 0) 8 (upd (F 8) (j + 1) ((F 8 (j + 1)) + 0))) 5 (upd (F 5) (j + 1) kind)) 4 (upd (F 4) (j + 1) (F 4 (j + 1)))) 3 (upd (F 3) (j + 1) (F 3 (j + 1)))) 7 (upd (F 7) (j + 1) (-1))) (zuf L 14 (zpi (L 14) (zps (L 14) day ac) ac day)) := by rw [eM_61]; exact hJ_59.setI 7 (by decide) rfl _
                              refine lv_iload_n hx hb dX3_act_334 rfl (lv_at hl 5 rfl) ?_
                              exact z_iret S hr hlocks hM hS (by unfold zBQ; rw [hz]; dsimp only; rw [if_pos ⟨c_8, c_9, c_10, c_11, fun q => absurd q c_12⟩, zBe_n (Int64.not_lt.mpr c_13)]; rw [if_pos c_19]; rw [if_neg (fun q => q.elim (fun q => absurd q.1 c_20) (fun q => absurd q.1 c_21)), if_neg (Int64.not_lt.mpr c_13), zb_f (Int64.not_lt.mpr c_13)]; exact ⟨rfl, by rw [zCF_eq (F0 := zEN F (zps (L 14) day ac) ac (nI (j + 1)) kind 0) (j := j) (kind := kind) (place := place) (fro := F 5 (j + 1)) (if_neg (fun q => c_45 q.2)) (if_neg c_52) (if_neg (fun q => c_56 q.1))]; exact hJ_62⟩) (Nat.le_of_ble_eq_true rfl) (Nat.le_of_ble_eq_true rfl) dX3_act_335
                            · exact absurd (c_27.symm.trans c_56) (by decide)
                          · exact absurd (c_27.symm.trans c_52) (by decide)
                        · refine lv_aload_n hx hb dX3_act_248 rfl (lv_at hl 3 rfl) ?_
                          refine z_get (v := .ref (ar 10)) S kX3 hK hM hJ_25.1 12 (by decide) kw_232 rfl dX3_act_249 ?_
                          refine lv_aload_n hx hb dX3_act_252 rfl (lv_at hl 3 rfl) ?_
                          refine z_get (v := .ref (ar 0)) S kX3 hK hM hJ_25.1 2 (by decide) kw_222 rfl dX3_act_253 ?_
                          refine lv_iload_n hx hb dX3_act_256 rfl (lv_at hl 4 rfl) ?_
                          refine z_iald S hK hM 0 (show M_22 (ar 0) = some (.inl (G.2.2 0, 81, .inl (F 0))) from hJ_25.2.1 0 (by decide)) rfl (zvp81 hj hco) dX3_act_257 ?_
                          rw [hcl]
                          refine z_iald S hK hM 0 (show M_22 (ar 10) = some (.inl (G.2.2 0, 6, .inl (F 10))) from hJ_25.2.1 10 (by decide)) rfl (zTy_vp (hty j hj).1) dX3_act_258 ?_
                          refine lv_goto (tgt := 263) hx hb dX3_act_259 (by decide) ?_
                          refine lv_iadd hx hb dX3_act_263 ?_
                          refine z_iast S hK hM hS 0 (show M_22 (ar 8) = some (.inl (G.2.2 0, 81, .inl (F 8))) from hJ_25.2.1 8 (by decide)) rfl (zvp81 hj hco) dX3_act_264 (fun H locs hM hS => ?_)
                          rw [hcl] at hM
                          obtain ⟨M_63, eM_64⟩ : ∃ z : zMap, z = zu M_22 (ar 8) (.inl ((G.2.2 0), 81, .inl (upd (F 8) (j + 1) ((F 8 (j + 1)) + (F 10 (F 0 (j + 1)).toNatClampNeg))))) := ⟨_, rfl⟩
                          replace hM : zM A G M_63 H := by rw [eM_64]; exact hM
                          have hJ_65 : zJ G M_63 m0 ar 0 (nI co) (nI (ac + 1)) (if day ≤ gr then gr else day) (zuf (zEN F (zps (L 14) day ac) ac (nI (j + 1)) kind 0) 8 (upd (F 8) (j + 1) ((F 8 (j + 1)) + (F 10 (F 0 (j + 1)).toNatClampNeg)))) (zuf L 14 (zpi (L 14) (zps (L 14) day ac) ac day)) := by rw [eM_64]; exact hJ_25.setI 8 (by decide) rfl _
                          refine lv_aload_n hx hb dX3_act_265 rfl (lv_at hl 3 rfl) ?_
                          refine z_get (v := .ref (ar 5)) S kX3 hK hM hJ_65.1 7 (by decide) kw_227 rfl dX3_act_266 ?_
                          refine lv_iload_n hx hb dX3_act_269 rfl (lv_at hl 4 rfl) ?_
                          refine lv_iload_n hx hb dX3_act_270 rfl (lv_at hl 5 rfl) ?_
                          refine z_iast S hK hM hS 0 (show M_63 (ar 5) = some (.inl (G.2.2 0, 81, .inl (F 5))) from hJ_65.2.1 5 (by decide)) rfl (zvp81 hj hco) dX3_act_271 (fun H locs hM hS => ?_)
                          rw [hcl] at hM
                          obtain ⟨M_66, eM_67⟩ : ∃ z : zMap, z = zu M_63 (ar 5) (.inl ((G.2.2 0), 81, .inl (upd (F 5) (j + 1) kind))) := ⟨_, rfl⟩
                          replace hM : zM A G M_66 H := by rw [eM_67]; exact hM
                          have hJ_68 : zJ G M_66 m0 ar 0 (nI co) (nI (ac + 1)) (if day ≤ gr then gr else day) (zuf (zuf (zEN F (zps (L 14) day ac) ac (nI (j + 1)) kind 0) 8 (upd (F 8) (j + 1) ((F 8 (j + 1)) + (F 10 (F 0 (j + 1)).toNatClampNeg)))) 5 (upd (F 5) (j + 1) kind)) (zuf L 14 (zpi (L 14) (zps (L 14) day ac) ac day)) := by rw [eM_67]; exact hJ_65.setI 5 (by decide) rfl _
                          refine lv_aload_n hx hb dX3_act_272 rfl (lv_at hl 3 rfl) ?_
                          refine z_get (v := .ref (ar 4)) S kX3 hK hM hJ_68.1 6 (by decide) kw_226 rfl dX3_act_273 ?_
                          refine lv_iload_n hx hb dX3_act_276 rfl (lv_at hl 4 rfl) ?_
                          refine lv_iload_n hx hb dX3_act_277 rfl (lv_at hl 5 rfl) ?_
                          refine lv_iconst (v := 2) hx hb dX3_act_278 (by decide) ?_
                          refine lv_icmp_ne (tgt := 286) hx hb dX3_act_279 (by decide) (fun c_69 => ?_) (fun c_69 => ?_)
                          · refine lv_aload_n hx hb dX3_act_286 rfl (lv_at hl 3 rfl) ?_
                            refine z_get (v := .ref (ar 4)) S kX3 hK hM hJ_68.1 6 (by decide) kw_226 rfl dX3_act_287 ?_
                            refine lv_iload_n hx hb dX3_act_290 rfl (lv_at hl 4 rfl) ?_
                            refine z_iald S hK hM 0 (show M_66 (ar 4) = some (.inl (G.2.2 0, 81, .inl (F 4))) from hJ_68.2.1 4 (by decide)) rfl (zvp81 hj hco) dX3_act_291 ?_
                            rw [hcl]
                            refine z_iast S hK hM hS 0 (show M_66 (ar 4) = some (.inl (G.2.2 0, 81, .inl (F 4))) from hJ_68.2.1 4 (by decide)) rfl (zvp81 hj hco) dX3_act_292 (fun H locs hM hS => ?_)
                            rw [hcl] at hM
                            obtain ⟨M_70, eM_71⟩ : ∃ z : zMap, z = zu M_66 (ar 4) (.inl ((G.2.2 0), 81, .inl (upd (F 4) (j + 1) (F 4 (j + 1))))) := ⟨_, rfl⟩
                            replace hM : zM A G M_70 H := by rw [eM_71]; exact hM
                            have hJ_72 : zJ G M_70 m0 ar 0 (nI co) (nI (ac + 1)) (if day ≤ gr then gr else day) (zuf (zuf (zuf (zEN F (zps (L 14) day ac) ac (nI (j + 1)) kind 0) 8 (upd (F 8) (j + 1) ((F 8 (j + 1)) + (F 10 (F 0 (j + 1)).toNatClampNeg)))) 5 (upd (F 5) (j + 1) kind)) 4 (upd (F 4) (j + 1) (F 4 (j + 1)))) (zuf L 14 (zpi (L 14) (zps (L 14) day ac) ac day)) := by rw [eM_71]; exact hJ_68.setI 4 (by decide) rfl _
                            refine lv_aload_n hx hb dX3_act_293 rfl (lv_at hl 3 rfl) ?_
                            refine z_get (v := .ref (ar 3)) S kX3 hK hM hJ_72.1 5 (by decide) kw_225 rfl dX3_act_294 ?_
                            refine lv_iload_n hx hb dX3_act_297 rfl (lv_at hl 4 rfl) ?_
                            refine lv_iload_n hx hb dX3_act_298 rfl (lv_at hl 5 rfl) ?_
                            refine lv_if_ne (tgt := 320) hx hb dX3_act_299 (by decide) (fun c_73 => ?_) (fun c_73 => ?_)
                            · refine lv_aload_n hx hb dX3_act_320 rfl (lv_at hl 3 rfl) ?_
                              refine z_get (v := .ref (ar 3)) S kX3 hK hM hJ_72.1 5 (by decide) kw_225 rfl dX3_act_321 ?_
                              refine lv_iload_n hx hb dX3_act_324 rfl (lv_at hl 4 rfl) ?_
                              refine z_iald S hK hM 0 (show M_70 (ar 3) = some (.inl (G.2.2 0, 81, .inl (F 3))) from hJ_72.2.1 3 (by decide)) rfl (zvp81 hj hco) dX3_act_325 ?_
                              rw [hcl]
                              refine z_iast S hK hM hS 0 (show M_70 (ar 3) = some (.inl (G.2.2 0, 81, .inl (F 3))) from hJ_72.2.1 3 (by decide)) rfl (zvp81 hj hco) dX3_act_326 (fun H locs hM hS => ?_)
                              rw [hcl] at hM
                              obtain ⟨M_74, eM_75⟩ : ∃ z : zMap, z = zu M_70 (ar 3) (.inl ((G.2.2 0), 81, .inl (upd (F 3) (j + 1) (F 3 (j + 1))))) := ⟨_, rfl⟩
                              replace hM : zM A G M_74 H := by rw [eM_75]; exact hM
                              have hJ_76 : zJ G M_74 m0 ar 0 (nI co) (nI (ac + 1)) (if day ≤ gr then gr else day) (zuf (zuf (zuf (zuf (zEN F (zps (L 14) day ac) ac (nI (j + 1)) kind 0) 8 (upd (F 8) (j + 1) ((F 8 (j + 1)) + (F 10 (F 0 (j + 1)).toNatClampNeg)))) 5 (upd (F 5) (j + 1) kind)) 4 (upd (F 4) (j + 1) (F 4 (j + 1)))) 3 (upd (F 3) (j + 1) (F 3 (j + 1)))) (zuf L 14 (zpi (L 14) (zps (L 14) day ac) ac day)) := by rw [eM_75]; exact hJ_72.setI 3 (by decide) rfl _
                              refine lv_aload_n hx hb dX3_act_327 rfl (lv_at hl 3 rfl) ?_
                              refine z_get (v := .ref (ar 7)) S kX3 hK hM hJ_76.1 9 (by decide) kw_229 rfl dX3_act_328 ?_
                              refine lv_iload_n hx hb dX3_act_331 rfl (lv_at hl 4 rfl) ?_
                              refine lv_iconst (v := -1) hx hb dX3_act_332 (by decide) ?_
                              refine z_iast S hK hM hS 0 (show M_74 (ar 7) = some (.inl (G.2.2 0, 81, .inl (F 7))) from hJ_76.2.1 7 (by decide)) rfl (zvp81 hj hco) dX3_act_333 (fun H locs hM hS => ?_)
                              rw [hcl] at hM
                              obtain ⟨M_77, eM_78⟩ : ∃ z : zMap, z = zu M_74 (ar 7) (.inl ((G.2.2 0), 81, .inl (upd (F 7) (j + 1) (-1)))) := ⟨_, rfl⟩
                              replace hM : zM A G M_77 H := by rw [eM_78]; exact hM
                              have hJ_79 : zJ G M_77 m0 ar 0 (nI co) (nI (ac + 1)) (if day ≤ gr then gr else day) (zuf (zuf (zuf (zuf (zuf (zEN F (zps (L 14) day ac) ac (nI (j + 1)) kind 0) 8 (upd (F 8) (j + 1) ((F 8 (j + 1)) + (F 10 (F 0 (j + 1)).toNatClampNeg)))) 5 (upd (F 5) (j + 1) kind)) 4 (upd (F 4) (j + 1) (F 4 (j + 1)))) 3 (upd (F 3) (j + 1) (F 3 (j + 1)))) 7 (upd (F 7) (j + 1) (-1))) (zuf L 14 (zpi (L 14) (zps (L 14) day ac) ac day)) := by rw [eM_78]; exact hJ_76.setI 7 (by decide) rfl _
                              refine lv_iload_n hx hb dX3_act_334 rfl (lv_at hl 5 rfl) ?_
                              exact z_iret S hr hlocks hM hS (by unfold zBQ; rw [hz]; dsimp only; rw [if_pos ⟨c_8, c_9, c_10, c_11, fun q => absurd q c_12⟩, zBe_n (Int64.not_lt.mpr c_13)]; rw [if_pos c_19]; rw [if_neg (fun q => q.elim (fun q => absurd q.1 c_20) (fun q => absurd q.1 c_21)), if_neg (Int64.not_lt.mpr c_13), zb_f (Int64.not_lt.mpr c_13)]; exact ⟨rfl, by rw [zCF_eq (F0 := zEN F (zps (L 14) day ac) ac (nI (j + 1)) kind 0) (j := j) (kind := kind) (place := place) (fro := F 5 (j + 1)) (if_pos (⟨c_27, c_45⟩)) (if_neg c_69) (if_neg (fun q => c_73 q.1))]; exact hJ_79⟩) (Nat.le_of_ble_eq_true rfl) (Nat.le_of_ble_eq_true rfl) dX3_act_335
                            · exact absurd (c_27.symm.trans c_73) (by decide)
                          · exact absurd (c_27.symm.trans c_69) (by decide)
                    · refine lv_iload hx hb dX3_act_174 (lv_at hl 2 rfl) ?_
                      refine lv_if_ne (tgt := 212) hx hb dX3_act_176 (by decide) (fun c_80 => absurd c_80 (by decide)) (fun c_80 => ?_)
                      refine lv_iload hx hb dX3_act_179 (lv_at hl 0 rfl) ?_
                      refine lv_iconst (v := 2) hx hb dX3_act_181 (by decide) ?_
                      refine lv_icmp_ne (tgt := 212) hx hb dX3_act_182 (by decide) (fun c_81 => ?_) (fun c_81 => ?_)
                      · refine lv_aload_n hx hb dX3_act_212 rfl (lv_at hl 3 rfl) ?_
                        refine lv_iload_n hx hb dX3_act_213 rfl (lv_at hl 4 rfl) ?_
                        refine lv_iload_n hx hb dX3_act_214 rfl (lv_at hl 5 rfl) ?_
                        refine lv_iload hx hb dX3_act_215 (lv_at hl 2 rfl) ?_
                        refine lv_lload hx hb dX3_act_217 (lv_at hl 7 rfl) ?_
                        refine z_callV (As := [.int (nI (j + 1)), .int kind, .int 0, .long day]) (rest := []) S (c_X3_enter l A G M_1 m0 ar 0 co ac gr F L (nI (j + 1)) kind 0 day hJ_3 hco (by omega) (Or.inl rfl) hbl) ok_X3_enter kw_323 kw_325 ks_9 ⟨Nat.le_of_ble_eq_true rfl, Nat.le_of_ble_eq_true rfl⟩ hK hM hS hA hJ_3.1 rfl rfl hl.1 rfl (Nat.le_of_ble_eq_true rfl) dX3_act_219 ⟨Nat.le_of_ble_eq_true rfl, Nat.le_of_ble_eq_true rfl⟩ (fun r_84 M_82 H locs hp_83 hM hS => ?_)
                        obtain ⟨rfl, hJ_85⟩ := hp_83
                        refine W.eq (g2 := F0 m 222 ls []) rfl ?_
                        refine lv_iload hx hb dX3_act_222 (lv_at hl 2 rfl) ?_
                        refine lv_if_eq (tgt := 229) hx hb dX3_act_224 (by decide) (fun c_86 => ?_) (fun c_86 => absurd c_86 (by decide))
                        refine lv_aload_n hx hb dX3_act_229 rfl (lv_at hl 3 rfl) ?_
                        refine z_get (v := .ref (ar 8)) S kX3 hK hM hJ_85.1 10 (by decide) kw_230 rfl dX3_act_230 ?_
                        refine lv_iload_n hx hb dX3_act_233 rfl (lv_at hl 4 rfl) ?_
                        refine lv_dup2_11 hx hb dX3_act_234 rfl rfl ?_
                        refine z_iald S hK hM 0 (show M_82 (ar 8) = some (.inl (G.2.2 0, 81, .inl (F 8))) from hJ_85.2.1 8 (by decide)) rfl (zvp81 hj hco) dX3_act_235 ?_
                        rw [hcl]
                        refine lv_iload_n hx hb dX3_act_236 rfl (lv_at hl 5 rfl) ?_
                        refine lv_bipush (v := 6) hx hb dX3_act_237 (by decide) ?_
                        refine lv_icmp_ne (tgt := 262) hx hb dX3_act_239 (by decide) (fun c_87 => ?_) (fun c_87 => ?_)
                        · refine lv_iconst (v := 0) hx hb dX3_act_262 (by decide) ?_
                          refine lv_iadd hx hb dX3_act_263 ?_
                          refine z_iast S hK hM hS 0 (show M_82 (ar 8) = some (.inl (G.2.2 0, 81, .inl (F 8))) from hJ_85.2.1 8 (by decide)) rfl (zvp81 hj hco) dX3_act_264 (fun H locs hM hS => ?_)
                          rw [hcl] at hM
                          obtain ⟨M_88, eM_89⟩ : ∃ z : zMap, z = zu M_82 (ar 8) (.inl ((G.2.2 0), 81, .inl (upd (F 8) (j + 1) ((F 8 (j + 1)) + 0)))) := ⟨_, rfl⟩
                          replace hM : zM A G M_88 H := by rw [eM_89]; exact hM
                          have hJ_90 : zJ G M_88 m0 ar 0 (nI co) (nI (ac + 1)) (if day ≤ gr then gr else day) (zuf (zEN F (zps (L 14) day ac) ac (nI (j + 1)) kind 0) 8 (upd (F 8) (j + 1) ((F 8 (j + 1)) + 0))) (zuf L 14 (zpi (L 14) (zps (L 14) day ac) ac day)) := by rw [eM_89]; exact hJ_85.setI 8 (by decide) rfl _
                          refine lv_aload_n hx hb dX3_act_265 rfl (lv_at hl 3 rfl) ?_
                          refine z_get (v := .ref (ar 5)) S kX3 hK hM hJ_90.1 7 (by decide) kw_227 rfl dX3_act_266 ?_
                          refine lv_iload_n hx hb dX3_act_269 rfl (lv_at hl 4 rfl) ?_
                          refine lv_iload_n hx hb dX3_act_270 rfl (lv_at hl 5 rfl) ?_
                          refine z_iast S hK hM hS 0 (show M_88 (ar 5) = some (.inl (G.2.2 0, 81, .inl (F 5))) from hJ_90.2.1 5 (by decide)) rfl (zvp81 hj hco) dX3_act_271 (fun H locs hM hS => ?_)
                          rw [hcl] at hM
                          obtain ⟨M_91, eM_92⟩ : ∃ z : zMap, z = zu M_88 (ar 5) (.inl ((G.2.2 0), 81, .inl (upd (F 5) (j + 1) kind))) := ⟨_, rfl⟩
                          replace hM : zM A G M_91 H := by rw [eM_92]; exact hM
                          have hJ_93 : zJ G M_91 m0 ar 0 (nI co) (nI (ac + 1)) (if day ≤ gr then gr else day) (zuf (zuf (zEN F (zps (L 14) day ac) ac (nI (j + 1)) kind 0) 8 (upd (F 8) (j + 1) ((F 8 (j + 1)) + 0))) 5 (upd (F 5) (j + 1) kind)) (zuf L 14 (zpi (L 14) (zps (L 14) day ac) ac day)) := by rw [eM_92]; exact hJ_90.setI 5 (by decide) rfl _
                          refine lv_aload_n hx hb dX3_act_272 rfl (lv_at hl 3 rfl) ?_
                          refine z_get (v := .ref (ar 4)) S kX3 hK hM hJ_93.1 6 (by decide) kw_226 rfl dX3_act_273 ?_
                          refine lv_iload_n hx hb dX3_act_276 rfl (lv_at hl 4 rfl) ?_
                          refine lv_iload_n hx hb dX3_act_277 rfl (lv_at hl 5 rfl) ?_
                          refine lv_iconst (v := 2) hx hb dX3_act_278 (by decide) ?_
                          refine lv_icmp_ne (tgt := 286) hx hb dX3_act_279 (by decide) (fun c_94 => ?_) (fun c_94 => ?_)
                          · refine lv_aload_n hx hb dX3_act_286 rfl (lv_at hl 3 rfl) ?_
                            refine z_get (v := .ref (ar 4)) S kX3 hK hM hJ_93.1 6 (by decide) kw_226 rfl dX3_act_287 ?_
                            refine lv_iload_n hx hb dX3_act_290 rfl (lv_at hl 4 rfl) ?_
                            refine z_iald S hK hM 0 (show M_91 (ar 4) = some (.inl (G.2.2 0, 81, .inl (F 4))) from hJ_93.2.1 4 (by decide)) rfl (zvp81 hj hco) dX3_act_291 ?_
                            rw [hcl]
                            refine z_iast S hK hM hS 0 (show M_91 (ar 4) = some (.inl (G.2.2 0, 81, .inl (F 4))) from hJ_93.2.1 4 (by decide)) rfl (zvp81 hj hco) dX3_act_292 (fun H locs hM hS => ?_)
                            rw [hcl] at hM
                            obtain ⟨M_95, eM_96⟩ : ∃ z : zMap, z = zu M_91 (ar 4) (.inl ((G.2.2 0), 81, .inl (upd (F 4) (j + 1) (F 4 (j + 1))))) := ⟨_, rfl⟩
                            replace hM : zM A G M_95 H := by rw [eM_96]; exact hM
                            have hJ_97 : zJ G M_95 m0 ar 0 (nI co) (nI (ac + 1)) (if day ≤ gr then gr else day) (zuf (zuf (zuf (zEN F (zps (L 14) day ac) ac (nI (j + 1)) kind 0) 8 (upd (F 8) (j + 1) ((F 8 (j + 1)) + 0))) 5 (upd (F 5) (j + 1) kind)) 4 (upd (F 4) (j + 1) (F 4 (j + 1)))) (zuf L 14 (zpi (L 14) (zps (L 14) day ac) ac day)) := by rw [eM_96]; exact hJ_93.setI 4 (by decide) rfl _
                            refine lv_aload_n hx hb dX3_act_293 rfl (lv_at hl 3 rfl) ?_
                            refine z_get (v := .ref (ar 3)) S kX3 hK hM hJ_97.1 5 (by decide) kw_225 rfl dX3_act_294 ?_
                            refine lv_iload_n hx hb dX3_act_297 rfl (lv_at hl 4 rfl) ?_
                            refine lv_iload_n hx hb dX3_act_298 rfl (lv_at hl 5 rfl) ?_
                            refine lv_if_ne (tgt := 320) hx hb dX3_act_299 (by decide) (fun c_98 => ?_) (fun c_98 => ?_)
                            · exact absurd c_21 c_98
                            · refine lv_aload_n hx hb dX3_act_302 rfl (lv_at hl 3 rfl) ?_
                              refine z_get (v := .ref (ar 6)) S kX3 hK hM hJ_97.1 8 (by decide) kw_228 rfl dX3_act_303 ?_
                              refine lv_iload_n hx hb dX3_act_306 rfl (lv_at hl 4 rfl) ?_
                              refine z_zald S hK hM 1 (show M_95 (ar 6) = some (.inl (G.2.2 1, 81, .inl (F 6))) from hJ_97.2.1 6 (by decide)) rfl (zvp81 hj hco) dX3_act_307 ?_
                              rw [hcl]
                              refine lv_if_eq (tgt := 320) hx hb dX3_act_308 (by decide) (fun c_99 => ?_) (fun c_99 => ?_)
                              · refine lv_aload_n hx hb dX3_act_320 rfl (lv_at hl 3 rfl) ?_
                                refine z_get (v := .ref (ar 3)) S kX3 hK hM hJ_97.1 5 (by decide) kw_225 rfl dX3_act_321 ?_
                                refine lv_iload_n hx hb dX3_act_324 rfl (lv_at hl 4 rfl) ?_
                                refine z_iald S hK hM 0 (show M_95 (ar 3) = some (.inl (G.2.2 0, 81, .inl (F 3))) from hJ_97.2.1 3 (by decide)) rfl (zvp81 hj hco) dX3_act_325 ?_
                                rw [hcl]
                                refine z_iast S hK hM hS 0 (show M_95 (ar 3) = some (.inl (G.2.2 0, 81, .inl (F 3))) from hJ_97.2.1 3 (by decide)) rfl (zvp81 hj hco) dX3_act_326 (fun H locs hM hS => ?_)
                                rw [hcl] at hM
                                obtain ⟨M_100, eM_101⟩ : ∃ z : zMap, z = zu M_95 (ar 3) (.inl ((G.2.2 0), 81, .inl (upd (F 3) (j + 1) (F 3 (j + 1))))) := ⟨_, rfl⟩
                                replace hM : zM A G M_100 H := by rw [eM_101]; exact hM
                                have hJ_102 : zJ G M_100 m0 ar 0 (nI co) (nI (ac + 1)) (if day ≤ gr then gr else day) (zuf (zuf (zuf (zuf (zEN F (zps (L 14) day ac) ac (nI (j + 1)) kind 0) 8 (upd (F 8) (j + 1) ((F 8 (j + 1)) + 0))) 5 (upd (F 5) (j + 1) kind)) 4 (upd (F 4) (j + 1) (F 4 (j + 1)))) 3 (upd (F 3) (j + 1) (F 3 (j + 1)))) (zuf L 14 (zpi (L 14) (zps (L 14) day ac) ac day)) := by rw [eM_101]; exact hJ_97.setI 3 (by decide) rfl _
                                refine lv_aload_n hx hb dX3_act_327 rfl (lv_at hl 3 rfl) ?_
                                refine z_get (v := .ref (ar 7)) S kX3 hK hM hJ_102.1 9 (by decide) kw_229 rfl dX3_act_328 ?_
                                refine lv_iload_n hx hb dX3_act_331 rfl (lv_at hl 4 rfl) ?_
                                refine lv_iconst (v := -1) hx hb dX3_act_332 (by decide) ?_
                                refine z_iast S hK hM hS 0 (show M_100 (ar 7) = some (.inl (G.2.2 0, 81, .inl (F 7))) from hJ_102.2.1 7 (by decide)) rfl (zvp81 hj hco) dX3_act_333 (fun H locs hM hS => ?_)
                                rw [hcl] at hM
                                obtain ⟨M_103, eM_104⟩ : ∃ z : zMap, z = zu M_100 (ar 7) (.inl ((G.2.2 0), 81, .inl (upd (F 7) (j + 1) (-1)))) := ⟨_, rfl⟩
                                replace hM : zM A G M_103 H := by rw [eM_104]; exact hM
                                have hJ_105 : zJ G M_103 m0 ar 0 (nI co) (nI (ac + 1)) (if day ≤ gr then gr else day) (zuf (zuf (zuf (zuf (zuf (zEN F (zps (L 14) day ac) ac (nI (j + 1)) kind 0) 8 (upd (F 8) (j + 1) ((F 8 (j + 1)) + 0))) 5 (upd (F 5) (j + 1) kind)) 4 (upd (F 4) (j + 1) (F 4 (j + 1)))) 3 (upd (F 3) (j + 1) (F 3 (j + 1)))) 7 (upd (F 7) (j + 1) (-1))) (zuf L 14 (zpi (L 14) (zps (L 14) day ac) ac day)) := by rw [eM_104]; exact hJ_102.setI 7 (by decide) rfl _
                                refine lv_iload_n hx hb dX3_act_334 rfl (lv_at hl 5 rfl) ?_
                                exact z_iret S hr hlocks hM hS (by unfold zBQ; rw [hz]; dsimp only; rw [if_pos ⟨c_8, c_9, c_10, c_11, fun q => absurd q c_12⟩, zBe_n (Int64.not_lt.mpr c_13)]; rw [if_pos c_19]; rw [if_neg (fun q => q.elim (fun q => absurd q.1 c_20) (fun q => c_81 q.2.2.1)), if_neg (Int64.not_lt.mpr c_13), zb_f (Int64.not_lt.mpr c_13)]; exact ⟨rfl, by rw [zCF_eq (F0 := zEN F (zps (L 14) day ac) ac (nI (j + 1)) kind 0) (j := j) (kind := kind) (place := place) (fro := F 5 (j + 1)) (if_neg (fun q => c_87 q.1)) (if_neg c_94) (if_neg (fun q => q.2 c_99))]; exact hJ_105⟩) (Nat.le_of_ble_eq_true rfl) (Nat.le_of_ble_eq_true rfl) dX3_act_335
                              · refine lv_aload_n hx hb dX3_act_311 rfl (lv_at hl 3 rfl) ?_
                                refine z_get (v := .ref (ar 4)) S kX3 hK hM hJ_97.1 6 (by decide) kw_226 rfl dX3_act_312 ?_
                                refine lv_iload_n hx hb dX3_act_315 rfl (lv_at hl 4 rfl) ?_
                                refine z_iald S hK hM 0 (show M_95 (ar 4) = some (.inl (G.2.2 0, 81, .inl (upd (F 4) (j + 1) (F 4 (j + 1))))) from hJ_97.2.1 4 (by decide)) rfl (zvp81 hj hco) dX3_act_316 ?_
                                rw [hcl]
                                rw [pk_us]
                                refine lv_goto (tgt := 326) hx hb dX3_act_317 (by decide) ?_
                                refine z_iast S hK hM hS 0 (show M_95 (ar 3) = some (.inl (G.2.2 0, 81, .inl (F 3))) from hJ_97.2.1 3 (by decide)) rfl (zvp81 hj hco) dX3_act_326 (fun H locs hM hS => ?_)
                                rw [hcl] at hM
                                obtain ⟨M_106, eM_107⟩ : ∃ z : zMap, z = zu M_95 (ar 3) (.inl ((G.2.2 0), 81, .inl (upd (F 3) (j + 1) (F 4 (j + 1))))) := ⟨_, rfl⟩
                                replace hM : zM A G M_106 H := by rw [eM_107]; exact hM
                                have hJ_108 : zJ G M_106 m0 ar 0 (nI co) (nI (ac + 1)) (if day ≤ gr then gr else day) (zuf (zuf (zuf (zuf (zEN F (zps (L 14) day ac) ac (nI (j + 1)) kind 0) 8 (upd (F 8) (j + 1) ((F 8 (j + 1)) + 0))) 5 (upd (F 5) (j + 1) kind)) 4 (upd (F 4) (j + 1) (F 4 (j + 1)))) 3 (upd (F 3) (j + 1) (F 4 (j + 1)))) (zuf L 14 (zpi (L 14) (zps (L 14) day ac) ac day)) := by rw [eM_107]; exact hJ_97.setI 3 (by decide) rfl _
                                refine lv_aload_n hx hb dX3_act_327 rfl (lv_at hl 3 rfl) ?_
                                refine z_get (v := .ref (ar 7)) S kX3 hK hM hJ_108.1 9 (by decide) kw_229 rfl dX3_act_328 ?_
                                refine lv_iload_n hx hb dX3_act_331 rfl (lv_at hl 4 rfl) ?_
                                refine lv_iconst (v := -1) hx hb dX3_act_332 (by decide) ?_
                                refine z_iast S hK hM hS 0 (show M_106 (ar 7) = some (.inl (G.2.2 0, 81, .inl (F 7))) from hJ_108.2.1 7 (by decide)) rfl (zvp81 hj hco) dX3_act_333 (fun H locs hM hS => ?_)
                                rw [hcl] at hM
                                obtain ⟨M_109, eM_110⟩ : ∃ z : zMap, z = zu M_106 (ar 7) (.inl ((G.2.2 0), 81, .inl (upd (F 7) (j + 1) (-1)))) := ⟨_, rfl⟩
                                replace hM : zM A G M_109 H := by rw [eM_110]; exact hM
                                have hJ_111 : zJ G M_109 m0 ar 0 (nI co) (nI (ac + 1)) (if day ≤ gr then gr else day) (zuf (zuf (zuf (zuf (zuf (zEN F (zps (L 14) day ac) ac (nI (j + 1)) kind 0) 8 (upd (F 8) (j + 1) ((F 8 (j + 1)) + 0))) 5 (upd (F 5) (j + 1) kind)) 4 (upd (F 4) (j + 1) (F 4 (j + 1)))) 3 (upd (F 3) (j + 1) (F 4 (j + 1)))) 7 (upd (F 7) (j + 1) (-1))) (zuf L 14 (zpi (L 14) (zps (L 14) day ac) ac day)) := by rw [eM_110]; exact hJ_108.setI 7 (by decide) rfl _
                                refine lv_iload_n hx hb dX3_act_334 rfl (lv_at hl 5 rfl) ?_
                                exact z_iret S hr hlocks hM hS (by unfold zBQ; rw [hz]; dsimp only; rw [if_pos ⟨c_8, c_9, c_10, c_11, fun q => absurd q c_12⟩, zBe_n (Int64.not_lt.mpr c_13)]; rw [if_pos c_19]; rw [if_neg (fun q => q.elim (fun q => absurd q.1 c_20) (fun q => c_81 q.2.2.1)), if_neg (Int64.not_lt.mpr c_13), zb_f (Int64.not_lt.mpr c_13)]; exact ⟨rfl, by rw [zCF_eq (F0 := zEN F (zps (L 14) day ac) ac (nI (j + 1)) kind 0) (j := j) (kind := kind) (place := place) (fro := F 5 (j + 1)) (if_neg (fun q => c_87 q.1)) (if_neg c_94) (if_pos ⟨c_98, c_99⟩)]; exact hJ_111⟩) (Nat.le_of_ble_eq_true rfl) (Nat.le_of_ble_eq_true rfl) dX3_act_335
                          · exact absurd (c_21.symm.trans c_94) (by decide)
                        · exact absurd (c_21.symm.trans c_87) (by decide)
                      · refine lv_aload_n hx hb dX3_act_185 rfl (lv_at hl 3 rfl) ?_
                        refine z_get (v := .ref (ar 9)) S kX3 hK hM hJ_3.1 11 (by decide) kw_231 rfl dX3_act_186 ?_
                        refine lv_bipush (v := 6) hx hb dX3_act_189 (by decide) ?_
                        refine lv_aload_n hx hb dX3_act_191 rfl (lv_at hl 3 rfl) ?_
                        refine z_get (v := .ref (ar 4)) S kX3 hK hM hJ_3.1 6 (by decide) kw_226 rfl dX3_act_192 ?_
                        refine lv_iload_n hx hb dX3_act_195 rfl (lv_at hl 4 rfl) ?_
                        refine z_iald S hK hM 0 (show M_1 (ar 4) = some (.inl (G.2.2 0, 81, .inl (F 4))) from hJ_3.2.1 4 (by decide)) rfl (zvp81 hj hco) dX3_act_196 ?_
                        rw [hcl]
                        refine lv_imul hx hb dX3_act_197 ?_
                        refine lv_aload_n hx hb dX3_act_198 rfl (lv_at hl 3 rfl) ?_
                        refine z_get (v := .ref (ar 0)) S kX3 hK hM hJ_3.1 2 (by decide) kw_222 rfl dX3_act_199 ?_
                        refine lv_iload_n hx hb dX3_act_202 rfl (lv_at hl 4 rfl) ?_
                        refine z_iald S hK hM 0 (show M_1 (ar 0) = some (.inl (G.2.2 0, 81, .inl (F 0))) from hJ_3.2.1 0 (by decide)) rfl (zvp81 hj hco) dX3_act_203 ?_
                        rw [hcl]
                        refine lv_iadd hx hb dX3_act_204 ?_
                        refine z_zald S hK hM 1 (show M_1 (ar 9) = some (.inl (G.2.2 1, 60, .inl (F 9))) from hJ_3.2.1 9 (by decide)) rfl (zRi_in6 (hty j hj).2 (hty j hj).1) dX3_act_205 ?_
                        refine lv_if_eq (tgt := 212) hx hb dX3_act_206 (by decide) (fun c_112 => ?_) (fun c_112 => ?_)
                        · refine lv_aload_n hx hb dX3_act_212 rfl (lv_at hl 3 rfl) ?_
                          refine lv_iload_n hx hb dX3_act_213 rfl (lv_at hl 4 rfl) ?_
                          refine lv_iload_n hx hb dX3_act_214 rfl (lv_at hl 5 rfl) ?_
                          refine lv_iload hx hb dX3_act_215 (lv_at hl 2 rfl) ?_
                          refine lv_lload hx hb dX3_act_217 (lv_at hl 7 rfl) ?_
                          refine z_callV (As := [.int (nI (j + 1)), .int kind, .int 0, .long day]) (rest := []) S (c_X3_enter l A G M_1 m0 ar 0 co ac gr F L (nI (j + 1)) kind 0 day hJ_3 hco (by omega) (Or.inl rfl) hbl) ok_X3_enter kw_323 kw_325 ks_9 ⟨Nat.le_of_ble_eq_true rfl, Nat.le_of_ble_eq_true rfl⟩ hK hM hS hA hJ_3.1 rfl rfl hl.1 rfl (Nat.le_of_ble_eq_true rfl) dX3_act_219 ⟨Nat.le_of_ble_eq_true rfl, Nat.le_of_ble_eq_true rfl⟩ (fun r_115 M_113 H locs hp_114 hM hS => ?_)
                          obtain ⟨rfl, hJ_116⟩ := hp_114
                          refine W.eq (g2 := F0 m 222 ls []) rfl ?_
                          refine lv_iload hx hb dX3_act_222 (lv_at hl 2 rfl) ?_
                          refine lv_if_eq (tgt := 229) hx hb dX3_act_224 (by decide) (fun c_117 => ?_) (fun c_117 => absurd c_117 (by decide))
                          refine lv_aload_n hx hb dX3_act_229 rfl (lv_at hl 3 rfl) ?_
                          refine z_get (v := .ref (ar 8)) S kX3 hK hM hJ_116.1 10 (by decide) kw_230 rfl dX3_act_230 ?_
                          refine lv_iload_n hx hb dX3_act_233 rfl (lv_at hl 4 rfl) ?_
                          refine lv_dup2_11 hx hb dX3_act_234 rfl rfl ?_
                          refine z_iald S hK hM 0 (show M_113 (ar 8) = some (.inl (G.2.2 0, 81, .inl (F 8))) from hJ_116.2.1 8 (by decide)) rfl (zvp81 hj hco) dX3_act_235 ?_
                          rw [hcl]
                          refine lv_iload_n hx hb dX3_act_236 rfl (lv_at hl 5 rfl) ?_
                          refine lv_bipush (v := 6) hx hb dX3_act_237 (by decide) ?_
                          refine lv_icmp_ne (tgt := 262) hx hb dX3_act_239 (by decide) (fun c_118 => ?_) (fun c_118 => ?_)
                          · refine lv_iconst (v := 0) hx hb dX3_act_262 (by decide) ?_
                            refine lv_iadd hx hb dX3_act_263 ?_
                            refine z_iast S hK hM hS 0 (show M_113 (ar 8) = some (.inl (G.2.2 0, 81, .inl (F 8))) from hJ_116.2.1 8 (by decide)) rfl (zvp81 hj hco) dX3_act_264 (fun H locs hM hS => ?_)
                            rw [hcl] at hM
                            obtain ⟨M_119, eM_120⟩ : ∃ z : zMap, z = zu M_113 (ar 8) (.inl ((G.2.2 0), 81, .inl (upd (F 8) (j + 1) ((F 8 (j + 1)) + 0)))) := ⟨_, rfl⟩
                            replace hM : zM A G M_119 H := by rw [eM_120]; exact hM
                            have hJ_121 : zJ G M_119 m0 ar 0 (nI co) (nI (ac + 1)) (if day ≤ gr then gr else day) (zuf (zEN F (zps (L 14) day ac) ac (nI (j + 1)) kind 0) 8 (upd (F 8) (j + 1) ((F 8 (j + 1)) + 0))) (zuf L 14 (zpi (L 14) (zps (L 14) day ac) ac day)) := by rw [eM_120]; exact hJ_116.setI 8 (by decide) rfl _
                            refine lv_aload_n hx hb dX3_act_265 rfl (lv_at hl 3 rfl) ?_
                            refine z_get (v := .ref (ar 5)) S kX3 hK hM hJ_121.1 7 (by decide) kw_227 rfl dX3_act_266 ?_
                            refine lv_iload_n hx hb dX3_act_269 rfl (lv_at hl 4 rfl) ?_
                            refine lv_iload_n hx hb dX3_act_270 rfl (lv_at hl 5 rfl) ?_
                            refine z_iast S hK hM hS 0 (show M_119 (ar 5) = some (.inl (G.2.2 0, 81, .inl (F 5))) from hJ_121.2.1 5 (by decide)) rfl (zvp81 hj hco) dX3_act_271 (fun H locs hM hS => ?_)
                            rw [hcl] at hM
                            obtain ⟨M_122, eM_123⟩ : ∃ z : zMap, z = zu M_119 (ar 5) (.inl ((G.2.2 0), 81, .inl (upd (F 5) (j + 1) kind))) := ⟨_, rfl⟩
                            replace hM : zM A G M_122 H := by rw [eM_123]; exact hM
                            have hJ_124 : zJ G M_122 m0 ar 0 (nI co) (nI (ac + 1)) (if day ≤ gr then gr else day) (zuf (zuf (zEN F (zps (L 14) day ac) ac (nI (j + 1)) kind 0) 8 (upd (F 8) (j + 1) ((F 8 (j + 1)) + 0))) 5 (upd (F 5) (j + 1) kind)) (zuf L 14 (zpi (L 14) (zps (L 14) day ac) ac day)) := by rw [eM_123]; exact hJ_121.setI 5 (by decide) rfl _
                            refine lv_aload_n hx hb dX3_act_272 rfl (lv_at hl 3 rfl) ?_
                            refine z_get (v := .ref (ar 4)) S kX3 hK hM hJ_124.1 6 (by decide) kw_226 rfl dX3_act_273 ?_
                            refine lv_iload_n hx hb dX3_act_276 rfl (lv_at hl 4 rfl) ?_
                            refine lv_iload_n hx hb dX3_act_277 rfl (lv_at hl 5 rfl) ?_
                            refine lv_iconst (v := 2) hx hb dX3_act_278 (by decide) ?_
                            refine lv_icmp_ne (tgt := 286) hx hb dX3_act_279 (by decide) (fun c_125 => ?_) (fun c_125 => ?_)
                            · refine lv_aload_n hx hb dX3_act_286 rfl (lv_at hl 3 rfl) ?_
                              refine z_get (v := .ref (ar 4)) S kX3 hK hM hJ_124.1 6 (by decide) kw_226 rfl dX3_act_287 ?_
                              refine lv_iload_n hx hb dX3_act_290 rfl (lv_at hl 4 rfl) ?_
                              refine z_iald S hK hM 0 (show M_122 (ar 4) = some (.inl (G.2.2 0, 81, .inl (F 4))) from hJ_124.2.1 4 (by decide)) rfl (zvp81 hj hco) dX3_act_291 ?_
                              rw [hcl]
                              refine z_iast S hK hM hS 0 (show M_122 (ar 4) = some (.inl (G.2.2 0, 81, .inl (F 4))) from hJ_124.2.1 4 (by decide)) rfl (zvp81 hj hco) dX3_act_292 (fun H locs hM hS => ?_)
                              rw [hcl] at hM
                              obtain ⟨M_126, eM_127⟩ : ∃ z : zMap, z = zu M_122 (ar 4) (.inl ((G.2.2 0), 81, .inl (upd (F 4) (j + 1) (F 4 (j + 1))))) := ⟨_, rfl⟩
                              replace hM : zM A G M_126 H := by rw [eM_127]; exact hM
                              have hJ_128 : zJ G M_126 m0 ar 0 (nI co) (nI (ac + 1)) (if day ≤ gr then gr else day) (zuf (zuf (zuf (zEN F (zps (L 14) day ac) ac (nI (j + 1)) kind 0) 8 (upd (F 8) (j + 1) ((F 8 (j + 1)) + 0))) 5 (upd (F 5) (j + 1) kind)) 4 (upd (F 4) (j + 1) (F 4 (j + 1)))) (zuf L 14 (zpi (L 14) (zps (L 14) day ac) ac day)) := by rw [eM_127]; exact hJ_124.setI 4 (by decide) rfl _
                              refine lv_aload_n hx hb dX3_act_293 rfl (lv_at hl 3 rfl) ?_
                              refine z_get (v := .ref (ar 3)) S kX3 hK hM hJ_128.1 5 (by decide) kw_225 rfl dX3_act_294 ?_
                              refine lv_iload_n hx hb dX3_act_297 rfl (lv_at hl 4 rfl) ?_
                              refine lv_iload_n hx hb dX3_act_298 rfl (lv_at hl 5 rfl) ?_
                              refine lv_if_ne (tgt := 320) hx hb dX3_act_299 (by decide) (fun c_129 => ?_) (fun c_129 => ?_)
                              · exact absurd c_21 c_129
                              · refine lv_aload_n hx hb dX3_act_302 rfl (lv_at hl 3 rfl) ?_
                                refine z_get (v := .ref (ar 6)) S kX3 hK hM hJ_128.1 8 (by decide) kw_228 rfl dX3_act_303 ?_
                                refine lv_iload_n hx hb dX3_act_306 rfl (lv_at hl 4 rfl) ?_
                                refine z_zald S hK hM 1 (show M_126 (ar 6) = some (.inl (G.2.2 1, 81, .inl (F 6))) from hJ_128.2.1 6 (by decide)) rfl (zvp81 hj hco) dX3_act_307 ?_
                                rw [hcl]
                                refine lv_if_eq (tgt := 320) hx hb dX3_act_308 (by decide) (fun c_130 => ?_) (fun c_130 => ?_)
                                · refine lv_aload_n hx hb dX3_act_320 rfl (lv_at hl 3 rfl) ?_
                                  refine z_get (v := .ref (ar 3)) S kX3 hK hM hJ_128.1 5 (by decide) kw_225 rfl dX3_act_321 ?_
                                  refine lv_iload_n hx hb dX3_act_324 rfl (lv_at hl 4 rfl) ?_
                                  refine z_iald S hK hM 0 (show M_126 (ar 3) = some (.inl (G.2.2 0, 81, .inl (F 3))) from hJ_128.2.1 3 (by decide)) rfl (zvp81 hj hco) dX3_act_325 ?_
                                  rw [hcl]
                                  refine z_iast S hK hM hS 0 (show M_126 (ar 3) = some (.inl (G.2.2 0, 81, .inl (F 3))) from hJ_128.2.1 3 (by decide)) rfl (zvp81 hj hco) dX3_act_326 (fun H locs hM hS => ?_)
                                  rw [hcl] at hM
                                  obtain ⟨M_131, eM_132⟩ : ∃ z : zMap, z = zu M_126 (ar 3) (.inl ((G.2.2 0), 81, .inl (upd (F 3) (j + 1) (F 3 (j + 1))))) := ⟨_, rfl⟩
                                  replace hM : zM A G M_131 H := by rw [eM_132]; exact hM
                                  have hJ_133 : zJ G M_131 m0 ar 0 (nI co) (nI (ac + 1)) (if day ≤ gr then gr else day) (zuf (zuf (zuf (zuf (zEN F (zps (L 14) day ac) ac (nI (j + 1)) kind 0) 8 (upd (F 8) (j + 1) ((F 8 (j + 1)) + 0))) 5 (upd (F 5) (j + 1) kind)) 4 (upd (F 4) (j + 1) (F 4 (j + 1)))) 3 (upd (F 3) (j + 1) (F 3 (j + 1)))) (zuf L 14 (zpi (L 14) (zps (L 14) day ac) ac day)) := by rw [eM_132]; exact hJ_128.setI 3 (by decide) rfl _
                                  refine lv_aload_n hx hb dX3_act_327 rfl (lv_at hl 3 rfl) ?_
                                  refine z_get (v := .ref (ar 7)) S kX3 hK hM hJ_133.1 9 (by decide) kw_229 rfl dX3_act_328 ?_
                                  refine lv_iload_n hx hb dX3_act_331 rfl (lv_at hl 4 rfl) ?_
                                  refine lv_iconst (v := -1) hx hb dX3_act_332 (by decide) ?_
                                  refine z_iast S hK hM hS 0 (show M_131 (ar 7) = some (.inl (G.2.2 0, 81, .inl (F 7))) from hJ_133.2.1 7 (by decide)) rfl (zvp81 hj hco) dX3_act_333 (fun H locs hM hS => ?_)
                                  rw [hcl] at hM
                                  obtain ⟨M_134, eM_135⟩ : ∃ z : zMap, z = zu M_131 (ar 7) (.inl ((G.2.2 0), 81, .inl (upd (F 7) (j + 1) (-1)))) := ⟨_, rfl⟩
                                  replace hM : zM A G M_134 H := by rw [eM_135]; exact hM
                                  have hJ_136 : zJ G M_134 m0 ar 0 (nI co) (nI (ac + 1)) (if day ≤ gr then gr else day) (zuf (zuf (zuf (zuf (zuf (zEN F (zps (L 14) day ac) ac (nI (j + 1)) kind 0) 8 (upd (F 8) (j + 1) ((F 8 (j + 1)) + 0))) 5 (upd (F 5) (j + 1) kind)) 4 (upd (F 4) (j + 1) (F 4 (j + 1)))) 3 (upd (F 3) (j + 1) (F 3 (j + 1)))) 7 (upd (F 7) (j + 1) (-1))) (zuf L 14 (zpi (L 14) (zps (L 14) day ac) ac day)) := by rw [eM_135]; exact hJ_133.setI 7 (by decide) rfl _
                                  refine lv_iload_n hx hb dX3_act_334 rfl (lv_at hl 5 rfl) ?_
                                  exact z_iret S hr hlocks hM hS (by unfold zBQ; rw [hz]; dsimp only; rw [if_pos ⟨c_8, c_9, c_10, c_11, fun q => absurd q c_12⟩, zBe_n (Int64.not_lt.mpr c_13)]; rw [if_pos c_19]; rw [if_neg (fun q => q.elim (fun q => absurd q.1 c_20) (fun q => q.2.2.2 c_112)), if_neg (Int64.not_lt.mpr c_13), zb_f (Int64.not_lt.mpr c_13)]; exact ⟨rfl, by rw [zCF_eq (F0 := zEN F (zps (L 14) day ac) ac (nI (j + 1)) kind 0) (j := j) (kind := kind) (place := place) (fro := F 5 (j + 1)) (if_neg (fun q => c_118 q.1)) (if_neg c_125) (if_neg (fun q => q.2 c_130))]; exact hJ_136⟩) (Nat.le_of_ble_eq_true rfl) (Nat.le_of_ble_eq_true rfl) dX3_act_335
                                · refine lv_aload_n hx hb dX3_act_311 rfl (lv_at hl 3 rfl) ?_
                                  refine z_get (v := .ref (ar 4)) S kX3 hK hM hJ_128.1 6 (by decide) kw_226 rfl dX3_act_312 ?_
                                  refine lv_iload_n hx hb dX3_act_315 rfl (lv_at hl 4 rfl) ?_
                                  refine z_iald S hK hM 0 (show M_126 (ar 4) = some (.inl (G.2.2 0, 81, .inl (upd (F 4) (j + 1) (F 4 (j + 1))))) from hJ_128.2.1 4 (by decide)) rfl (zvp81 hj hco) dX3_act_316 ?_
                                  rw [hcl]
                                  rw [pk_us]
                                  refine lv_goto (tgt := 326) hx hb dX3_act_317 (by decide) ?_
                                  refine z_iast S hK hM hS 0 (show M_126 (ar 3) = some (.inl (G.2.2 0, 81, .inl (F 3))) from hJ_128.2.1 3 (by decide)) rfl (zvp81 hj hco) dX3_act_326 (fun H locs hM hS => ?_)
                                  rw [hcl] at hM
                                  obtain ⟨M_137, eM_138⟩ : ∃ z : zMap, z = zu M_126 (ar 3) (.inl ((G.2.2 0), 81, .inl (upd (F 3) (j + 1) (F 4 (j + 1))))) := ⟨_, rfl⟩
                                  replace hM : zM A G M_137 H := by rw [eM_138]; exact hM
                                  have hJ_139 : zJ G M_137 m0 ar 0 (nI co) (nI (ac + 1)) (if day ≤ gr then gr else day) (zuf (zuf (zuf (zuf (zEN F (zps (L 14) day ac) ac (nI (j + 1)) kind 0) 8 (upd (F 8) (j + 1) ((F 8 (j + 1)) + 0))) 5 (upd (F 5) (j + 1) kind)) 4 (upd (F 4) (j + 1) (F 4 (j + 1)))) 3 (upd (F 3) (j + 1) (F 4 (j + 1)))) (zuf L 14 (zpi (L 14) (zps (L 14) day ac) ac day)) := by rw [eM_138]; exact hJ_128.setI 3 (by decide) rfl _
                                  refine lv_aload_n hx hb dX3_act_327 rfl (lv_at hl 3 rfl) ?_
                                  refine z_get (v := .ref (ar 7)) S kX3 hK hM hJ_139.1 9 (by decide) kw_229 rfl dX3_act_328 ?_
                                  refine lv_iload_n hx hb dX3_act_331 rfl (lv_at hl 4 rfl) ?_
                                  refine lv_iconst (v := -1) hx hb dX3_act_332 (by decide) ?_
                                  refine z_iast S hK hM hS 0 (show M_137 (ar 7) = some (.inl (G.2.2 0, 81, .inl (F 7))) from hJ_139.2.1 7 (by decide)) rfl (zvp81 hj hco) dX3_act_333 (fun H locs hM hS => ?_)
                                  rw [hcl] at hM
                                  obtain ⟨M_140, eM_141⟩ : ∃ z : zMap, z = zu M_137 (ar 7) (.inl ((G.2.2 0), 81, .inl (upd (F 7) (j + 1) (-1)))) := ⟨_, rfl⟩
                                  replace hM : zM A G M_140 H := by rw [eM_141]; exact hM
                                  have hJ_142 : zJ G M_140 m0 ar 0 (nI co) (nI (ac + 1)) (if day ≤ gr then gr else day) (zuf (zuf (zuf (zuf (zuf (zEN F (zps (L 14) day ac) ac (nI (j + 1)) kind 0) 8 (upd (F 8) (j + 1) ((F 8 (j + 1)) + 0))) 5 (upd (F 5) (j + 1) kind)) 4 (upd (F 4) (j + 1) (F 4 (j + 1)))) 3 (upd (F 3) (j + 1) (F 4 (j + 1)))) 7 (upd (F 7) (j + 1) (-1))) (zuf L 14 (zpi (L 14) (zps (L 14) day ac) ac day)) := by rw [eM_141]; exact hJ_139.setI 7 (by decide) rfl _
                                  refine lv_iload_n hx hb dX3_act_334 rfl (lv_at hl 5 rfl) ?_
                                  exact z_iret S hr hlocks hM hS (by unfold zBQ; rw [hz]; dsimp only; rw [if_pos ⟨c_8, c_9, c_10, c_11, fun q => absurd q c_12⟩, zBe_n (Int64.not_lt.mpr c_13)]; rw [if_pos c_19]; rw [if_neg (fun q => q.elim (fun q => absurd q.1 c_20) (fun q => q.2.2.2 c_112)), if_neg (Int64.not_lt.mpr c_13), zb_f (Int64.not_lt.mpr c_13)]; exact ⟨rfl, by rw [zCF_eq (F0 := zEN F (zps (L 14) day ac) ac (nI (j + 1)) kind 0) (j := j) (kind := kind) (place := place) (fro := F 5 (j + 1)) (if_neg (fun q => c_118 q.1)) (if_neg c_125) (if_pos ⟨c_129, c_130⟩)]; exact hJ_142⟩) (Nat.le_of_ble_eq_true rfl) (Nat.le_of_ble_eq_true rfl) dX3_act_335
                            · exact absurd (c_21.symm.trans c_125) (by decide)
                          · exact absurd (c_21.symm.trans c_118) (by decide)
                        · refine lv_bipush (v := -3) hx hb dX3_act_209 (by decide) ?_
                          exact z_iret S hr hlocks hM hS (by unfold zBQ; rw [hz]; dsimp only; rw [if_pos ⟨c_8, c_9, c_10, c_11, fun q => absurd q c_12⟩, zBe_n (Int64.not_lt.mpr c_13)]; rw [if_pos c_19]; rw [if_pos (Or.inr ⟨c_21, (Int64.not_lt.mpr c_13), c_81, c_112⟩)]; exact ⟨rfl, hJ_3⟩) (Nat.le_of_ble_eq_true rfl) (Nat.le_of_ble_eq_true rfl) dX3_act_211
                  · exact absurd c_20 c_12
                · rw [zb_0] at c_19
                  refine lv_bipush (v := -2) hx hb dX3_act_143 (by decide) ?_
                  exact z_iret S hr hlocks hM hS (by unfold zBQ; rw [hz]; dsimp only; rw [if_pos ⟨c_8, c_9, c_10, c_11, fun q => absurd q c_12⟩, zBe_n (Int64.not_lt.mpr c_13)]; rw [if_neg c_19]; exact ⟨rfl, hJ_3⟩) (Nat.le_of_ble_eq_true rfl) (Nat.le_of_ble_eq_true rfl) dX3_act_145
              · rw [lg_cmp_ge] at c_13
                refine lv_iconst (v := 1) hx hb dX3_act_76 (by decide) ?_
                refine lv_goto (tgt := 81) hx hb dX3_act_77 (by decide) ?_
                refine lv_istore (lv' := [(6, .int 1), (0, .ref m0), (1, .int (nI (j + 1))), (2, .int kind), (3, .int place), (4, .long day)]) hx hb dX3_act_81 hl (by decide) rfl (fun ls hl => ?_)
                refine lv_iload hx hb dX3_act_83 (lv_at hl 0 rfl) ?_
                refine lv_if_eq (tgt := 98) hx hb dX3_act_85 (by decide) (fun c_143 => absurd c_143 (by decide)) (fun c_143 => ?_)
                refine lv_aload_n hx hb dX3_act_88 rfl (lv_at hl 1 rfl) ?_
                refine lv_iload_n hx hb dX3_act_89 rfl (lv_at hl 2 rfl) ?_
                refine lv_lload hx hb dX3_act_90 (lv_at hl 5 rfl) ?_
                refine z_callV (As := [.int (nI (j + 1)), .long day]) (rest := []) S (c_X3_last l A G M_1 m0 ar 0 co ac gr F L (nI (j + 1)) day hJ_3 hco (by omega)) ok_X3_last kw_311 kw_313 ks_8 ⟨Nat.le_of_ble_eq_true rfl, Nat.le_of_ble_eq_true rfl⟩ hK hM hS hA hJ_3.1 rfl rfl hl.1 rfl (Nat.le_of_ble_eq_true rfl) dX3_act_92 ⟨Nat.le_of_ble_eq_true rfl, Nat.le_of_ble_eq_true rfl⟩ (fun r_146 M_144 H locs hp_145 hM hS => ?_)
                obtain ⟨rfl, hM9⟩ := hp_145
                rw [hM9] at hM
                refine W.eq (g2 := F0 m 95 ls [.int (nI (zlm (F 11) (L 14) (nI (j + 1)) day ac) - 1)]) rfl ?_
                rcases hm : zlm (F 11) (L 14) (nI (j + 1)) day ac with _ | z
                · refine W.eq (g2 := F0 m 95 ls [.int (-1)]) rfl ?_
                  refine lv_goto (tgt := 99) hx hb dX3_act_95 (by decide) ?_
                  refine lv_istore (lv' := [(7, .int (-1)), (6, .int 1), (0, .ref m0), (1, .int (nI (j + 1))), (2, .int kind), (3, .int place), (4, .long day)]) hx hb dX3_act_99 hl (by decide) rfl (fun ls hl => ?_)
                  refine lv_iload hx hb dX3_act_101 (lv_at hl 1 rfl) ?_
                  refine lv_if_ne (tgt := 115) hx hb dX3_act_103 (by decide) (fun c_147 => ?_) (fun c_147 => absurd c_147 (by decide))
                  refine lv_iload hx hb dX3_act_115 (lv_at hl 0 rfl) ?_
                  refine lv_iconst (v := -1) hx hb dX3_act_117 (by decide) ?_
                  refine lv_icmp_ne (tgt := 125) hx hb dX3_act_118 (by decide) (fun c_148 => absurd c_148 (by decide)) (fun c_148 => ?_)
                  refine lv_iconst (v := 3) hx hb dX3_act_121 (by decide) ?_
                  refine lv_goto (tgt := 132) hx hb dX3_act_122 (by decide) ?_
                  refine lv_istore (lv' := [(8, .int 3), (7, .int (-1)), (6, .int 1), (0, .ref m0), (1, .int (nI (j + 1))), (2, .int kind), (3, .int place), (4, .long day)]) hx hb dX3_act_132 hl (by decide) rfl (fun ls hl => ?_)
                  refine lv_iload_n hx hb dX3_act_134 rfl (lv_at hl 5 rfl) ?_
                  refine lv_iload hx hb dX3_act_135 (lv_at hl 0 rfl) ?_
                  refine z_callS (As := [.int kind, .int 3]) (rest := []) S (c_X3_follows l A G M_1 kind 3) ok_X3_follows kw_320 kw_321 ⟨Nat.le_of_ble_eq_true rfl, Nat.le_of_ble_eq_true rfl⟩ hK hM hS hA rfl hl.1 rfl (Nat.le_of_ble_eq_true rfl) dX3_act_137 ⟨Nat.le_of_ble_eq_true rfl, Nat.le_of_ble_eq_true rfl⟩ (fun r_151 M_149 H locs hp_150 hM hS => ?_)
                  obtain ⟨rfl, hM9⟩ := hp_150
                  rw [hM9] at hM
                  refine W.eq (g2 := F0 m 140 ls [.int (zb (zFm kind 3))]) rfl ?_
                  refine lv_if_ne (tgt := 146) hx hb dX3_act_140 (by decide) (fun c_152 => ?_) (fun c_152 => ?_)
                  · rw [zb_0n] at c_152
                    refine lv_iload_n hx hb dX3_act_146 rfl (lv_at hl 5 rfl) ?_
                    refine lv_iconst (v := 2) hx hb dX3_act_147 (by decide) ?_
                    refine lv_icmp_ne (tgt := 170) hx hb dX3_act_148 (by decide) (fun c_153 => ?_) (fun c_153 => ?_)
                    · refine lv_iload_n hx hb dX3_act_170 rfl (lv_at hl 5 rfl) ?_
                      refine lv_if_ne (tgt := 212) hx hb dX3_act_171 (by decide) (fun c_154 => ?_) (fun c_154 => ?_)
                      · refine lv_aload_n hx hb dX3_act_212 rfl (lv_at hl 3 rfl) ?_
                        refine lv_iload_n hx hb dX3_act_213 rfl (lv_at hl 4 rfl) ?_
                        refine lv_iload_n hx hb dX3_act_214 rfl (lv_at hl 5 rfl) ?_
                        refine lv_iload hx hb dX3_act_215 (lv_at hl 2 rfl) ?_
                        refine lv_lload hx hb dX3_act_217 (lv_at hl 7 rfl) ?_
                        refine z_callV (As := [.int (nI (j + 1)), .int kind, .int 1, .long day]) (rest := []) S (c_X3_enter l A G M_1 m0 ar 0 co ac gr F L (nI (j + 1)) kind 1 day hJ_3 hco (by omega) (Or.inr rfl) hbl) ok_X3_enter kw_323 kw_325 ks_9 ⟨Nat.le_of_ble_eq_true rfl, Nat.le_of_ble_eq_true rfl⟩ hK hM hS hA hJ_3.1 rfl rfl hl.1 rfl (Nat.le_of_ble_eq_true rfl) dX3_act_219 ⟨Nat.le_of_ble_eq_true rfl, Nat.le_of_ble_eq_true rfl⟩ (fun r_157 M_155 H locs hp_156 hM hS => ?_)
                        obtain ⟨rfl, hJ_158⟩ := hp_156
                        refine W.eq (g2 := F0 m 222 ls []) rfl ?_
                        refine lv_iload hx hb dX3_act_222 (lv_at hl 2 rfl) ?_
                        refine lv_if_eq (tgt := 229) hx hb dX3_act_224 (by decide) (fun c_159 => absurd c_159 (by decide)) (fun c_159 => ?_)
                        refine lv_iload_n hx hb dX3_act_227 rfl (lv_at hl 5 rfl) ?_
                        exact z_iret S hr hlocks hM hS (by unfold zBQ; rw [hz]; dsimp only; rw [if_pos ⟨c_8, c_9, c_10, c_11, fun q => absurd q c_12⟩, zBe_l (Int64.not_le.mp c_13), zms_z hm]; rw [if_pos c_152]; rw [if_neg (fun q => q.elim (fun q => absurd q.1 c_153) (fun q => absurd q.1 c_154)), if_pos (Int64.not_le.mp c_13), zb_t (Int64.not_le.mp c_13)]; exact ⟨rfl, hJ_158⟩) (Nat.le_of_ble_eq_true rfl) (Nat.le_of_ble_eq_true rfl) dX3_act_228
                      · refine lv_iload hx hb dX3_act_174 (lv_at hl 2 rfl) ?_
                        refine lv_if_ne (tgt := 212) hx hb dX3_act_176 (by decide) (fun c_160 => ?_) (fun c_160 => absurd c_160 (by decide))
                        refine lv_aload_n hx hb dX3_act_212 rfl (lv_at hl 3 rfl) ?_
                        refine lv_iload_n hx hb dX3_act_213 rfl (lv_at hl 4 rfl) ?_
                        refine lv_iload_n hx hb dX3_act_214 rfl (lv_at hl 5 rfl) ?_
                        refine lv_iload hx hb dX3_act_215 (lv_at hl 2 rfl) ?_
                        refine lv_lload hx hb dX3_act_217 (lv_at hl 7 rfl) ?_
                        refine z_callV (As := [.int (nI (j + 1)), .int kind, .int 1, .long day]) (rest := []) S (c_X3_enter l A G M_1 m0 ar 0 co ac gr F L (nI (j + 1)) kind 1 day hJ_3 hco (by omega) (Or.inr rfl) hbl) ok_X3_enter kw_323 kw_325 ks_9 ⟨Nat.le_of_ble_eq_true rfl, Nat.le_of_ble_eq_true rfl⟩ hK hM hS hA hJ_3.1 rfl rfl hl.1 rfl (Nat.le_of_ble_eq_true rfl) dX3_act_219 ⟨Nat.le_of_ble_eq_true rfl, Nat.le_of_ble_eq_true rfl⟩ (fun r_163 M_161 H locs hp_162 hM hS => ?_)
                        obtain ⟨rfl, hJ_164⟩ := hp_162
                        refine W.eq (g2 := F0 m 222 ls []) rfl ?_
                        refine lv_iload hx hb dX3_act_222 (lv_at hl 2 rfl) ?_
                        refine lv_if_eq (tgt := 229) hx hb dX3_act_224 (by decide) (fun c_165 => absurd c_165 (by decide)) (fun c_165 => ?_)
                        refine lv_iload_n hx hb dX3_act_227 rfl (lv_at hl 5 rfl) ?_
                        exact z_iret S hr hlocks hM hS (by unfold zBQ; rw [hz]; dsimp only; rw [if_pos ⟨c_8, c_9, c_10, c_11, fun q => absurd q c_12⟩, zBe_l (Int64.not_le.mp c_13), zms_z hm]; rw [if_pos c_152]; rw [if_neg (fun q => q.elim (fun q => absurd q.1 c_153) (fun q => q.2.1 (Int64.not_le.mp c_13))), if_pos (Int64.not_le.mp c_13), zb_t (Int64.not_le.mp c_13)]; exact ⟨rfl, hJ_164⟩) (Nat.le_of_ble_eq_true rfl) (Nat.le_of_ble_eq_true rfl) dX3_act_228
                    · exact absurd c_153 c_12
                  · rw [zb_0] at c_152
                    refine lv_bipush (v := -2) hx hb dX3_act_143 (by decide) ?_
                    exact z_iret S hr hlocks hM hS (by unfold zBQ; rw [hz]; dsimp only; rw [if_pos ⟨c_8, c_9, c_10, c_11, fun q => absurd q c_12⟩, zBe_l (Int64.not_le.mp c_13), zms_z hm]; rw [if_neg c_152]; exact ⟨rfl, hJ_3⟩) (Nat.le_of_ble_eq_true rfl) (Nat.le_of_ble_eq_true rfl) dX3_act_145
                · rw [nI_pred]
                  have hza : z < ac := by have h5 := zlm_le (F 11) (L 14) (nI (j + 1)) day ac; omega
                  have hcz : (nI z).toNatClampNeg = z := nI_clamp (by omega)
                  refine lv_goto (tgt := 99) hx hb dX3_act_95 (by decide) ?_
                  refine lv_istore (lv' := [(7, .int (nI z)), (6, .int 1), (0, .ref m0), (1, .int (nI (j + 1))), (2, .int kind), (3, .int place), (4, .long day)]) hx hb dX3_act_99 hl (by decide) rfl (fun ls hl => ?_)
                  refine lv_iload hx hb dX3_act_101 (lv_at hl 1 rfl) ?_
                  refine lv_if_ne (tgt := 115) hx hb dX3_act_103 (by decide) (fun c_166 => ?_) (fun c_166 => absurd c_166 (by decide))
                  refine lv_iload hx hb dX3_act_115 (lv_at hl 0 rfl) ?_
                  refine lv_iconst (v := -1) hx hb dX3_act_117 (by decide) ?_
                  refine lv_icmp_ne (tgt := 125) hx hb dX3_act_118 (by decide) (fun c_167 => ?_) (fun c_167 => ?_)
                  · refine lv_aload_n hx hb dX3_act_125 rfl (lv_at hl 2 rfl) ?_
                    refine z_get (v := .ref (ar 12)) S kX3 hK hM hJ_3.1 15 (by decide) kw_235 rfl dX3_act_126 ?_
                    refine lv_iload hx hb dX3_act_129 (lv_at hl 0 rfl) ?_
                    refine z_iald S hK hM 0 (show M_1 (ar 12) = some (.inl (G.2.2 0, 5000, .inl (F 12))) from hJ_3.2.1 12 (by decide)) rfl (zvp5 hza hac5) dX3_act_131 ?_
                    rw [hcz]
                    refine lv_istore (lv' := [(8, .int (F 12 z)), (7, .int (nI z)), (6, .int 1), (0, .ref m0), (1, .int (nI (j + 1))), (2, .int kind), (3, .int place), (4, .long day)]) hx hb dX3_act_132 hl (by decide) rfl (fun ls hl => ?_)
                    refine lv_iload_n hx hb dX3_act_134 rfl (lv_at hl 5 rfl) ?_
                    refine lv_iload hx hb dX3_act_135 (lv_at hl 0 rfl) ?_
                    refine z_callS (As := [.int kind, .int (F 12 z)]) (rest := []) S (c_X3_follows l A G M_1 kind (F 12 z)) ok_X3_follows kw_320 kw_321 ⟨Nat.le_of_ble_eq_true rfl, Nat.le_of_ble_eq_true rfl⟩ hK hM hS hA rfl hl.1 rfl (Nat.le_of_ble_eq_true rfl) dX3_act_137 ⟨Nat.le_of_ble_eq_true rfl, Nat.le_of_ble_eq_true rfl⟩ (fun r_170 M_168 H locs hp_169 hM hS => ?_)
                    obtain ⟨rfl, hM9⟩ := hp_169
                    rw [hM9] at hM
                    refine W.eq (g2 := F0 m 140 ls [.int (zb (zFm kind (F 12 z)))]) rfl ?_
                    refine lv_if_ne (tgt := 146) hx hb dX3_act_140 (by decide) (fun c_171 => ?_) (fun c_171 => ?_)
                    · rw [zb_0n] at c_171
                      refine lv_iload_n hx hb dX3_act_146 rfl (lv_at hl 5 rfl) ?_
                      refine lv_iconst (v := 2) hx hb dX3_act_147 (by decide) ?_
                      refine lv_icmp_ne (tgt := 170) hx hb dX3_act_148 (by decide) (fun c_172 => ?_) (fun c_172 => ?_)
                      · refine lv_iload_n hx hb dX3_act_170 rfl (lv_at hl 5 rfl) ?_
                        refine lv_if_ne (tgt := 212) hx hb dX3_act_171 (by decide) (fun c_173 => ?_) (fun c_173 => ?_)
                        · refine lv_aload_n hx hb dX3_act_212 rfl (lv_at hl 3 rfl) ?_
                          refine lv_iload_n hx hb dX3_act_213 rfl (lv_at hl 4 rfl) ?_
                          refine lv_iload_n hx hb dX3_act_214 rfl (lv_at hl 5 rfl) ?_
                          refine lv_iload hx hb dX3_act_215 (lv_at hl 2 rfl) ?_
                          refine lv_lload hx hb dX3_act_217 (lv_at hl 7 rfl) ?_
                          refine z_callV (As := [.int (nI (j + 1)), .int kind, .int 1, .long day]) (rest := []) S (c_X3_enter l A G M_1 m0 ar 0 co ac gr F L (nI (j + 1)) kind 1 day hJ_3 hco (by omega) (Or.inr rfl) hbl) ok_X3_enter kw_323 kw_325 ks_9 ⟨Nat.le_of_ble_eq_true rfl, Nat.le_of_ble_eq_true rfl⟩ hK hM hS hA hJ_3.1 rfl rfl hl.1 rfl (Nat.le_of_ble_eq_true rfl) dX3_act_219 ⟨Nat.le_of_ble_eq_true rfl, Nat.le_of_ble_eq_true rfl⟩ (fun r_176 M_174 H locs hp_175 hM hS => ?_)
                          obtain ⟨rfl, hJ_177⟩ := hp_175
                          refine W.eq (g2 := F0 m 222 ls []) rfl ?_
                          refine lv_iload hx hb dX3_act_222 (lv_at hl 2 rfl) ?_
                          refine lv_if_eq (tgt := 229) hx hb dX3_act_224 (by decide) (fun c_178 => absurd c_178 (by decide)) (fun c_178 => ?_)
                          refine lv_iload_n hx hb dX3_act_227 rfl (lv_at hl 5 rfl) ?_
                          exact z_iret S hr hlocks hM hS (by unfold zBQ; rw [hz]; dsimp only; rw [if_pos ⟨c_8, c_9, c_10, c_11, fun q => absurd q c_12⟩, zBe_l (Int64.not_le.mp c_13), zms_s hm]; rw [if_pos c_171]; rw [if_neg (fun q => q.elim (fun q => absurd q.1 c_172) (fun q => absurd q.1 c_173)), if_pos (Int64.not_le.mp c_13), zb_t (Int64.not_le.mp c_13)]; exact ⟨rfl, hJ_177⟩) (Nat.le_of_ble_eq_true rfl) (Nat.le_of_ble_eq_true rfl) dX3_act_228
                        · refine lv_iload hx hb dX3_act_174 (lv_at hl 2 rfl) ?_
                          refine lv_if_ne (tgt := 212) hx hb dX3_act_176 (by decide) (fun c_179 => ?_) (fun c_179 => absurd c_179 (by decide))
                          refine lv_aload_n hx hb dX3_act_212 rfl (lv_at hl 3 rfl) ?_
                          refine lv_iload_n hx hb dX3_act_213 rfl (lv_at hl 4 rfl) ?_
                          refine lv_iload_n hx hb dX3_act_214 rfl (lv_at hl 5 rfl) ?_
                          refine lv_iload hx hb dX3_act_215 (lv_at hl 2 rfl) ?_
                          refine lv_lload hx hb dX3_act_217 (lv_at hl 7 rfl) ?_
                          refine z_callV (As := [.int (nI (j + 1)), .int kind, .int 1, .long day]) (rest := []) S (c_X3_enter l A G M_1 m0 ar 0 co ac gr F L (nI (j + 1)) kind 1 day hJ_3 hco (by omega) (Or.inr rfl) hbl) ok_X3_enter kw_323 kw_325 ks_9 ⟨Nat.le_of_ble_eq_true rfl, Nat.le_of_ble_eq_true rfl⟩ hK hM hS hA hJ_3.1 rfl rfl hl.1 rfl (Nat.le_of_ble_eq_true rfl) dX3_act_219 ⟨Nat.le_of_ble_eq_true rfl, Nat.le_of_ble_eq_true rfl⟩ (fun r_182 M_180 H locs hp_181 hM hS => ?_)
                          obtain ⟨rfl, hJ_183⟩ := hp_181
                          refine W.eq (g2 := F0 m 222 ls []) rfl ?_
                          refine lv_iload hx hb dX3_act_222 (lv_at hl 2 rfl) ?_
                          refine lv_if_eq (tgt := 229) hx hb dX3_act_224 (by decide) (fun c_184 => absurd c_184 (by decide)) (fun c_184 => ?_)
                          refine lv_iload_n hx hb dX3_act_227 rfl (lv_at hl 5 rfl) ?_
                          exact z_iret S hr hlocks hM hS (by unfold zBQ; rw [hz]; dsimp only; rw [if_pos ⟨c_8, c_9, c_10, c_11, fun q => absurd q c_12⟩, zBe_l (Int64.not_le.mp c_13), zms_s hm]; rw [if_pos c_171]; rw [if_neg (fun q => q.elim (fun q => absurd q.1 c_172) (fun q => q.2.1 (Int64.not_le.mp c_13))), if_pos (Int64.not_le.mp c_13), zb_t (Int64.not_le.mp c_13)]; exact ⟨rfl, hJ_183⟩) (Nat.le_of_ble_eq_true rfl) (Nat.le_of_ble_eq_true rfl) dX3_act_228
                      · exact absurd c_172 c_12
                    · rw [zb_0] at c_171
                      refine lv_bipush (v := -2) hx hb dX3_act_143 (by decide) ?_
                      exact z_iret S hr hlocks hM hS (by unfold zBQ; rw [hz]; dsimp only; rw [if_pos ⟨c_8, c_9, c_10, c_11, fun q => absurd q c_12⟩, zBe_l (Int64.not_le.mp c_13), zms_s hm]; rw [if_neg c_171]; exact ⟨rfl, hJ_3⟩) (Nat.le_of_ble_eq_true rfl) (Nat.le_of_ble_eq_true rfl) dX3_act_145
                  · exact absurd c_167 (zne1 (by omega))
            · have hk2 := c_12
              refine lv_iload_n hx hb dX3_act_44 rfl (lv_at hl 3 rfl) ?_
              refine lv_if_lt (tgt := 64) hx hb dX3_act_45 (by decide) (fun c_185 => ?_) (fun c_185 => ?_)
              · refine lv_iconst (v := -1) hx hb dX3_act_64 (by decide) ?_
                exact z_iret S hr hlocks hM hS (by unfold zBQ; rw [hz]; dsimp only; rw [if_neg (fun q => (q.2.2.2.2 hk2).1.1 c_185)]; exact ⟨rfl, hJ_3⟩) (Nat.le_of_ble_eq_true rfl) (Nat.le_of_ble_eq_true rfl) dX3_act_65
              · refine lv_iload_n hx hb dX3_act_48 rfl (lv_at hl 3 rfl) ?_
                refine lv_bipush (v := 9) hx hb dX3_act_49 (by decide) ?_
                refine lv_icmp_gt (tgt := 64) hx hb dX3_act_51 (by decide) (fun c_186 => ?_) (fun c_186 => ?_)
                · refine lv_iconst (v := -1) hx hb dX3_act_64 (by decide) ?_
                  exact z_iret S hr hlocks hM hS (by unfold zBQ; rw [hz]; dsimp only; rw [if_neg (fun q => (q.2.2.2.2 hk2).1.2 (gt9 c_186))]; exact ⟨rfl, hJ_3⟩) (Nat.le_of_ble_eq_true rfl) (Nat.le_of_ble_eq_true rfl) dX3_act_65
                · refine lv_iload_n hx hb dX3_act_54 rfl (lv_at hl 3 rfl) ?_
                  refine lv_aload_n hx hb dX3_act_55 rfl (lv_at hl 0 rfl) ?_
                  refine z_get (v := .ref (ar 4)) S kX3 hK hM hJ_3.1 6 (by decide) kw_226 rfl dX3_act_56 ?_
                  refine lv_iload_n hx hb dX3_act_59 rfl (lv_at hl 1 rfl) ?_
                  refine z_iald S hK hM 0 (show M_1 (ar 4) = some (.inl (G.2.2 0, 81, .inl (F 4))) from hJ_3.2.1 4 (by decide)) rfl (zvp81 hj hco) dX3_act_60 ?_
                  rw [hcl]
                  refine lv_icmp_ne (tgt := 66) hx hb dX3_act_61 (by decide) (fun c_187 => ?_) (fun c_187 => ?_)
                  · refine lv_lload hx hb dX3_act_66 (lv_at hl 4 rfl) ?_
                    refine lv_aload_n hx hb dX3_act_68 rfl (lv_at hl 0 rfl) ?_
                    refine z_get (v := .long gr) S kX3 hK hM hJ_3.1 18 (by decide) kw_238 rfl dX3_act_69 ?_
                    refine W.lcmp hx hb dX3_act_72 ?_
                    refine lv_if_ge (tgt := 80) hx hb dX3_act_73 (by decide) (fun c_188 => ?_) (fun c_188 => ?_)
                    · rw [lg_cmp_ge] at c_188
                      refine lv_iconst (v := 0) hx hb dX3_act_80 (by decide) ?_
                      refine lv_istore (lv' := [(6, .int 0), (0, .ref m0), (1, .int (nI (j + 1))), (2, .int kind), (3, .int place), (4, .long day)]) hx hb dX3_act_81 hl (by decide) rfl (fun ls hl => ?_)
                      refine lv_iload hx hb dX3_act_83 (lv_at hl 0 rfl) ?_
                      refine lv_if_eq (tgt := 98) hx hb dX3_act_85 (by decide) (fun c_189 => ?_) (fun c_189 => absurd c_189 (by decide))
                      refine lv_iconst (v := -1) hx hb dX3_act_98 (by decide) ?_
                      refine lv_istore (lv' := [(7, .int (-1)), (6, .int 0), (0, .ref m0), (1, .int (nI (j + 1))), (2, .int kind), (3, .int place), (4, .long day)]) hx hb dX3_act_99 hl (by decide) rfl (fun ls hl => ?_)
                      refine lv_iload hx hb dX3_act_101 (lv_at hl 1 rfl) ?_
                      refine lv_if_ne (tgt := 115) hx hb dX3_act_103 (by decide) (fun c_190 => absurd c_190 (by decide)) (fun c_190 => ?_)
                      refine lv_aload_n hx hb dX3_act_106 rfl (lv_at hl 2 rfl) ?_
                      refine z_get (v := .ref (ar 5)) S kX3 hK hM hJ_3.1 7 (by decide) kw_227 rfl dX3_act_107 ?_
                      refine lv_iload_n hx hb dX3_act_110 rfl (lv_at hl 3 rfl) ?_
                      refine z_iald S hK hM 0 (show M_1 (ar 5) = some (.inl (G.2.2 0, 81, .inl (F 5))) from hJ_3.2.1 5 (by decide)) rfl (zvp81 hj hco) dX3_act_111 ?_
                      rw [hcl]
                      refine lv_goto (tgt := 132) hx hb dX3_act_112 (by decide) ?_
                      refine lv_istore (lv' := [(8, .int (F 5 (j + 1))), (7, .int (-1)), (6, .int 0), (0, .ref m0), (1, .int (nI (j + 1))), (2, .int kind), (3, .int place), (4, .long day)]) hx hb dX3_act_132 hl (by decide) rfl (fun ls hl => ?_)
                      refine lv_iload_n hx hb dX3_act_134 rfl (lv_at hl 5 rfl) ?_
                      refine lv_iload hx hb dX3_act_135 (lv_at hl 0 rfl) ?_
                      refine z_callS (As := [.int kind, .int (F 5 (j + 1))]) (rest := []) S (c_X3_follows l A G M_1 kind (F 5 (j + 1))) ok_X3_follows kw_320 kw_321 ⟨Nat.le_of_ble_eq_true rfl, Nat.le_of_ble_eq_true rfl⟩ hK hM hS hA rfl hl.1 rfl (Nat.le_of_ble_eq_true rfl) dX3_act_137 ⟨Nat.le_of_ble_eq_true rfl, Nat.le_of_ble_eq_true rfl⟩ (fun r_193 M_191 H locs hp_192 hM hS => ?_)
                      obtain ⟨rfl, hM9⟩ := hp_192
                      rw [hM9] at hM
                      refine W.eq (g2 := F0 m 140 ls [.int (zb (zFm kind (F 5 (j + 1))))]) rfl ?_
                      refine lv_if_ne (tgt := 146) hx hb dX3_act_140 (by decide) (fun c_194 => ?_) (fun c_194 => ?_)
                      · rw [zb_0n] at c_194
                        refine lv_iload_n hx hb dX3_act_146 rfl (lv_at hl 5 rfl) ?_
                        refine lv_iconst (v := 2) hx hb dX3_act_147 (by decide) ?_
                        refine lv_icmp_ne (tgt := 170) hx hb dX3_act_148 (by decide) (fun c_195 => ?_) (fun c_195 => ?_)
                        · exact absurd c_12 c_195
                        · refine lv_aload_n hx hb dX3_act_151 rfl (lv_at hl 3 rfl) ?_
                          refine z_get (v := .ref (ar 9)) S kX3 hK hM hJ_3.1 11 (by decide) kw_231 rfl dX3_act_152 ?_
                          refine lv_bipush (v := 6) hx hb dX3_act_155 (by decide) ?_
                          refine lv_iload_n hx hb dX3_act_157 rfl (lv_at hl 6 rfl) ?_
                          refine lv_imul hx hb dX3_act_158 ?_
                          refine lv_aload_n hx hb dX3_act_159 rfl (lv_at hl 3 rfl) ?_
                          refine z_get (v := .ref (ar 0)) S kX3 hK hM hJ_3.1 2 (by decide) kw_222 rfl dX3_act_160 ?_
                          refine lv_iload_n hx hb dX3_act_163 rfl (lv_at hl 4 rfl) ?_
                          refine z_iald S hK hM 0 (show M_1 (ar 0) = some (.inl (G.2.2 0, 81, .inl (F 0))) from hJ_3.2.1 0 (by decide)) rfl (zvp81 hj hco) dX3_act_164 ?_
                          rw [hcl]
                          refine lv_iadd hx hb dX3_act_165 ?_
                          refine z_zald S hK hM 1 (show M_1 (ar 9) = some (.inl (G.2.2 1, 60, .inl (F 9))) from hJ_3.2.1 9 (by decide)) rfl (zRi_in6 (zPl_9 c_185 c_186) (hty j hj).1) dX3_act_166 ?_
                          refine lv_if_ne (tgt := 209) hx hb dX3_act_167 (by decide) (fun c_196 => ?_) (fun c_196 => ?_)
                          · refine lv_bipush (v := -3) hx hb dX3_act_209 (by decide) ?_
                            exact z_iret S hr hlocks hM hS (by unfold zBQ; rw [hz]; dsimp only; rw [if_pos ⟨c_8, c_9, c_10, c_11, fun _ => ⟨zPl_9 c_185 c_186, c_187⟩⟩, zBe_n (Int64.not_lt.mpr c_188)]; rw [if_pos c_194]; rw [if_pos (Or.inl ⟨hk2, c_196⟩)]; exact ⟨rfl, hJ_3⟩) (Nat.le_of_ble_eq_true rfl) (Nat.le_of_ble_eq_true rfl) dX3_act_211
                          · refine lv_iload_n hx hb dX3_act_170 rfl (lv_at hl 5 rfl) ?_
                            refine lv_if_ne (tgt := 212) hx hb dX3_act_171 (by decide) (fun c_197 => ?_) (fun c_197 => ?_)
                            · refine lv_aload_n hx hb dX3_act_212 rfl (lv_at hl 3 rfl) ?_
                              refine lv_iload_n hx hb dX3_act_213 rfl (lv_at hl 4 rfl) ?_
                              refine lv_iload_n hx hb dX3_act_214 rfl (lv_at hl 5 rfl) ?_
                              refine lv_iload hx hb dX3_act_215 (lv_at hl 2 rfl) ?_
                              refine lv_lload hx hb dX3_act_217 (lv_at hl 7 rfl) ?_
                              refine z_callV (As := [.int (nI (j + 1)), .int kind, .int 0, .long day]) (rest := []) S (c_X3_enter l A G M_1 m0 ar 0 co ac gr F L (nI (j + 1)) kind 0 day hJ_3 hco (by omega) (Or.inl rfl) hbl) ok_X3_enter kw_323 kw_325 ks_9 ⟨Nat.le_of_ble_eq_true rfl, Nat.le_of_ble_eq_true rfl⟩ hK hM hS hA hJ_3.1 rfl rfl hl.1 rfl (Nat.le_of_ble_eq_true rfl) dX3_act_219 ⟨Nat.le_of_ble_eq_true rfl, Nat.le_of_ble_eq_true rfl⟩ (fun r_200 M_198 H locs hp_199 hM hS => ?_)
                              obtain ⟨rfl, hJ_201⟩ := hp_199
                              refine W.eq (g2 := F0 m 222 ls []) rfl ?_
                              refine lv_iload hx hb dX3_act_222 (lv_at hl 2 rfl) ?_
                              refine lv_if_eq (tgt := 229) hx hb dX3_act_224 (by decide) (fun c_202 => ?_) (fun c_202 => absurd c_202 (by decide))
                              refine lv_aload_n hx hb dX3_act_229 rfl (lv_at hl 3 rfl) ?_
                              refine z_get (v := .ref (ar 8)) S kX3 hK hM hJ_201.1 10 (by decide) kw_230 rfl dX3_act_230 ?_
                              refine lv_iload_n hx hb dX3_act_233 rfl (lv_at hl 4 rfl) ?_
                              refine lv_dup2_11 hx hb dX3_act_234 rfl rfl ?_
                              refine z_iald S hK hM 0 (show M_198 (ar 8) = some (.inl (G.2.2 0, 81, .inl (F 8))) from hJ_201.2.1 8 (by decide)) rfl (zvp81 hj hco) dX3_act_235 ?_
                              rw [hcl]
                              refine lv_iload_n hx hb dX3_act_236 rfl (lv_at hl 5 rfl) ?_
                              refine lv_bipush (v := 6) hx hb dX3_act_237 (by decide) ?_
                              refine lv_icmp_ne (tgt := 262) hx hb dX3_act_239 (by decide) (fun c_203 => ?_) (fun c_203 => ?_)
                              · refine lv_iconst (v := 0) hx hb dX3_act_262 (by decide) ?_
                                refine lv_iadd hx hb dX3_act_263 ?_
                                refine z_iast S hK hM hS 0 (show M_198 (ar 8) = some (.inl (G.2.2 0, 81, .inl (F 8))) from hJ_201.2.1 8 (by decide)) rfl (zvp81 hj hco) dX3_act_264 (fun H locs hM hS => ?_)
                                rw [hcl] at hM
                                obtain ⟨M_204, eM_205⟩ : ∃ z : zMap, z = zu M_198 (ar 8) (.inl ((G.2.2 0), 81, .inl (upd (F 8) (j + 1) ((F 8 (j + 1)) + 0)))) := ⟨_, rfl⟩
                                replace hM : zM A G M_204 H := by rw [eM_205]; exact hM
                                have hJ_206 : zJ G M_204 m0 ar 0 (nI co) (nI (ac + 1)) (if day ≤ gr then gr else day) (zuf (zEN F (zps (L 14) day ac) ac (nI (j + 1)) kind 0) 8 (upd (F 8) (j + 1) ((F 8 (j + 1)) + 0))) (zuf L 14 (zpi (L 14) (zps (L 14) day ac) ac day)) := by rw [eM_205]; exact hJ_201.setI 8 (by decide) rfl _
                                refine lv_aload_n hx hb dX3_act_265 rfl (lv_at hl 3 rfl) ?_
                                refine z_get (v := .ref (ar 5)) S kX3 hK hM hJ_206.1 7 (by decide) kw_227 rfl dX3_act_266 ?_
                                refine lv_iload_n hx hb dX3_act_269 rfl (lv_at hl 4 rfl) ?_
                                refine lv_iload_n hx hb dX3_act_270 rfl (lv_at hl 5 rfl) ?_
                                refine z_iast S hK hM hS 0 (show M_204 (ar 5) = some (.inl (G.2.2 0, 81, .inl (F 5))) from hJ_206.2.1 5 (by decide)) rfl (zvp81 hj hco) dX3_act_271 (fun H locs hM hS => ?_)
                                rw [hcl] at hM
                                obtain ⟨M_207, eM_208⟩ : ∃ z : zMap, z = zu M_204 (ar 5) (.inl ((G.2.2 0), 81, .inl (upd (F 5) (j + 1) kind))) := ⟨_, rfl⟩
                                replace hM : zM A G M_207 H := by rw [eM_208]; exact hM
                                have hJ_209 : zJ G M_207 m0 ar 0 (nI co) (nI (ac + 1)) (if day ≤ gr then gr else day) (zuf (zuf (zEN F (zps (L 14) day ac) ac (nI (j + 1)) kind 0) 8 (upd (F 8) (j + 1) ((F 8 (j + 1)) + 0))) 5 (upd (F 5) (j + 1) kind)) (zuf L 14 (zpi (L 14) (zps (L 14) day ac) ac day)) := by rw [eM_208]; exact hJ_206.setI 5 (by decide) rfl _
                                refine lv_aload_n hx hb dX3_act_272 rfl (lv_at hl 3 rfl) ?_
                                refine z_get (v := .ref (ar 4)) S kX3 hK hM hJ_209.1 6 (by decide) kw_226 rfl dX3_act_273 ?_
                                refine lv_iload_n hx hb dX3_act_276 rfl (lv_at hl 4 rfl) ?_
                                refine lv_iload_n hx hb dX3_act_277 rfl (lv_at hl 5 rfl) ?_
                                refine lv_iconst (v := 2) hx hb dX3_act_278 (by decide) ?_
                                refine lv_icmp_ne (tgt := 286) hx hb dX3_act_279 (by decide) (fun c_210 => ?_) (fun c_210 => ?_)
                                · exact absurd c_195 c_210
                                · refine lv_iload_n hx hb dX3_act_282 rfl (lv_at hl 6 rfl) ?_
                                  refine lv_goto (tgt := 292) hx hb dX3_act_283 (by decide) ?_
                                  refine z_iast S hK hM hS 0 (show M_207 (ar 4) = some (.inl (G.2.2 0, 81, .inl (F 4))) from hJ_209.2.1 4 (by decide)) rfl (zvp81 hj hco) dX3_act_292 (fun H locs hM hS => ?_)
                                  rw [hcl] at hM
                                  obtain ⟨M_211, eM_212⟩ : ∃ z : zMap, z = zu M_207 (ar 4) (.inl ((G.2.2 0), 81, .inl (upd (F 4) (j + 1) place))) := ⟨_, rfl⟩
                                  replace hM : zM A G M_211 H := by rw [eM_212]; exact hM
                                  have hJ_213 : zJ G M_211 m0 ar 0 (nI co) (nI (ac + 1)) (if day ≤ gr then gr else day) (zuf (zuf (zuf (zEN F (zps (L 14) day ac) ac (nI (j + 1)) kind 0) 8 (upd (F 8) (j + 1) ((F 8 (j + 1)) + 0))) 5 (upd (F 5) (j + 1) kind)) 4 (upd (F 4) (j + 1) place)) (zuf L 14 (zpi (L 14) (zps (L 14) day ac) ac day)) := by rw [eM_212]; exact hJ_209.setI 4 (by decide) rfl _
                                  refine lv_aload_n hx hb dX3_act_293 rfl (lv_at hl 3 rfl) ?_
                                  refine z_get (v := .ref (ar 3)) S kX3 hK hM hJ_213.1 5 (by decide) kw_225 rfl dX3_act_294 ?_
                                  refine lv_iload_n hx hb dX3_act_297 rfl (lv_at hl 4 rfl) ?_
                                  refine lv_iload_n hx hb dX3_act_298 rfl (lv_at hl 5 rfl) ?_
                                  refine lv_if_ne (tgt := 320) hx hb dX3_act_299 (by decide) (fun c_214 => ?_) (fun c_214 => ?_)
                                  · refine lv_aload_n hx hb dX3_act_320 rfl (lv_at hl 3 rfl) ?_
                                    refine z_get (v := .ref (ar 3)) S kX3 hK hM hJ_213.1 5 (by decide) kw_225 rfl dX3_act_321 ?_
                                    refine lv_iload_n hx hb dX3_act_324 rfl (lv_at hl 4 rfl) ?_
                                    refine z_iald S hK hM 0 (show M_211 (ar 3) = some (.inl (G.2.2 0, 81, .inl (F 3))) from hJ_213.2.1 3 (by decide)) rfl (zvp81 hj hco) dX3_act_325 ?_
                                    rw [hcl]
                                    refine z_iast S hK hM hS 0 (show M_211 (ar 3) = some (.inl (G.2.2 0, 81, .inl (F 3))) from hJ_213.2.1 3 (by decide)) rfl (zvp81 hj hco) dX3_act_326 (fun H locs hM hS => ?_)
                                    rw [hcl] at hM
                                    obtain ⟨M_215, eM_216⟩ : ∃ z : zMap, z = zu M_211 (ar 3) (.inl ((G.2.2 0), 81, .inl (upd (F 3) (j + 1) (F 3 (j + 1))))) := ⟨_, rfl⟩
                                    replace hM : zM A G M_215 H := by rw [eM_216]; exact hM
                                    have hJ_217 : zJ G M_215 m0 ar 0 (nI co) (nI (ac + 1)) (if day ≤ gr then gr else day) (zuf (zuf (zuf (zuf (zEN F (zps (L 14) day ac) ac (nI (j + 1)) kind 0) 8 (upd (F 8) (j + 1) ((F 8 (j + 1)) + 0))) 5 (upd (F 5) (j + 1) kind)) 4 (upd (F 4) (j + 1) place)) 3 (upd (F 3) (j + 1) (F 3 (j + 1)))) (zuf L 14 (zpi (L 14) (zps (L 14) day ac) ac day)) := by rw [eM_216]; exact hJ_213.setI 3 (by decide) rfl _
                                    refine lv_aload_n hx hb dX3_act_327 rfl (lv_at hl 3 rfl) ?_
                                    refine z_get (v := .ref (ar 7)) S kX3 hK hM hJ_217.1 9 (by decide) kw_229 rfl dX3_act_328 ?_
                                    refine lv_iload_n hx hb dX3_act_331 rfl (lv_at hl 4 rfl) ?_
                                    refine lv_iconst (v := -1) hx hb dX3_act_332 (by decide) ?_
                                    refine z_iast S hK hM hS 0 (show M_215 (ar 7) = some (.inl (G.2.2 0, 81, .inl (F 7))) from hJ_217.2.1 7 (by decide)) rfl (zvp81 hj hco) dX3_act_333 (fun H locs hM hS => ?_)
                                    rw [hcl] at hM
                                    obtain ⟨M_218, eM_219⟩ : ∃ z : zMap, z = zu M_215 (ar 7) (.inl ((G.2.2 0), 81, .inl (upd (F 7) (j + 1) (-1)))) := ⟨_, rfl⟩
                                    replace hM : zM A G M_218 H := by rw [eM_219]; exact hM
                                    have hJ_220 : zJ G M_218 m0 ar 0 (nI co) (nI (ac + 1)) (if day ≤ gr then gr else day) (zuf (zuf (zuf (zuf (zuf (zEN F (zps (L 14) day ac) ac (nI (j + 1)) kind 0) 8 (upd (F 8) (j + 1) ((F 8 (j + 1)) + 0))) 5 (upd (F 5) (j + 1) kind)) 4 (upd (F 4) (j + 1) place)) 3 (upd (F 3) (j + 1) (F 3 (j + 1)))) 7 (upd (F 7) (j + 1) (-1))) (zuf L 14 (zpi (L 14) (zps (L 14) day ac) ac day)) := by rw [eM_219]; exact hJ_217.setI 7 (by decide) rfl _
                                    refine lv_iload_n hx hb dX3_act_334 rfl (lv_at hl 5 rfl) ?_
                                    exact z_iret S hr hlocks hM hS (by unfold zBQ; rw [hz]; dsimp only; rw [if_pos ⟨c_8, c_9, c_10, c_11, fun _ => ⟨zPl_9 c_185 c_186, c_187⟩⟩, zBe_n (Int64.not_lt.mpr c_188)]; rw [if_pos c_194]; rw [if_neg (fun q => q.elim (fun q => q.2 c_196) (fun q => absurd (hk2.symm.trans q.1) (by decide))), if_neg (Int64.not_lt.mpr c_188), zb_f (Int64.not_lt.mpr c_188)]; exact ⟨rfl, by rw [zCF_eq (F0 := zEN F (zps (L 14) day ac) ac (nI (j + 1)) kind 0) (j := j) (kind := kind) (place := place) (fro := F 5 (j + 1)) (if_neg (fun q => c_203 q.1)) (if_pos c_210) (if_neg (fun q => c_214 q.1))]; exact hJ_220⟩) (Nat.le_of_ble_eq_true rfl) (Nat.le_of_ble_eq_true rfl) dX3_act_335
                                  · exact absurd (c_210.symm.trans c_214) (by decide)
                              · exact absurd (c_195.symm.trans c_203) (by decide)
                            · exact absurd (c_195.symm.trans c_197) (by decide)
                      · rw [zb_0] at c_194
                        refine lv_bipush (v := -2) hx hb dX3_act_143 (by decide) ?_
                        exact z_iret S hr hlocks hM hS (by unfold zBQ; rw [hz]; dsimp only; rw [if_pos ⟨c_8, c_9, c_10, c_11, fun _ => ⟨zPl_9 c_185 c_186, c_187⟩⟩, zBe_n (Int64.not_lt.mpr c_188)]; rw [if_neg c_194]; exact ⟨rfl, hJ_3⟩) (Nat.le_of_ble_eq_true rfl) (Nat.le_of_ble_eq_true rfl) dX3_act_145
                    · rw [lg_cmp_ge] at c_188
                      refine lv_iconst (v := 1) hx hb dX3_act_76 (by decide) ?_
                      refine lv_goto (tgt := 81) hx hb dX3_act_77 (by decide) ?_
                      refine lv_istore (lv' := [(6, .int 1), (0, .ref m0), (1, .int (nI (j + 1))), (2, .int kind), (3, .int place), (4, .long day)]) hx hb dX3_act_81 hl (by decide) rfl (fun ls hl => ?_)
                      refine lv_iload hx hb dX3_act_83 (lv_at hl 0 rfl) ?_
                      refine lv_if_eq (tgt := 98) hx hb dX3_act_85 (by decide) (fun c_221 => absurd c_221 (by decide)) (fun c_221 => ?_)
                      refine lv_aload_n hx hb dX3_act_88 rfl (lv_at hl 1 rfl) ?_
                      refine lv_iload_n hx hb dX3_act_89 rfl (lv_at hl 2 rfl) ?_
                      refine lv_lload hx hb dX3_act_90 (lv_at hl 5 rfl) ?_
                      refine z_callV (As := [.int (nI (j + 1)), .long day]) (rest := []) S (c_X3_last l A G M_1 m0 ar 0 co ac gr F L (nI (j + 1)) day hJ_3 hco (by omega)) ok_X3_last kw_311 kw_313 ks_8 ⟨Nat.le_of_ble_eq_true rfl, Nat.le_of_ble_eq_true rfl⟩ hK hM hS hA hJ_3.1 rfl rfl hl.1 rfl (Nat.le_of_ble_eq_true rfl) dX3_act_92 ⟨Nat.le_of_ble_eq_true rfl, Nat.le_of_ble_eq_true rfl⟩ (fun r_224 M_222 H locs hp_223 hM hS => ?_)
                      obtain ⟨rfl, hM9⟩ := hp_223
                      rw [hM9] at hM
                      refine W.eq (g2 := F0 m 95 ls [.int (nI (zlm (F 11) (L 14) (nI (j + 1)) day ac) - 1)]) rfl ?_
                      rcases hm : zlm (F 11) (L 14) (nI (j + 1)) day ac with _ | z
                      · refine W.eq (g2 := F0 m 95 ls [.int (-1)]) rfl ?_
                        refine lv_goto (tgt := 99) hx hb dX3_act_95 (by decide) ?_
                        refine lv_istore (lv' := [(7, .int (-1)), (6, .int 1), (0, .ref m0), (1, .int (nI (j + 1))), (2, .int kind), (3, .int place), (4, .long day)]) hx hb dX3_act_99 hl (by decide) rfl (fun ls hl => ?_)
                        refine lv_iload hx hb dX3_act_101 (lv_at hl 1 rfl) ?_
                        refine lv_if_ne (tgt := 115) hx hb dX3_act_103 (by decide) (fun c_225 => ?_) (fun c_225 => absurd c_225 (by decide))
                        refine lv_iload hx hb dX3_act_115 (lv_at hl 0 rfl) ?_
                        refine lv_iconst (v := -1) hx hb dX3_act_117 (by decide) ?_
                        refine lv_icmp_ne (tgt := 125) hx hb dX3_act_118 (by decide) (fun c_226 => absurd c_226 (by decide)) (fun c_226 => ?_)
                        refine lv_iconst (v := 3) hx hb dX3_act_121 (by decide) ?_
                        refine lv_goto (tgt := 132) hx hb dX3_act_122 (by decide) ?_
                        refine lv_istore (lv' := [(8, .int 3), (7, .int (-1)), (6, .int 1), (0, .ref m0), (1, .int (nI (j + 1))), (2, .int kind), (3, .int place), (4, .long day)]) hx hb dX3_act_132 hl (by decide) rfl (fun ls hl => ?_)
                        refine lv_iload_n hx hb dX3_act_134 rfl (lv_at hl 5 rfl) ?_
                        refine lv_iload hx hb dX3_act_135 (lv_at hl 0 rfl) ?_
                        refine z_callS (As := [.int kind, .int 3]) (rest := []) S (c_X3_follows l A G M_1 kind 3) ok_X3_follows kw_320 kw_321 ⟨Nat.le_of_ble_eq_true rfl, Nat.le_of_ble_eq_true rfl⟩ hK hM hS hA rfl hl.1 rfl (Nat.le_of_ble_eq_true rfl) dX3_act_137 ⟨Nat.le_of_ble_eq_true rfl, Nat.le_of_ble_eq_true rfl⟩ (fun r_229 M_227 H locs hp_228 hM hS => ?_)
                        obtain ⟨rfl, hM9⟩ := hp_228
                        rw [hM9] at hM
                        refine W.eq (g2 := F0 m 140 ls [.int (zb (zFm kind 3))]) rfl ?_
                        refine lv_if_ne (tgt := 146) hx hb dX3_act_140 (by decide) (fun c_230 => ?_) (fun c_230 => ?_)
                        · rw [zb_0n] at c_230
                          refine lv_iload_n hx hb dX3_act_146 rfl (lv_at hl 5 rfl) ?_
                          refine lv_iconst (v := 2) hx hb dX3_act_147 (by decide) ?_
                          refine lv_icmp_ne (tgt := 170) hx hb dX3_act_148 (by decide) (fun c_231 => ?_) (fun c_231 => ?_)
                          · exact absurd c_12 c_231
                          · refine lv_aload_n hx hb dX3_act_151 rfl (lv_at hl 3 rfl) ?_
                            refine z_get (v := .ref (ar 9)) S kX3 hK hM hJ_3.1 11 (by decide) kw_231 rfl dX3_act_152 ?_
                            refine lv_bipush (v := 6) hx hb dX3_act_155 (by decide) ?_
                            refine lv_iload_n hx hb dX3_act_157 rfl (lv_at hl 6 rfl) ?_
                            refine lv_imul hx hb dX3_act_158 ?_
                            refine lv_aload_n hx hb dX3_act_159 rfl (lv_at hl 3 rfl) ?_
                            refine z_get (v := .ref (ar 0)) S kX3 hK hM hJ_3.1 2 (by decide) kw_222 rfl dX3_act_160 ?_
                            refine lv_iload_n hx hb dX3_act_163 rfl (lv_at hl 4 rfl) ?_
                            refine z_iald S hK hM 0 (show M_1 (ar 0) = some (.inl (G.2.2 0, 81, .inl (F 0))) from hJ_3.2.1 0 (by decide)) rfl (zvp81 hj hco) dX3_act_164 ?_
                            rw [hcl]
                            refine lv_iadd hx hb dX3_act_165 ?_
                            refine z_zald S hK hM 1 (show M_1 (ar 9) = some (.inl (G.2.2 1, 60, .inl (F 9))) from hJ_3.2.1 9 (by decide)) rfl (zRi_in6 (zPl_9 c_185 c_186) (hty j hj).1) dX3_act_166 ?_
                            refine lv_if_ne (tgt := 209) hx hb dX3_act_167 (by decide) (fun c_232 => ?_) (fun c_232 => ?_)
                            · refine lv_bipush (v := -3) hx hb dX3_act_209 (by decide) ?_
                              exact z_iret S hr hlocks hM hS (by unfold zBQ; rw [hz]; dsimp only; rw [if_pos ⟨c_8, c_9, c_10, c_11, fun _ => ⟨zPl_9 c_185 c_186, c_187⟩⟩, zBe_l (Int64.not_le.mp c_188), zms_z hm]; rw [if_pos c_230]; rw [if_pos (Or.inl ⟨hk2, c_232⟩)]; exact ⟨rfl, hJ_3⟩) (Nat.le_of_ble_eq_true rfl) (Nat.le_of_ble_eq_true rfl) dX3_act_211
                            · refine lv_iload_n hx hb dX3_act_170 rfl (lv_at hl 5 rfl) ?_
                              refine lv_if_ne (tgt := 212) hx hb dX3_act_171 (by decide) (fun c_233 => ?_) (fun c_233 => ?_)
                              · refine lv_aload_n hx hb dX3_act_212 rfl (lv_at hl 3 rfl) ?_
                                refine lv_iload_n hx hb dX3_act_213 rfl (lv_at hl 4 rfl) ?_
                                refine lv_iload_n hx hb dX3_act_214 rfl (lv_at hl 5 rfl) ?_
                                refine lv_iload hx hb dX3_act_215 (lv_at hl 2 rfl) ?_
                                refine lv_lload hx hb dX3_act_217 (lv_at hl 7 rfl) ?_
                                refine z_callV (As := [.int (nI (j + 1)), .int kind, .int 1, .long day]) (rest := []) S (c_X3_enter l A G M_1 m0 ar 0 co ac gr F L (nI (j + 1)) kind 1 day hJ_3 hco (by omega) (Or.inr rfl) hbl) ok_X3_enter kw_323 kw_325 ks_9 ⟨Nat.le_of_ble_eq_true rfl, Nat.le_of_ble_eq_true rfl⟩ hK hM hS hA hJ_3.1 rfl rfl hl.1 rfl (Nat.le_of_ble_eq_true rfl) dX3_act_219 ⟨Nat.le_of_ble_eq_true rfl, Nat.le_of_ble_eq_true rfl⟩ (fun r_236 M_234 H locs hp_235 hM hS => ?_)
                                obtain ⟨rfl, hJ_237⟩ := hp_235
                                refine W.eq (g2 := F0 m 222 ls []) rfl ?_
                                refine lv_iload hx hb dX3_act_222 (lv_at hl 2 rfl) ?_
                                refine lv_if_eq (tgt := 229) hx hb dX3_act_224 (by decide) (fun c_238 => absurd c_238 (by decide)) (fun c_238 => ?_)
                                refine lv_iload_n hx hb dX3_act_227 rfl (lv_at hl 5 rfl) ?_
                                exact z_iret S hr hlocks hM hS (by unfold zBQ; rw [hz]; dsimp only; rw [if_pos ⟨c_8, c_9, c_10, c_11, fun _ => ⟨zPl_9 c_185 c_186, c_187⟩⟩, zBe_l (Int64.not_le.mp c_188), zms_z hm]; rw [if_pos c_230]; rw [if_neg (fun q => q.elim (fun q => q.2 c_232) (fun q => absurd (hk2.symm.trans q.1) (by decide))), if_pos (Int64.not_le.mp c_188), zb_t (Int64.not_le.mp c_188)]; exact ⟨rfl, hJ_237⟩) (Nat.le_of_ble_eq_true rfl) (Nat.le_of_ble_eq_true rfl) dX3_act_228
                              · exact absurd (c_231.symm.trans c_233) (by decide)
                        · rw [zb_0] at c_230
                          refine lv_bipush (v := -2) hx hb dX3_act_143 (by decide) ?_
                          exact z_iret S hr hlocks hM hS (by unfold zBQ; rw [hz]; dsimp only; rw [if_pos ⟨c_8, c_9, c_10, c_11, fun _ => ⟨zPl_9 c_185 c_186, c_187⟩⟩, zBe_l (Int64.not_le.mp c_188), zms_z hm]; rw [if_neg c_230]; exact ⟨rfl, hJ_3⟩) (Nat.le_of_ble_eq_true rfl) (Nat.le_of_ble_eq_true rfl) dX3_act_145
                      · rw [nI_pred]
                        have hza : z < ac := by have h5 := zlm_le (F 11) (L 14) (nI (j + 1)) day ac; omega
                        have hcz : (nI z).toNatClampNeg = z := nI_clamp (by omega)
                        refine lv_goto (tgt := 99) hx hb dX3_act_95 (by decide) ?_
                        refine lv_istore (lv' := [(7, .int (nI z)), (6, .int 1), (0, .ref m0), (1, .int (nI (j + 1))), (2, .int kind), (3, .int place), (4, .long day)]) hx hb dX3_act_99 hl (by decide) rfl (fun ls hl => ?_)
                        refine lv_iload hx hb dX3_act_101 (lv_at hl 1 rfl) ?_
                        refine lv_if_ne (tgt := 115) hx hb dX3_act_103 (by decide) (fun c_239 => ?_) (fun c_239 => absurd c_239 (by decide))
                        refine lv_iload hx hb dX3_act_115 (lv_at hl 0 rfl) ?_
                        refine lv_iconst (v := -1) hx hb dX3_act_117 (by decide) ?_
                        refine lv_icmp_ne (tgt := 125) hx hb dX3_act_118 (by decide) (fun c_240 => ?_) (fun c_240 => ?_)
                        · refine lv_aload_n hx hb dX3_act_125 rfl (lv_at hl 2 rfl) ?_
                          refine z_get (v := .ref (ar 12)) S kX3 hK hM hJ_3.1 15 (by decide) kw_235 rfl dX3_act_126 ?_
                          refine lv_iload hx hb dX3_act_129 (lv_at hl 0 rfl) ?_
                          refine z_iald S hK hM 0 (show M_1 (ar 12) = some (.inl (G.2.2 0, 5000, .inl (F 12))) from hJ_3.2.1 12 (by decide)) rfl (zvp5 hza hac5) dX3_act_131 ?_
                          rw [hcz]
                          refine lv_istore (lv' := [(8, .int (F 12 z)), (7, .int (nI z)), (6, .int 1), (0, .ref m0), (1, .int (nI (j + 1))), (2, .int kind), (3, .int place), (4, .long day)]) hx hb dX3_act_132 hl (by decide) rfl (fun ls hl => ?_)
                          refine lv_iload_n hx hb dX3_act_134 rfl (lv_at hl 5 rfl) ?_
                          refine lv_iload hx hb dX3_act_135 (lv_at hl 0 rfl) ?_
                          refine z_callS (As := [.int kind, .int (F 12 z)]) (rest := []) S (c_X3_follows l A G M_1 kind (F 12 z)) ok_X3_follows kw_320 kw_321 ⟨Nat.le_of_ble_eq_true rfl, Nat.le_of_ble_eq_true rfl⟩ hK hM hS hA rfl hl.1 rfl (Nat.le_of_ble_eq_true rfl) dX3_act_137 ⟨Nat.le_of_ble_eq_true rfl, Nat.le_of_ble_eq_true rfl⟩ (fun r_243 M_241 H locs hp_242 hM hS => ?_)
                          obtain ⟨rfl, hM9⟩ := hp_242
                          rw [hM9] at hM
                          refine W.eq (g2 := F0 m 140 ls [.int (zb (zFm kind (F 12 z)))]) rfl ?_
                          refine lv_if_ne (tgt := 146) hx hb dX3_act_140 (by decide) (fun c_244 => ?_) (fun c_244 => ?_)
                          · rw [zb_0n] at c_244
                            refine lv_iload_n hx hb dX3_act_146 rfl (lv_at hl 5 rfl) ?_
                            refine lv_iconst (v := 2) hx hb dX3_act_147 (by decide) ?_
                            refine lv_icmp_ne (tgt := 170) hx hb dX3_act_148 (by decide) (fun c_245 => ?_) (fun c_245 => ?_)
                            · exact absurd c_12 c_245
                            · refine lv_aload_n hx hb dX3_act_151 rfl (lv_at hl 3 rfl) ?_
                              refine z_get (v := .ref (ar 9)) S kX3 hK hM hJ_3.1 11 (by decide) kw_231 rfl dX3_act_152 ?_
                              refine lv_bipush (v := 6) hx hb dX3_act_155 (by decide) ?_
                              refine lv_iload_n hx hb dX3_act_157 rfl (lv_at hl 6 rfl) ?_
                              refine lv_imul hx hb dX3_act_158 ?_
                              refine lv_aload_n hx hb dX3_act_159 rfl (lv_at hl 3 rfl) ?_
                              refine z_get (v := .ref (ar 0)) S kX3 hK hM hJ_3.1 2 (by decide) kw_222 rfl dX3_act_160 ?_
                              refine lv_iload_n hx hb dX3_act_163 rfl (lv_at hl 4 rfl) ?_
                              refine z_iald S hK hM 0 (show M_1 (ar 0) = some (.inl (G.2.2 0, 81, .inl (F 0))) from hJ_3.2.1 0 (by decide)) rfl (zvp81 hj hco) dX3_act_164 ?_
                              rw [hcl]
                              refine lv_iadd hx hb dX3_act_165 ?_
                              refine z_zald S hK hM 1 (show M_1 (ar 9) = some (.inl (G.2.2 1, 60, .inl (F 9))) from hJ_3.2.1 9 (by decide)) rfl (zRi_in6 (zPl_9 c_185 c_186) (hty j hj).1) dX3_act_166 ?_
                              refine lv_if_ne (tgt := 209) hx hb dX3_act_167 (by decide) (fun c_246 => ?_) (fun c_246 => ?_)
                              · refine lv_bipush (v := -3) hx hb dX3_act_209 (by decide) ?_
                                exact z_iret S hr hlocks hM hS (by unfold zBQ; rw [hz]; dsimp only; rw [if_pos ⟨c_8, c_9, c_10, c_11, fun _ => ⟨zPl_9 c_185 c_186, c_187⟩⟩, zBe_l (Int64.not_le.mp c_188), zms_s hm]; rw [if_pos c_244]; rw [if_pos (Or.inl ⟨hk2, c_246⟩)]; exact ⟨rfl, hJ_3⟩) (Nat.le_of_ble_eq_true rfl) (Nat.le_of_ble_eq_true rfl) dX3_act_211
                              · refine lv_iload_n hx hb dX3_act_170 rfl (lv_at hl 5 rfl) ?_
                                refine lv_if_ne (tgt := 212) hx hb dX3_act_171 (by decide) (fun c_247 => ?_) (fun c_247 => ?_)
                                · refine lv_aload_n hx hb dX3_act_212 rfl (lv_at hl 3 rfl) ?_
                                  refine lv_iload_n hx hb dX3_act_213 rfl (lv_at hl 4 rfl) ?_
                                  refine lv_iload_n hx hb dX3_act_214 rfl (lv_at hl 5 rfl) ?_
                                  refine lv_iload hx hb dX3_act_215 (lv_at hl 2 rfl) ?_
                                  refine lv_lload hx hb dX3_act_217 (lv_at hl 7 rfl) ?_
                                  refine z_callV (As := [.int (nI (j + 1)), .int kind, .int 1, .long day]) (rest := []) S (c_X3_enter l A G M_1 m0 ar 0 co ac gr F L (nI (j + 1)) kind 1 day hJ_3 hco (by omega) (Or.inr rfl) hbl) ok_X3_enter kw_323 kw_325 ks_9 ⟨Nat.le_of_ble_eq_true rfl, Nat.le_of_ble_eq_true rfl⟩ hK hM hS hA hJ_3.1 rfl rfl hl.1 rfl (Nat.le_of_ble_eq_true rfl) dX3_act_219 ⟨Nat.le_of_ble_eq_true rfl, Nat.le_of_ble_eq_true rfl⟩ (fun r_250 M_248 H locs hp_249 hM hS => ?_)
                                  obtain ⟨rfl, hJ_251⟩ := hp_249
                                  refine W.eq (g2 := F0 m 222 ls []) rfl ?_
                                  refine lv_iload hx hb dX3_act_222 (lv_at hl 2 rfl) ?_
                                  refine lv_if_eq (tgt := 229) hx hb dX3_act_224 (by decide) (fun c_252 => absurd c_252 (by decide)) (fun c_252 => ?_)
                                  refine lv_iload_n hx hb dX3_act_227 rfl (lv_at hl 5 rfl) ?_
                                  exact z_iret S hr hlocks hM hS (by unfold zBQ; rw [hz]; dsimp only; rw [if_pos ⟨c_8, c_9, c_10, c_11, fun _ => ⟨zPl_9 c_185 c_186, c_187⟩⟩, zBe_l (Int64.not_le.mp c_188), zms_s hm]; rw [if_pos c_244]; rw [if_neg (fun q => q.elim (fun q => q.2 c_246) (fun q => absurd (hk2.symm.trans q.1) (by decide))), if_pos (Int64.not_le.mp c_188), zb_t (Int64.not_le.mp c_188)]; exact ⟨rfl, hJ_251⟩) (Nat.le_of_ble_eq_true rfl) (Nat.le_of_ble_eq_true rfl) dX3_act_228
                                · exact absurd (c_245.symm.trans c_247) (by decide)
                          · rw [zb_0] at c_244
                            refine lv_bipush (v := -2) hx hb dX3_act_143 (by decide) ?_
                            exact z_iret S hr hlocks hM hS (by unfold zBQ; rw [hz]; dsimp only; rw [if_pos ⟨c_8, c_9, c_10, c_11, fun _ => ⟨zPl_9 c_185 c_186, c_187⟩⟩, zBe_l (Int64.not_le.mp c_188), zms_s hm]; rw [if_neg c_244]; exact ⟨rfl, hJ_3⟩) (Nat.le_of_ble_eq_true rfl) (Nat.le_of_ble_eq_true rfl) dX3_act_145
                        · exact absurd c_240 (zne1 (by omega))
                  · refine lv_iconst (v := -1) hx hb dX3_act_64 (by decide) ?_
                    exact z_iret S hr hlocks hM hS (by unfold zBQ; rw [hz]; dsimp only; rw [if_neg (fun q => (q.2.2.2.2 hk2).2 c_187)]; exact ⟨rfl, hJ_3⟩) (Nat.le_of_ble_eq_true rfl) (Nat.le_of_ble_eq_true rfl) dX3_act_65
