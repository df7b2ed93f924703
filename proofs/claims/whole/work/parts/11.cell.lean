set_option maxHeartbeats 4000000 in
set_option maxRecDepth 100000 in
theorem c_X1_init (l : Launch) (A : Nat → Prop) (G : zG) (M : zMap) (q : Nat) (w0 : Int64) (w1 w2 : Int32) (w3 : Option Nat) (d : Int64) (sta lt : Int32) (nx : Option Nat) (h : M q = some (oE w0 w1 w2 w3)) (hbool : zbool lt) : zMet l yX1_init cX1_init 6 none { frames := 1, cells := 0, slots := 0, locals := 40 } [.ref q, .long d, .int sta, .int lt, va_rf nx] A G M (fun r M1 => r = none ∧ M1 = zu M q (oE d sta lt nx)) := by
  refine zMet.of (by decide) (Nat.le_of_ble_eq_true rfl) ?_
  intro p e s m args below meth c ls S hr hlocks hnm hK hM hA hS hl
  have hl : lv_has ls 6 [(0, .ref q), (1, .long d), (3, .int sta), (4, .int lt), (5, va_rf nx)] := hl
  have hx := S.1
  have hb := S.2.1
  have hown := S.2.2.2.1
  have hts := S.2.2.2.2
  have hr : meth.sig.returnType = none := hr
  have hnm : meth.name = "<init>" := hnm
  refine lv_aload_n hx hb dX1_init_0 rfl (lv_at hl 0 rfl) ?_
  refine z_objInit S hl.1 kw_154 kw_12 kw_13 dX1_init_1 (Nat.le_of_ble_eq_true rfl) (Nat.le_of_ble_eq_true rfl) ?_
  refine lv_aload_n hx hb dX1_init_4 rfl (lv_at hl 0 rfl) ?_
  refine lv_lload_n hx hb dX1_init_5 rfl (lv_at hl 1 rfl) ?_
  refine z_putF S kX1 hK hM hS h 0 (by decide) kw_155 rfl hnm rfl rfl rfl (by decide) dX1_init_6 (fun H locs hM hS => ?_)
  obtain ⟨M_1, eM_2⟩ : ∃ z : zMap, z = zu M q (.inr (1, [.long d, .int w1, .int w2, va_rf w3])) := ⟨_, rfl⟩
  replace hM : zM A G M_1 H := by rw [eM_2]; exact hM
  have he_3 : M_1 q = some (.inr (1, [.long d, .int w1, .int w2, va_rf w3])) := by rw [eM_2]; exact zu_s _ _ _
  refine lv_aload_n hx hb dX1_init_9 rfl (lv_at hl 0 rfl) ?_
  refine lv_iload_n hx hb dX1_init_10 rfl (lv_at hl 2 rfl) ?_
  refine z_putF S kX1 hK hM hS he_3 1 (by decide) kw_157 rfl hnm rfl rfl rfl (by decide) dX1_init_11 (fun H locs hM hS => ?_)
  obtain ⟨M_4, eM_5⟩ : ∃ z : zMap, z = zu M_1 q (.inr (1, [.long d, .int sta, .int w2, va_rf w3])) := ⟨_, rfl⟩
  replace hM : zM A G M_4 H := by rw [eM_5]; exact hM
  have he_6 : M_4 q = some (.inr (1, [.long d, .int sta, .int w2, va_rf w3])) := by rw [eM_5]; exact zu_s _ _ _
  refine lv_aload_n hx hb dX1_init_14 rfl (lv_at hl 0 rfl) ?_
  refine lv_iload hx hb dX1_init_15 (lv_at hl 3 rfl) ?_
  refine z_putF S kX1 hK hM hS he_6 2 (by decide) kw_159 rfl hnm rfl (z_nb hbool) (z_fb hbool) (by decide) dX1_init_17 (fun H locs hM hS => ?_)
  obtain ⟨M_7, eM_8⟩ : ∃ z : zMap, z = zu M_4 q (.inr (1, [.long d, .int sta, .int lt, va_rf w3])) := ⟨_, rfl⟩
  replace hM : zM A G M_7 H := by rw [eM_8]; exact hM
  have he_9 : M_7 q = some (.inr (1, [.long d, .int sta, .int lt, va_rf w3])) := by rw [eM_8]; exact zu_s _ _ _
  refine lv_aload_n hx hb dX1_init_20 rfl (lv_at hl 0 rfl) ?_
  refine z_aloadq hx hb dX1_init_21 (lv_at hl 4 rfl) ?_
  refine z_put S kX1 hK hM hS he_9 3 (by decide) kw_161 rfl (z_nq _ _) (z_fq _ _) (by decide) dX1_init_23 (fun H locs hM hS => ?_)
  obtain ⟨M_10, eM_11⟩ : ∃ z : zMap, z = zu M_7 q (.inr (1, [.long d, .int sta, .int lt, va_rf nx])) := ⟨_, rfl⟩
  replace hM : zM A G M_10 H := by rw [eM_11]; exact hM
  have he_12 : M_10 q = some (.inr (1, [.long d, .int sta, .int lt, va_rf nx])) := by rw [eM_11]; exact zu_s _ _ _
  exact z_vret S hr hlocks hM hS ⟨rfl, by simp only [eM_11, eM_8, eM_5, eM_2, zu_u]⟩ (Nat.le_of_ble_eq_true rfl) (Nat.le_of_ble_eq_true rfl) dX1_init_26
set_option maxHeartbeats 4000000 in
set_option maxRecDepth 100000 in
theorem c_X0_init (l : Launch) (A : Nat → Prop) (G : zG) (M : zMap) (q : Nat) (w0 : Int32) (w1 : Int64) (w2 w3 w4 w5 w6 w7 w8 : Int32) (w9 : Option Nat) (ty : Int32) (bc : Int64) (dg hm : Int32) (h : M q = some (oC w0 w1 w2 w3 w4 w5 w6 w7 w8 w9)) : zMet l yX0_init cX0_init 6 none { frames := 1, cells := 0, slots := 0, locals := 40 } [.ref q, .int ty, .long bc, .int dg, .int hm] A G M (fun r M1 => r = none ∧ M1 = zu M q (oC ty bc dg hm hm 3 0 0 (-1) none)) := by
  refine zMet.of (by decide) (Nat.le_of_ble_eq_true rfl) ?_
  intro p e s m args below meth c ls S hr hlocks hnm hK hM hA hS hl
  have hl : lv_has ls 6 [(0, .ref q), (1, .int ty), (2, .long bc), (4, .int dg), (5, .int hm)] := hl
  have hx := S.1
  have hb := S.2.1
  have hown := S.2.2.2.1
  have hts := S.2.2.2.2
  have hr : meth.sig.returnType = none := hr
  have hnm : meth.name = "<init>" := hnm
  refine lv_aload_n hx hb dX0_init_0 rfl (lv_at hl 0 rfl) ?_
  refine z_objInit S hl.1 kw_76 kw_12 kw_13 dX0_init_1 (Nat.le_of_ble_eq_true rfl) (Nat.le_of_ble_eq_true rfl) ?_
  refine lv_aload_n hx hb dX0_init_4 rfl (lv_at hl 0 rfl) ?_
  refine lv_iload_n hx hb dX0_init_5 rfl (lv_at hl 1 rfl) ?_
  refine z_putF S kX0 hK hM hS h 0 (by decide) kw_77 rfl hnm rfl rfl rfl (by decide) dX0_init_6 (fun H locs hM hS => ?_)
  obtain ⟨M_1, eM_2⟩ : ∃ z : zMap, z = zu M q (.inr (0, [.int ty, .long w1, .int w2, .int w3, .int w4, .int w5, .int w6, .int w7, .int w8, va_rf w9])) := ⟨_, rfl⟩
  replace hM : zM A G M_1 H := by rw [eM_2]; exact hM
  have he_3 : M_1 q = some (.inr (0, [.int ty, .long w1, .int w2, .int w3, .int w4, .int w5, .int w6, .int w7, .int w8, va_rf w9])) := by rw [eM_2]; exact zu_s _ _ _
  refine lv_aload_n hx hb dX0_init_9 rfl (lv_at hl 0 rfl) ?_
  refine lv_lload_n hx hb dX0_init_10 rfl (lv_at hl 2 rfl) ?_
  refine z_putF S kX0 hK hM hS he_3 1 (by decide) kw_79 rfl hnm rfl rfl rfl (by decide) dX0_init_11 (fun H locs hM hS => ?_)
  obtain ⟨M_4, eM_5⟩ : ∃ z : zMap, z = zu M_1 q (.inr (0, [.int ty, .long bc, .int w2, .int w3, .int w4, .int w5, .int w6, .int w7, .int w8, va_rf w9])) := ⟨_, rfl⟩
  replace hM : zM A G M_4 H := by rw [eM_5]; exact hM
  have he_6 : M_4 q = some (.inr (0, [.int ty, .long bc, .int w2, .int w3, .int w4, .int w5, .int w6, .int w7, .int w8, va_rf w9])) := by rw [eM_5]; exact zu_s _ _ _
  refine lv_aload_n hx hb dX0_init_14 rfl (lv_at hl 0 rfl) ?_
  refine lv_iload hx hb dX0_init_15 (lv_at hl 3 rfl) ?_
  refine z_putF S kX0 hK hM hS he_6 2 (by decide) kw_81 rfl hnm rfl rfl rfl (by decide) dX0_init_17 (fun H locs hM hS => ?_)
  obtain ⟨M_7, eM_8⟩ : ∃ z : zMap, z = zu M_4 q (.inr (0, [.int ty, .long bc, .int dg, .int w3, .int w4, .int w5, .int w6, .int w7, .int w8, va_rf w9])) := ⟨_, rfl⟩
  replace hM : zM A G M_7 H := by rw [eM_8]; exact hM
  have he_9 : M_7 q = some (.inr (0, [.int ty, .long bc, .int dg, .int w3, .int w4, .int w5, .int w6, .int w7, .int w8, va_rf w9])) := by rw [eM_8]; exact zu_s _ _ _
  refine lv_aload_n hx hb dX0_init_20 rfl (lv_at hl 0 rfl) ?_
  refine lv_iload hx hb dX0_init_21 (lv_at hl 4 rfl) ?_
  refine z_put S kX0 hK hM hS he_9 3 (by decide) kw_83 rfl rfl rfl (by decide) dX0_init_23 (fun H locs hM hS => ?_)
  obtain ⟨M_10, eM_11⟩ : ∃ z : zMap, z = zu M_7 q (.inr (0, [.int ty, .long bc, .int dg, .int hm, .int w4, .int w5, .int w6, .int w7, .int w8, va_rf w9])) := ⟨_, rfl⟩
  replace hM : zM A G M_10 H := by rw [eM_11]; exact hM
  have he_12 : M_10 q = some (.inr (0, [.int ty, .long bc, .int dg, .int hm, .int w4, .int w5, .int w6, .int w7, .int w8, va_rf w9])) := by rw [eM_11]; exact zu_s _ _ _
  refine lv_aload_n hx hb dX0_init_26 rfl (lv_at hl 0 rfl) ?_
  refine lv_iload hx hb dX0_init_27 (lv_at hl 4 rfl) ?_
  refine z_put S kX0 hK hM hS he_12 4 (by decide) kw_85 rfl rfl rfl (by decide) dX0_init_29 (fun H locs hM hS => ?_)
  obtain ⟨M_13, eM_14⟩ : ∃ z : zMap, z = zu M_10 q (.inr (0, [.int ty, .long bc, .int dg, .int hm, .int hm, .int w5, .int w6, .int w7, .int w8, va_rf w9])) := ⟨_, rfl⟩
  replace hM : zM A G M_13 H := by rw [eM_14]; exact hM
  have he_15 : M_13 q = some (.inr (0, [.int ty, .long bc, .int dg, .int hm, .int hm, .int w5, .int w6, .int w7, .int w8, va_rf w9])) := by rw [eM_14]; exact zu_s _ _ _
  refine lv_aload_n hx hb dX0_init_32 rfl (lv_at hl 0 rfl) ?_
  refine lv_iconst (v := 3) hx hb dX0_init_33 (by decide) ?_
  refine z_put S kX0 hK hM hS he_15 5 (by decide) kw_87 rfl rfl rfl (by decide) dX0_init_34 (fun H locs hM hS => ?_)
  obtain ⟨M_16, eM_17⟩ : ∃ z : zMap, z = zu M_13 q (.inr (0, [.int ty, .long bc, .int dg, .int hm, .int hm, .int 3, .int w6, .int w7, .int w8, va_rf w9])) := ⟨_, rfl⟩
  replace hM : zM A G M_16 H := by rw [eM_17]; exact hM
  have he_18 : M_16 q = some (.inr (0, [.int ty, .long bc, .int dg, .int hm, .int hm, .int 3, .int w6, .int w7, .int w8, va_rf w9])) := by rw [eM_17]; exact zu_s _ _ _
  refine lv_aload_n hx hb dX0_init_37 rfl (lv_at hl 0 rfl) ?_
  refine lv_iconst (v := 0) hx hb dX0_init_38 (by decide) ?_
  refine z_put S kX0 hK hM hS he_18 6 (by decide) kw_89 rfl (by decide) (by decide) (by decide) dX0_init_39 (fun H locs hM hS => ?_)
  obtain ⟨M_19, eM_20⟩ : ∃ z : zMap, z = zu M_16 q (.inr (0, [.int ty, .long bc, .int dg, .int hm, .int hm, .int 3, .int 0, .int w7, .int w8, va_rf w9])) := ⟨_, rfl⟩
  replace hM : zM A G M_19 H := by rw [eM_20]; exact hM
  have he_21 : M_19 q = some (.inr (0, [.int ty, .long bc, .int dg, .int hm, .int hm, .int 3, .int 0, .int w7, .int w8, va_rf w9])) := by rw [eM_20]; exact zu_s _ _ _
  refine lv_aload_n hx hb dX0_init_42 rfl (lv_at hl 0 rfl) ?_
  refine lv_iconst (v := 0) hx hb dX0_init_43 (by decide) ?_
  refine z_put S kX0 hK hM hS he_21 7 (by decide) kw_91 rfl rfl rfl (by decide) dX0_init_44 (fun H locs hM hS => ?_)
  obtain ⟨M_22, eM_23⟩ : ∃ z : zMap, z = zu M_19 q (.inr (0, [.int ty, .long bc, .int dg, .int hm, .int hm, .int 3, .int 0, .int 0, .int w8, va_rf w9])) := ⟨_, rfl⟩
  replace hM : zM A G M_22 H := by rw [eM_23]; exact hM
  have he_24 : M_22 q = some (.inr (0, [.int ty, .long bc, .int dg, .int hm, .int hm, .int 3, .int 0, .int 0, .int w8, va_rf w9])) := by rw [eM_23]; exact zu_s _ _ _
  refine lv_aload_n hx hb dX0_init_47 rfl (lv_at hl 0 rfl) ?_
  refine lv_iconst (v := -1) hx hb dX0_init_48 (by decide) ?_
  refine z_put S kX0 hK hM hS he_24 8 (by decide) kw_93 rfl rfl rfl (by decide) dX0_init_49 (fun H locs hM hS => ?_)
  obtain ⟨M_25, eM_26⟩ : ∃ z : zMap, z = zu M_22 q (.inr (0, [.int ty, .long bc, .int dg, .int hm, .int hm, .int 3, .int 0, .int 0, .int (-1), va_rf w9])) := ⟨_, rfl⟩
  replace hM : zM A G M_25 H := by rw [eM_26]; exact hM
  have he_27 : M_25 q = some (.inr (0, [.int ty, .long bc, .int dg, .int hm, .int hm, .int 3, .int 0, .int 0, .int (-1), va_rf w9])) := by rw [eM_26]; exact zu_s _ _ _
  refine lv_aload_n hx hb dX0_init_52 rfl (lv_at hl 0 rfl) ?_
  refine lv_null hx hb dX0_init_53 ?_
  refine z_put S kX0 hK hM hS he_27 9 (by decide) kw_95 rfl rfl rfl (by decide) dX0_init_54 (fun H locs hM hS => ?_)
  obtain ⟨M_28, eM_29⟩ : ∃ z : zMap, z = zu M_25 q (.inr (0, [.int ty, .long bc, .int dg, .int hm, .int hm, .int 3, .int 0, .int 0, .int (-1), .null])) := ⟨_, rfl⟩
  replace hM : zM A G M_28 H := by rw [eM_29]; exact hM
  have he_30 : M_28 q = some (.inr (0, [.int ty, .long bc, .int dg, .int hm, .int hm, .int 3, .int 0, .int 0, .int (-1), .null])) := by rw [eM_29]; exact zu_s _ _ _
  exact z_vret S hr hlocks hM hS ⟨rfl, by simp only [eM_29, eM_26, eM_23, eM_20, eM_17, eM_14, eM_11, eM_8, eM_5, eM_2, zu_u]; rfl⟩ (Nat.le_of_ble_eq_true rfl) (Nat.le_of_ble_eq_true rfl) dX0_init_57
set_option maxHeartbeats 4000000 in
set_option maxRecDepth 100000 in
theorem c_X2_lastUpTo (l : Launch) (A : Nat → Prop) (G : zG) (M : zMap) (it : Nat) (ty : Int32) (bc : Int64) (dg hm pl st fl ow wb : Int32) (L : List (Nat × zEV)) (d : Int64) (hi : M it = some (oC ty bc dg hm pl st fl ow wb (zHd L))) (hch : zCh M L) : zMet l yX2_lastUpTo cX2_lastUpTo 5 (some (.object "ItemStates$Entry")) { frames := 0, cells := 0, slots := 0, locals := 0 } [.ref it, .long d] A G M (fun r M1 => r = some (va_rf (zLa (zUp d L))) ∧ M1 = M) := by
  refine zMet.of (by decide) (Nat.le_of_ble_eq_true rfl) ?_
  intro p e s m args below meth c ls S hr hlocks hnm hK hM hA hS hl
  have hl : lv_has ls 5 [(0, .ref it), (1, .long d)] := hl
  have hx := S.1
  have hb := S.2.1
  have hown := S.2.2.2.1
  have hts := S.2.2.2.2
  have hr : meth.sig.returnType = some (.object "ItemStates$Entry") := hr
  refine lv_null hx hb dX2_lastUpTo_0 ?_
  refine lv_astore_nN (lv' := [(3, .null), (0, .ref it), (1, .long d)]) hx hb dX2_lastUpTo_1 rfl hl (by decide) rfl (fun ls hl => ?_)
  refine lv_aload_n hx hb dX2_lastUpTo_2 rfl (lv_at hl 1 rfl) ?_
  refine z_getN (v := va_rf (zHd L)) S kX0 hK hM hi 9 (by decide) kw_96 rfl dX2_lastUpTo_3 ?_
  refine z_astoreq (lv' := [(4, va_rf (zHd L)), (3, .null), (0, .ref it), (1, .long d)]) hx hb dX2_lastUpTo_6 hl (by decide) rfl (fun ls hl => ?_)
  refine z_loop (fun (x : List (Nat × zEV) × List (Nat × zEV)) ls H' locs' => L = x.1 ++ x.2 ∧ (∀ y ∈ x.1, y.2.1 ≤ d) ∧ lv_has ls 5 [(4, va_rf (zHd x.2)), (3, va_rf (zLa x.1)), (0, .ref it), (1, .long d)] ∧ H' = s.heap ∧ locs' = []) (fun x => x.2.length) ([], L) ⟨rfl, (fun y h => by cases h), hl, rfl, rfl⟩ ?_
  rintro ⟨U, R⟩ ls H locs ⟨eL, hU, hl, rfl, rfl⟩ ih
  rcases R with _ | ⟨x, R⟩
  · have hl : lv_has ls 5 [(4, .null), (3, va_rf (zLa U)), (0, .ref it), (1, .long d)] := hl
    have eU : zUp d L = U := by rw [eL, zUp_app hU]; simp [zUp]
    refine lv_aloadN hx hb dX2_lastUpTo_8 (lv_at hl 0 rfl) ?_
    refine lv_ifnullN (tgt := 36) hx hb dX2_lastUpTo_10 (by decide) ?_
    refine z_aload_nq hx hb dX2_lastUpTo_36 rfl (lv_at hl 1 rfl) ?_
    exact z_aret S hr hlocks (z_rf _) hM hS ⟨by rw [eU], rfl⟩ (Nat.le_of_ble_eq_true rfl) (Nat.le_of_ble_eq_true rfl) dX2_lastUpTo_37
  · have hl : lv_has ls 5 [(4, .ref x.1), (3, va_rf (zLa U)), (0, .ref it), (1, .long d)] := hl
    have hxc := (show zCh M (U ++ x :: R) from eL ▸ hch).mid
    have hxe : M x.1 = some (oE x.2.1 x.2.2.1 x.2.2.2 (zHd R)) := hxc.1
    refine lv_aload hx hb dX2_lastUpTo_8 (lv_at hl 0 rfl) ?_
    refine lv_ifnull hx hb dX2_lastUpTo_10 ?_
    refine lv_aload hx hb dX2_lastUpTo_13 (lv_at hl 0 rfl) ?_
    refine z_getN (v := .long x.2.1) S kX1 hK hM hxe 0 (by decide) kw_156 rfl dX2_lastUpTo_15 ?_
    refine lv_lload_n hx hb dX2_lastUpTo_18 rfl (lv_at hl 3 rfl) ?_
    refine W.lcmp hx hb dX2_lastUpTo_19 ?_
    refine lv_if_gt (tgt := 36) hx hb dX2_lastUpTo_20 (by decide) (fun c_1 => ?_) (fun c_1 => ?_)
    · -- 20 jump
      rw [lg_cmp_gt] at c_1
      refine z_aload_nq hx hb dX2_lastUpTo_36 rfl (lv_at hl 1 rfl) ?_
      exact z_aret S hr hlocks (z_rf _) hM hS ⟨by rw [eL, zUp_app hU, zUp_stop (Int64.not_le.mpr c_1), List.append_nil], rfl⟩ (Nat.le_of_ble_eq_true rfl) (Nat.le_of_ble_eq_true rfl) dX2_lastUpTo_37
    · -- 20 on
      rw [lg_cmp_gt] at c_1
      refine lv_aload hx hb dX2_lastUpTo_23 (lv_at hl 0 rfl) ?_
      refine lv_astore_n (lv' := [(3, .ref x.1), (4, .ref x.1), (0, .ref it), (1, .long d)]) hx hb dX2_lastUpTo_25 rfl hl (by decide) rfl (fun ls hl => ?_)
      refine lv_aload hx hb dX2_lastUpTo_26 (lv_at hl 1 rfl) ?_
      refine z_getN (v := va_rf (zHd R)) S kX1 hK hM hxe 3 (by decide) kw_162 rfl dX2_lastUpTo_28 ?_
      refine z_astoreq (lv' := [(4, va_rf (zHd R)), (3, .ref x.1), (0, .ref it), (1, .long d)]) hx hb dX2_lastUpTo_31 hl (by decide) rfl (fun ls hl => ?_)
      refine lv_goto (tgt := 8) hx hb dX2_lastUpTo_33 (by decide) ?_
      exact ih (U ++ [x], R) ls _ _ ⟨by rw [eL, List.append_assoc]; rfl, fun y hy => by
        rcases List.mem_append.mp hy with hy | hy
        · exact hU y hy
        · rw [List.mem_singleton.mp hy]; exact Int64.not_lt.mp c_1, by rw [zLa_snoc]; exact hl, rfl, rfl⟩ (by simp)
set_option maxHeartbeats 4000000 in
set_option maxRecDepth 100000 in
theorem c_X2_stateOn (l : Launch) (A : Nat → Prop) (G : zG) (M : zMap) (it : Nat) (ty : Int32) (bc : Int64) (dg hm pl st fl ow wb : Int32) (L : List (Nat × zEV)) (d : Int64) (hi : M it = some (oC ty bc dg hm pl st fl ow wb (zHd L))) (hch : zCh M L) : zMet l yX2_stateOn cX2_stateOn 4 (some .int) { frames := 1, cells := 0, slots := 0, locals := 40 } [.ref it, .long d] A G M (fun r M1 => r = some (.int (zSt d L)) ∧ M1 = M) := by
  refine zMet.of (by decide) (Nat.le_of_ble_eq_true rfl) ?_
  intro p e s m args below meth c ls S hr hlocks hnm hK hM hA hS hl
  have hl : lv_has ls 4 [(0, .ref it), (1, .long d)] := hl
  have hx := S.1
  have hb := S.2.1
  have hown := S.2.2.2.1
  have hts := S.2.2.2.2
  have hr : meth.sig.returnType = some .int := hr
  refine lv_aload_n hx hb dX2_stateOn_0 rfl (lv_at hl 0 rfl) ?_
  refine lv_lload_n hx hb dX2_stateOn_1 rfl (lv_at hl 1 rfl) ?_
  refine z_callS (As := [.ref it, .long d]) (rest := []) S (c_X2_lastUpTo l A G M it ty bc dg hm pl st fl ow wb L d hi hch) ok_X2_lastUpTo kw_135 kw_136 ⟨Nat.le_of_ble_eq_true rfl, Nat.le_of_ble_eq_true rfl⟩ hK hM hS hA rfl hl.1 rfl (Nat.le_of_ble_eq_true rfl) dX2_stateOn_2 ⟨Nat.le_of_ble_eq_true rfl, Nat.le_of_ble_eq_true rfl⟩ (fun r_3 M_1 H locs hp_2 hM hS => ?_)
  obtain ⟨rfl, hM9⟩ := hp_2
  rw [hM9] at hM
  refine W.eq (g2 := F0 m 5 ls [va_rf (zLa (zUp d L))]) rfl ?_
  rcases hz : zLa (zUp d L) with _ | b
  · refine W.eq (g2 := F0 m 5 ls [.null]) rfl ?_
    have hU0 := zLa_none hz
    refine lv_astore_nN (lv' := [(3, .null), (0, .ref it), (1, .long d)]) hx hb dX2_stateOn_5 rfl hl (by decide) rfl (fun ls hl => ?_)
    refine lv_aload_nN hx hb dX2_stateOn_6 rfl (lv_at hl 0 rfl) ?_
    refine lv_ifnonnullN hx hb dX2_stateOn_7 ?_
    refine lv_iconst (v := 3) hx hb dX2_stateOn_10 (by decide) ?_
    refine lv_goto (tgt := 18) hx hb dX2_stateOn_11 (by decide) ?_
    exact z_iret S hr hlocks hM hS ⟨by simp [zSt, hU0], rfl⟩ (Nat.le_of_ble_eq_true rfl) (Nat.le_of_ble_eq_true rfl) dX2_stateOn_18
  · refine W.eq (g2 := F0 m 5 ls [.ref b]) rfl ?_
    obtain ⟨U, v, hU0⟩ := zLa_split hz
    have hLs : U ++ [(b, v)] ++ zDn d L = L := by rw [← hU0]; exact zUpDn d L
    have hbe : M b = some (oE v.1 v.2.1 v.2.2 (zHd (zDn d L))) := by
      have h9 : zCh M (U ++ ((b, v) :: zDn d L)) := by
        have h8 := hch
        rw [← hLs, List.append_assoc] at h8
        exact h8
      exact h9.mid.1
    refine lv_astore_n (lv' := [(3, .ref b), (0, .ref it), (1, .long d)]) hx hb dX2_stateOn_5 rfl hl (by decide) rfl (fun ls hl => ?_)
    refine lv_aload_n hx hb dX2_stateOn_6 rfl (lv_at hl 0 rfl) ?_
    refine lv_ifnonnull (tgt := 14) hx hb dX2_stateOn_7 (by decide) ?_
    refine lv_aload_n hx hb dX2_stateOn_14 rfl (lv_at hl 0 rfl) ?_
    refine z_getN (v := .int v.2.1) S kX1 hK hM hbe 1 (by decide) kw_158 rfl dX2_stateOn_15 ?_
    exact z_iret S hr hlocks hM hS ⟨by simp [zSt, hU0], rfl⟩ (Nat.le_of_ble_eq_true rfl) (Nat.le_of_ble_eq_true rfl) dX2_stateOn_18
set_option maxHeartbeats 4000000 in
set_option maxRecDepth 100000 in
theorem c_X2_enter (l : Launch) (A : Nat → Prop) (G : zG) (M : zMap) (h0 cps : Nat) (n : Int32) (den fee : Nat) (gd : Int64) (ec : Int32) (it : Nat) (ty : Int32) (bc : Int64) (dg hm pl st fl ow wb : Int32) (L : List (Nat × zEV)) (d : Int64) (sta lt : Int32) (h : M h0 = some (oI cps n den fee gd ec)) (hi : M it = some (oC ty bc dg hm pl st fl ow wb (zHd L))) (hch : zCh M L) (hnd : (L.map Prod.fst).Nodup) (hbool : zbool lt) : zMet l yX2_enter cX2_enter 7 none { frames := 2, cells := 1, slots := 4, locals := 80 } [.ref h0, .ref it, .long d, .int sta, .int lt] A G M (fun r M1 => r = none ∧ ∃ q, M q = none ∧ zCh M1 (zIns d (q, d, sta, lt) L) ∧ M1 it = some (oC ty bc dg hm pl st fl ow wb (zHd (zIns d (q, d, sta, lt) L))) ∧ M1 h0 = some (oI cps n den fee (if gd < d then d else gd) (ec + 1)) ∧ ∀ b, b ≠ it → b ≠ h0 → b ≠ q → (∀ y ∈ L, y.1 ≠ b) → M1 b = M b) := by
  refine zMet.of (by decide) (Nat.le_of_ble_eq_true rfl) ?_
  intro p e s m args below meth c ls S hr hlocks hnm hK hM hA hS hl
  have hl : lv_has ls 7 [(0, .ref h0), (1, .ref it), (2, .long d), (4, .int sta), (5, .int lt)] := hl
  have hx := S.1
  have hb := S.2.1
  have hown := S.2.2.2.1
  have hts := S.2.2.2.2
  have hr : meth.sig.returnType = none := hr
  refine lv_aload_n hx hb dX2_enter_0 rfl (lv_at hl 1 rfl) ?_
  refine lv_lload_n hx hb dX2_enter_1 rfl (lv_at hl 2 rfl) ?_
  refine z_callS (As := [.ref it, .long d]) (rest := []) S (c_X2_lastUpTo l A G M it ty bc dg hm pl st fl ow wb L d hi hch) ok_X2_lastUpTo kw_135 kw_136 ⟨Nat.le_of_ble_eq_true rfl, Nat.le_of_ble_eq_true rfl⟩ hK hM hS hA rfl hl.1 rfl (Nat.le_of_ble_eq_true rfl) dX2_enter_2 ⟨Nat.le_of_ble_eq_true rfl, Nat.le_of_ble_eq_true rfl⟩ (fun r_3 M_1 H locs hp_2 hM hS => ?_)
  obtain ⟨rfl, hM9⟩ := hp_2
  rw [hM9] at hM
  refine W.eq (g2 := F0 m 5 ls [va_rf (zLa (zUp d L))]) rfl ?_
  rcases hz : zLa (zUp d L) with _ | b
  · refine W.eq (g2 := F0 m 5 ls [.null]) rfl ?_
    have hU0 := zLa_none hz
    refine lv_astoreN (lv' := [(6, .null), (0, .ref h0), (1, .ref it), (2, .long d), (4, .int sta), (5, .int lt)]) hx hb dX2_enter_5 hl (by decide) rfl (fun ls hl => ?_)
    refine lv_aloadN hx hb dX2_enter_7 (lv_at hl 0 rfl) ?_
    refine lv_ifnonnullN hx hb dX2_enter_9 ?_
    refine lv_aload_n hx hb dX2_enter_12 rfl (lv_at hl 2 rfl) ?_
    refine z_new (fs := [.long 0, .int 0, .int 0, .null]) S kX1 hK hM hS hA kw_149 kw_150 kw_4 (fun j hj => by rcases (show j = 0 ∨ j = 1 ∨ j = 2 ∨ j = 3 by omega) with rfl | rfl | rfl | rfl <;> rfl) (Nat.le_of_ble_eq_true rfl) (Nat.le_of_ble_eq_true rfl) dX2_enter_13 (fun q_4 H hq_5 hAq_6 hM hS => ?_)
    obtain ⟨M_7, eM_8⟩ : ∃ z : zMap, z = zu M q_4 (.inr (1, [.long 0, .int 0, .int 0, .null])) := ⟨_, rfl⟩
    replace hM : zM A G M_7 H := by rw [eM_8]; exact hM
    have he_9 : M_7 q_4 = some (.inr (1, [.long 0, .int 0, .int 0, .null])) := by rw [eM_8]; exact zu_s _ _ _
    have he_10 := (show M_7 h0 = M h0 by rw [eM_8]; exact zu_n (znf h hq_5)).trans h
    have he_11 := (show M_7 it = M it by rw [eM_8]; exact zu_n (znf hi hq_5)).trans hi
    refine lv_dup hx hb dX2_enter_16 rfl ?_
    refine lv_lload_n hx hb dX2_enter_17 rfl (lv_at hl 3 rfl) ?_
    refine lv_iload hx hb dX2_enter_18 (lv_at hl 4 rfl) ?_
    refine lv_iload hx hb dX2_enter_20 (lv_at hl 5 rfl) ?_
    refine lv_aload_n hx hb dX2_enter_22 rfl (lv_at hl 2 rfl) ?_
    refine z_getN (v := va_rf (zHd L)) S kX0 hK hM he_11 9 (by decide) kw_96 rfl dX2_enter_23 ?_
    refine z_callIN (As := [.long d, .int sta, .int lt, va_rf (zHd L)]) (rest := [.ref q_4, .ref it]) S (c_X1_init l A G M_7 q_4 0 0 0 none d sta lt (zHd L) he_9 hbool) ok_X1_init kw_151 kw_152 rfl ⟨Nat.le_of_ble_eq_true rfl, Nat.le_of_ble_eq_true rfl⟩ hK hM hS hA rfl hl.1 rfl (Nat.le_of_ble_eq_true rfl) dX2_enter_26 ⟨Nat.le_of_ble_eq_true rfl, Nat.le_of_ble_eq_true rfl⟩ (fun r_14 M_12 H locs hp_13 hM hS => ?_)
    obtain ⟨rfl, eM_15⟩ := hp_13
    have he_16 : M_12 q_4 = some (oE d sta lt (zHd L)) := by rw [eM_15]; exact zu_s _ _ _
    have he_17 := (show M_12 h0 = M_7 h0 by rw [eM_15]; exact zu_n (zne he_10 he_9 (by simp))).trans he_10
    have he_18 := (show M_12 it = M_7 it by rw [eM_15]; exact zu_n (zne he_11 he_9 (by simp))).trans he_11
    refine W.eq (g2 := F0 m 29 ls [.ref q_4, .ref it]) rfl ?_
    refine z_putN S kX0 hK hM hS he_18 9 (by decide) kw_96 rfl rfl rfl (by decide) dX2_enter_29 (fun H locs hM hS => ?_)
    obtain ⟨M_19, eM_20⟩ : ∃ z : zMap, z = zu M_12 it (.inr (0, [.int ty, .long bc, .int dg, .int hm, .int pl, .int st, .int fl, .int ow, .int wb, .ref q_4])) := ⟨_, rfl⟩
    replace hM : zM A G M_19 H := by rw [eM_20]; exact hM
    have he_21 : M_19 it = some (.inr (0, [.int ty, .long bc, .int dg, .int hm, .int pl, .int st, .int fl, .int ow, .int wb, .ref q_4])) := by rw [eM_20]; exact zu_s _ _ _
    have he_22 := (show M_19 h0 = M_12 h0 by rw [eM_20]; exact zu_n (zne he_17 he_18 (by simp))).trans he_17
    have he_23 := (show M_19 q_4 = M_12 q_4 by rw [eM_20]; exact zu_n (zne he_16 he_18 (by simp))).trans he_16
    refine lv_goto (tgt := 57) hx hb dX2_enter_32 (by decide) ?_
    refine lv_aload_n hx hb dX2_enter_57 rfl (lv_at hl 1 rfl) ?_
    refine lv_dup hx hb dX2_enter_58 rfl ?_
    refine z_get (v := .int ec) S kX2 hK hM he_22 5 (by decide) kw_21 rfl dX2_enter_59 ?_
    refine lv_iconst (v := 1) hx hb dX2_enter_62 (by decide) ?_
    refine lv_iadd hx hb dX2_enter_63 ?_
    refine z_put S kX2 hK hM hS he_22 5 (by decide) kw_21 rfl rfl rfl (by decide) dX2_enter_64 (fun H locs hM hS => ?_)
    obtain ⟨M_24, eM_25⟩ : ∃ z : zMap, z = zu M_19 h0 (.inr (2, [.ref cps, .int n, .ref den, .ref fee, .long gd, .int (ec + 1)])) := ⟨_, rfl⟩
    replace hM : zM A G M_24 H := by rw [eM_25]; exact hM
    have he_26 : M_24 h0 = some (.inr (2, [.ref cps, .int n, .ref den, .ref fee, .long gd, .int (ec + 1)])) := by rw [eM_25]; exact zu_s _ _ _
    have he_27 := (show M_24 it = M_19 it by rw [eM_25]; exact zu_n (zne he_21 he_22 (by simp))).trans he_21
    have he_28 := (show M_24 q_4 = M_19 q_4 by rw [eM_25]; exact zu_n (zne he_23 he_22 (by simp))).trans he_23
    refine lv_aload_n hx hb dX2_enter_67 rfl (lv_at hl 1 rfl) ?_
    refine lv_aload_n hx hb dX2_enter_68 rfl (lv_at hl 1 rfl) ?_
    refine z_get (v := .long gd) S kX2 hK hM he_26 4 (by decide) kw_20 rfl dX2_enter_69 ?_
    refine lv_lload_n hx hb dX2_enter_72 rfl (lv_at hl 3 rfl) ?_
    refine z_callS (As := [.long gd, .long d]) (rest := [.ref h0]) S (c_J_max l A G M_24 gd d) ok_J_max kw_172 kw_173 ⟨Nat.le_of_ble_eq_true rfl, Nat.le_of_ble_eq_true rfl⟩ hK hM hS hA rfl hl.1 rfl (Nat.le_of_ble_eq_true rfl) dX2_enter_73 ⟨Nat.le_of_ble_eq_true rfl, Nat.le_of_ble_eq_true rfl⟩ (fun r_31 M_29 H locs hp_30 hM hS => ?_)
    obtain ⟨rfl, hM9⟩ := hp_30
    rw [hM9] at hM
    refine W.eq (g2 := F0 m 76 ls [.long (if gd < d then d else gd), .ref h0]) rfl ?_
    refine z_put S kX2 hK hM hS he_26 4 (by decide) kw_20 rfl rfl rfl (by decide) dX2_enter_76 (fun H locs hM hS => ?_)
    obtain ⟨M_32, eM_33⟩ : ∃ z : zMap, z = zu M_24 h0 (.inr (2, [.ref cps, .int n, .ref den, .ref fee, .long (if gd < d then d else gd), .int (ec + 1)])) := ⟨_, rfl⟩
    replace hM : zM A G M_32 H := by rw [eM_33]; exact hM
    have he_34 : M_32 h0 = some (.inr (2, [.ref cps, .int n, .ref den, .ref fee, .long (if gd < d then d else gd), .int (ec + 1)])) := by rw [eM_33]; exact zu_s _ _ _
    have he_35 := (show M_32 it = M_24 it by rw [eM_33]; exact zu_n (zne he_27 he_26 (by simp))).trans he_27
    have he_36 := (show M_32 q_4 = M_24 q_4 by rw [eM_33]; exact zu_n (zne he_28 he_26 (by simp))).trans he_28
    have hfr : ∀ b : Nat, b ≠ q_4 → b ≠ it → b ≠ h0 → M_32 b = M b := fun b h0 h1 h2 => by rw [eM_33, zu_n h2, eM_25, zu_n h2, eM_20, zu_n h1, eM_15, zu_n h0, eM_8, zu_n h0]
    have hLo : ∀ y ∈ L, y.1 ≠ q_4 ∧ y.1 ≠ it ∧ y.1 ≠ h0 := fun y hy => by
      obtain ⟨nx, h9⟩ := hch.at y hy
      exact ⟨znf h9 hq_5, zne h9 hi (by simp), zne h9 h (by simp)⟩
    have hcc := hch.ins0 (M1 := M_32) (q := q_4) (x := (d, sta, lt)) hU0 he_36 (fun y hy => hfr y.1 (hLo y hy).1 (hLo y hy).2.1 (hLo y hy).2.2)
    exact z_vret S hr hlocks hM hS ⟨rfl, q_4, hq_5, hcc.1, by rw [hcc.2]; exact he_35, he_34, fun b b1 b2 b3 _ => hfr b b3 b1 b2⟩ (Nat.le_of_ble_eq_true rfl) (Nat.le_of_ble_eq_true rfl) dX2_enter_79
  · refine W.eq (g2 := F0 m 5 ls [.ref b]) rfl ?_
    obtain ⟨U, v, hU0⟩ := zLa_split hz
    have hLs : U ++ [(b, v)] ++ zDn d L = L := by rw [← hU0]; exact zUpDn d L
    have hbe : M b = some (oE v.1 v.2.1 v.2.2 (zHd (zDn d L))) := by
      have h9 : zCh M (U ++ ((b, v) :: zDn d L)) := by
        have h8 := hch
        rw [← hLs, List.append_assoc] at h8
        exact h8
      exact h9.mid.1
    refine lv_astore (lv' := [(6, .ref b), (0, .ref h0), (1, .ref it), (2, .long d), (4, .int sta), (5, .int lt)]) hx hb dX2_enter_5 hl (by decide) rfl (fun ls hl => ?_)
    refine lv_aload hx hb dX2_enter_7 (lv_at hl 0 rfl) ?_
    refine lv_ifnonnull (tgt := 35) hx hb dX2_enter_9 (by decide) ?_
    refine lv_aload hx hb dX2_enter_35 (lv_at hl 0 rfl) ?_
    refine z_new (fs := [.long 0, .int 0, .int 0, .null]) S kX1 hK hM hS hA kw_149 kw_150 kw_4 (fun j hj => by rcases (show j = 0 ∨ j = 1 ∨ j = 2 ∨ j = 3 by omega) with rfl | rfl | rfl | rfl <;> rfl) (Nat.le_of_ble_eq_true rfl) (Nat.le_of_ble_eq_true rfl) dX2_enter_37 (fun q_37 H hq_38 hAq_39 hM hS => ?_)
    obtain ⟨M_40, eM_41⟩ : ∃ z : zMap, z = zu M q_37 (.inr (1, [.long 0, .int 0, .int 0, .null])) := ⟨_, rfl⟩
    replace hM : zM A G M_40 H := by rw [eM_41]; exact hM
    have hbq : b ≠ q_37 := znf hbe hq_38
    have he_42 : M_40 q_37 = some (.inr (1, [.long 0, .int 0, .int 0, .null])) := by rw [eM_41]; exact zu_s _ _ _
    have he_43 := (show M_40 h0 = M h0 by rw [eM_41]; exact zu_n (znf h hq_38)).trans h
    have he_44 := (show M_40 it = M it by rw [eM_41]; exact zu_n (znf hi hq_38)).trans hi
    have he_45 := (show M_40 b = M b by rw [eM_41]; exact zu_n (znf hbe hq_38)).trans hbe
    refine lv_dup hx hb dX2_enter_40 rfl ?_
    refine lv_lload_n hx hb dX2_enter_41 rfl (lv_at hl 3 rfl) ?_
    refine lv_iload hx hb dX2_enter_42 (lv_at hl 4 rfl) ?_
    refine lv_iload hx hb dX2_enter_44 (lv_at hl 5 rfl) ?_
    refine lv_aload hx hb dX2_enter_46 (lv_at hl 0 rfl) ?_
    refine z_getN (v := va_rf (zHd (zDn d L))) S kX1 hK hM he_45 3 (by decide) kw_162 rfl dX2_enter_48 ?_
    refine z_callIN (As := [.long d, .int sta, .int lt, va_rf (zHd (zDn d L))]) (rest := [.ref q_37, .ref b]) S (c_X1_init l A G M_40 q_37 0 0 0 none d sta lt (zHd (zDn d L)) he_42 hbool) ok_X1_init kw_151 kw_152 rfl ⟨Nat.le_of_ble_eq_true rfl, Nat.le_of_ble_eq_true rfl⟩ hK hM hS hA rfl hl.1 rfl (Nat.le_of_ble_eq_true rfl) dX2_enter_51 ⟨Nat.le_of_ble_eq_true rfl, Nat.le_of_ble_eq_true rfl⟩ (fun r_48 M_46 H locs hp_47 hM hS => ?_)
    obtain ⟨rfl, eM_49⟩ := hp_47
    have he_50 : M_46 q_37 = some (oE d sta lt (zHd (zDn d L))) := by rw [eM_49]; exact zu_s _ _ _
    have he_51 := (show M_46 h0 = M_40 h0 by rw [eM_49]; exact zu_n (zne he_43 he_42 (by simp))).trans he_43
    have he_52 := (show M_46 it = M_40 it by rw [eM_49]; exact zu_n (zne he_44 he_42 (by simp))).trans he_44
    have he_53 := (show M_46 b = M_40 b by rw [eM_49]; exact zu_n (hbq)).trans he_45
    refine W.eq (g2 := F0 m 54 ls [.ref q_37, .ref b]) rfl ?_
    refine z_putN S kX1 hK hM hS he_53 3 (by decide) kw_162 rfl rfl rfl (by decide) dX2_enter_54 (fun H locs hM hS => ?_)
    obtain ⟨M_54, eM_55⟩ : ∃ z : zMap, z = zu M_46 b (.inr (1, [.long v.1, .int v.2.1, .int v.2.2, .ref q_37])) := ⟨_, rfl⟩
    replace hM : zM A G M_54 H := by rw [eM_55]; exact hM
    have he_56 : M_54 b = some (.inr (1, [.long v.1, .int v.2.1, .int v.2.2, .ref q_37])) := by rw [eM_55]; exact zu_s _ _ _
    have he_57 := (show M_54 h0 = M_46 h0 by rw [eM_55]; exact zu_n (zne he_51 he_53 (by simp))).trans he_51
    have he_58 := (show M_54 it = M_46 it by rw [eM_55]; exact zu_n (zne he_52 he_53 (by simp))).trans he_52
    have he_59 := (show M_54 q_37 = M_46 q_37 by rw [eM_55]; exact zu_n (Ne.symm hbq)).trans he_50
    refine lv_aload_n hx hb dX2_enter_57 rfl (lv_at hl 1 rfl) ?_
    refine lv_dup hx hb dX2_enter_58 rfl ?_
    refine z_get (v := .int ec) S kX2 hK hM he_57 5 (by decide) kw_21 rfl dX2_enter_59 ?_
    refine lv_iconst (v := 1) hx hb dX2_enter_62 (by decide) ?_
    refine lv_iadd hx hb dX2_enter_63 ?_
    refine z_put S kX2 hK hM hS he_57 5 (by decide) kw_21 rfl rfl rfl (by decide) dX2_enter_64 (fun H locs hM hS => ?_)
    obtain ⟨M_60, eM_61⟩ : ∃ z : zMap, z = zu M_54 h0 (.inr (2, [.ref cps, .int n, .ref den, .ref fee, .long gd, .int (ec + 1)])) := ⟨_, rfl⟩
    replace hM : zM A G M_60 H := by rw [eM_61]; exact hM
    have he_62 : M_60 h0 = some (.inr (2, [.ref cps, .int n, .ref den, .ref fee, .long gd, .int (ec + 1)])) := by rw [eM_61]; exact zu_s _ _ _
    have he_63 := (show M_60 it = M_54 it by rw [eM_61]; exact zu_n (zne he_58 he_57 (by simp))).trans he_58
    have he_64 := (show M_60 b = M_54 b by rw [eM_61]; exact zu_n (zne he_56 he_57 (by simp))).trans he_56
    have he_65 := (show M_60 q_37 = M_54 q_37 by rw [eM_61]; exact zu_n (zne he_59 he_57 (by simp))).trans he_59
    refine lv_aload_n hx hb dX2_enter_67 rfl (lv_at hl 1 rfl) ?_
    refine lv_aload_n hx hb dX2_enter_68 rfl (lv_at hl 1 rfl) ?_
    refine z_get (v := .long gd) S kX2 hK hM he_62 4 (by decide) kw_20 rfl dX2_enter_69 ?_
    refine lv_lload_n hx hb dX2_enter_72 rfl (lv_at hl 3 rfl) ?_
    refine z_callS (As := [.long gd, .long d]) (rest := [.ref h0]) S (c_J_max l A G M_60 gd d) ok_J_max kw_172 kw_173 ⟨Nat.le_of_ble_eq_true rfl, Nat.le_of_ble_eq_true rfl⟩ hK hM hS hA rfl hl.1 rfl (Nat.le_of_ble_eq_true rfl) dX2_enter_73 ⟨Nat.le_of_ble_eq_true rfl, Nat.le_of_ble_eq_true rfl⟩ (fun r_68 M_66 H locs hp_67 hM hS => ?_)
    obtain ⟨rfl, hM9⟩ := hp_67
    rw [hM9] at hM
    refine W.eq (g2 := F0 m 76 ls [.long (if gd < d then d else gd), .ref h0]) rfl ?_
    refine z_put S kX2 hK hM hS he_62 4 (by decide) kw_20 rfl rfl rfl (by decide) dX2_enter_76 (fun H locs hM hS => ?_)
    obtain ⟨M_69, eM_70⟩ : ∃ z : zMap, z = zu M_60 h0 (.inr (2, [.ref cps, .int n, .ref den, .ref fee, .long (if gd < d then d else gd), .int (ec + 1)])) := ⟨_, rfl⟩
    replace hM : zM A G M_69 H := by rw [eM_70]; exact hM
    have he_71 : M_69 h0 = some (.inr (2, [.ref cps, .int n, .ref den, .ref fee, .long (if gd < d then d else gd), .int (ec + 1)])) := by rw [eM_70]; exact zu_s _ _ _
    have he_72 := (show M_69 it = M_60 it by rw [eM_70]; exact zu_n (zne he_63 he_62 (by simp))).trans he_63
    have he_73 := (show M_69 b = M_60 b by rw [eM_70]; exact zu_n (zne he_64 he_62 (by simp))).trans he_64
    have he_74 := (show M_69 q_37 = M_60 q_37 by rw [eM_70]; exact zu_n (zne he_65 he_62 (by simp))).trans he_65
    have hfr : ∀ b : Nat, b ≠ q_37 → b ≠ b → b ≠ h0 → M_69 b = M b := fun b h0 h1 h2 => by rw [eM_70, zu_n h2, eM_61, zu_n h2, eM_55, zu_n h1, eM_49, zu_n h0, eM_41, zu_n h0]
    have hLo : ∀ y ∈ L, y.1 ≠ q_37 ∧ y.1 ≠ it ∧ y.1 ≠ h0 := fun y hy => by
      obtain ⟨nx, h9⟩ := hch.at y hy
      exact ⟨znf h9 hq_38, zne h9 hi (by simp), zne h9 h (by simp)⟩
    have hcc := hch.ins1 (M1 := M_69) (q := q_37) (x := (d, sta, lt)) hU0 he_74 he_73 (fun y hy hyb => hfr y.1 (hLo y hy).1 hyb (hLo y hy).2.2) hnd
    have hbL : (b, v) ∈ L := by rw [← hLs]; simp
    exact z_vret S hr hlocks hM hS ⟨rfl, q_37, hq_38, hcc.1, by rw [hcc.2]; exact he_72, he_71, fun b' b1 b2 b3 b4 => hfr b' b3 (fun e9 => b4 _ hbL e9.symm) b2⟩ (Nat.le_of_ble_eq_true rfl) (Nat.le_of_ble_eq_true rfl) dX2_enter_79
set_option maxHeartbeats 4000000 in
set_option maxRecDepth 100000 in
theorem c_X2_carryOut (l : Launch) (A : Nat → Prop) (G : zG) (M : zMap) (h0 cps : Nat) (n : Int32) (den fee : Nat) (gd : Int64) (ec : Int32) (fe : Nat → Int32) (it : Nat) (ty : Int32) (bc : Int64) (dg hm pl st fl ow wb : Int32) (fi : Option Nat) (kind place : Int32) (h : M h0 = some (oI cps n den fee gd ec)) (hf : M fee = some (.inl (G.2.2 0, 6, .inl fe))) (hi : M it = some (oC ty bc dg hm pl st fl ow wb fi)) : zMet l yX2_carryOut cX2_carryOut 4 none { frames := 1, cells := 0, slots := 0, locals := 40 } [.ref h0, .ref it, .int kind, .int place] A G M (fun r M1 => r = none ∧ M1 = zu M it (zCo fe kind place ty bc dg hm pl st fl ow fi)) := by
  refine zMet.of (by decide) (Nat.le_of_ble_eq_true rfl) ?_
  intro p e s m args below meth c ls S hr hlocks hnm hK hM hA hS hl
  have hl : lv_has ls 4 [(0, .ref h0), (1, .ref it), (2, .int kind), (3, .int place)] := hl
  have hx := S.1
  have hb := S.2.1
  have hown := S.2.2.2.1
  have hts := S.2.2.2.2
  have hr : meth.sig.returnType = none := hr
  refine lv_iload_n hx hb dX2_carryOut_0 rfl (lv_at hl 2 rfl) ?_
  refine lv_bipush (v := 6) hx hb dX2_carryOut_1 (by decide) ?_
  refine lv_icmp_ne (tgt := 42) hx hb dX2_carryOut_3 (by decide) (fun c_1 => ?_) (fun c_1 => ?_)
  · -- 3 jump
    refine lv_iload_n hx hb dX2_carryOut_42 rfl (lv_at hl 2 rfl) ?_
    refine lv_iconst (v := 2) hx hb dX2_carryOut_43 (by decide) ?_
    refine lv_icmp_ne (tgt := 52) hx hb dX2_carryOut_44 (by decide) (fun c_2 => ?_) (fun c_2 => ?_)
    · -- 44 jump
      refine lv_iload_n hx hb dX2_carryOut_52 rfl (lv_at hl 2 rfl) ?_
      refine lv_if_ne (tgt := 71) hx hb dX2_carryOut_53 (by decide) (fun c_3 => ?_) (fun c_3 => ?_)
      · -- 53 jump
        refine lv_aload_n hx hb dX2_carryOut_71 rfl (lv_at hl 1 rfl) ?_
        refine lv_iload_n hx hb dX2_carryOut_72 rfl (lv_at hl 2 rfl) ?_
        refine z_putN S kX0 hK hM hS hi 5 (by decide) kw_88 rfl rfl rfl (by decide) dX2_carryOut_73 (fun H locs hM hS => ?_)
        obtain ⟨M_4, eM_5⟩ : ∃ z : zMap, z = zu M it (.inr (0, [.int ty, .long bc, .int dg, .int hm, .int pl, .int kind, .int fl, .int ow, .int wb, va_rf fi])) := ⟨_, rfl⟩
        replace hM : zM A G M_4 H := by rw [eM_5]; exact hM
        have he_6 : M_4 it = some (.inr (0, [.int ty, .long bc, .int dg, .int hm, .int pl, .int kind, .int fl, .int ow, .int wb, va_rf fi])) := by rw [eM_5]; exact zu_s _ _ _
        have he_7 := (show M_4 h0 = M h0 by rw [eM_5]; exact zu_n (zne h hi (by simp))).trans h
        have he_8 := (show M_4 fee = M fee by rw [eM_5]; exact zu_n (zne hf hi (by simp))).trans hf
        refine lv_aload_n hx hb dX2_carryOut_76 rfl (lv_at hl 1 rfl) ?_
        refine lv_iconst (v := -1) hx hb dX2_carryOut_77 (by decide) ?_
        refine z_putN S kX0 hK hM hS he_6 8 (by decide) kw_94 rfl rfl rfl (by decide) dX2_carryOut_78 (fun H locs hM hS => ?_)
        obtain ⟨M_9, eM_10⟩ : ∃ z : zMap, z = zu M_4 it (.inr (0, [.int ty, .long bc, .int dg, .int hm, .int pl, .int kind, .int fl, .int ow, .int (-1), va_rf fi])) := ⟨_, rfl⟩
        replace hM : zM A G M_9 H := by rw [eM_10]; exact hM
        have he_11 : M_9 it = some (.inr (0, [.int ty, .long bc, .int dg, .int hm, .int pl, .int kind, .int fl, .int ow, .int (-1), va_rf fi])) := by rw [eM_10]; exact zu_s _ _ _
        have he_12 := (show M_9 h0 = M_4 h0 by rw [eM_10]; exact zu_n (zne he_7 he_6 (by simp))).trans he_7
        have he_13 := (show M_9 fee = M_4 fee by rw [eM_10]; exact zu_n (zne he_8 he_6 (by simp))).trans he_8
        exact z_vret S hr hlocks hM hS ⟨rfl, by simp only [eM_10, eM_5, zu_u]; simp [zCo, c_1, c_2, c_3]⟩ (Nat.le_of_ble_eq_true rfl) (Nat.le_of_ble_eq_true rfl) dX2_carryOut_81
      · -- 53 on
        refine lv_aload_n hx hb dX2_carryOut_56 rfl (lv_at hl 1 rfl) ?_
        refine z_getN (v := .int fl) S kX0 hK hM hi 6 (by decide) kw_90 rfl dX2_carryOut_57 ?_
        refine lv_if_eq (tgt := 71) hx hb dX2_carryOut_60 (by decide) (fun c_14 => ?_) (fun c_14 => ?_)
        · -- 60 jump
          refine lv_aload_n hx hb dX2_carryOut_71 rfl (lv_at hl 1 rfl) ?_
          refine lv_iload_n hx hb dX2_carryOut_72 rfl (lv_at hl 2 rfl) ?_
          refine z_putN S kX0 hK hM hS hi 5 (by decide) kw_88 rfl rfl rfl (by decide) dX2_carryOut_73 (fun H locs hM hS => ?_)
          obtain ⟨M_15, eM_16⟩ : ∃ z : zMap, z = zu M it (.inr (0, [.int ty, .long bc, .int dg, .int hm, .int pl, .int kind, .int fl, .int ow, .int wb, va_rf fi])) := ⟨_, rfl⟩
          replace hM : zM A G M_15 H := by rw [eM_16]; exact hM
          have he_17 : M_15 it = some (.inr (0, [.int ty, .long bc, .int dg, .int hm, .int pl, .int kind, .int fl, .int ow, .int wb, va_rf fi])) := by rw [eM_16]; exact zu_s _ _ _
          have he_18 := (show M_15 h0 = M h0 by rw [eM_16]; exact zu_n (zne h hi (by simp))).trans h
          have he_19 := (show M_15 fee = M fee by rw [eM_16]; exact zu_n (zne hf hi (by simp))).trans hf
          refine lv_aload_n hx hb dX2_carryOut_76 rfl (lv_at hl 1 rfl) ?_
          refine lv_iconst (v := -1) hx hb dX2_carryOut_77 (by decide) ?_
          refine z_putN S kX0 hK hM hS he_17 8 (by decide) kw_94 rfl rfl rfl (by decide) dX2_carryOut_78 (fun H locs hM hS => ?_)
          obtain ⟨M_20, eM_21⟩ : ∃ z : zMap, z = zu M_15 it (.inr (0, [.int ty, .long bc, .int dg, .int hm, .int pl, .int kind, .int fl, .int ow, .int (-1), va_rf fi])) := ⟨_, rfl⟩
          replace hM : zM A G M_20 H := by rw [eM_21]; exact hM
          have he_22 : M_20 it = some (.inr (0, [.int ty, .long bc, .int dg, .int hm, .int pl, .int kind, .int fl, .int ow, .int (-1), va_rf fi])) := by rw [eM_21]; exact zu_s _ _ _
          have he_23 := (show M_20 h0 = M_15 h0 by rw [eM_21]; exact zu_n (zne he_18 he_17 (by simp))).trans he_18
          have he_24 := (show M_20 fee = M_15 fee by rw [eM_21]; exact zu_n (zne he_19 he_17 (by simp))).trans he_19
          exact z_vret S hr hlocks hM hS ⟨rfl, by simp only [eM_21, eM_16, zu_u]; simp [zCo, c_1, c_2, c_3, c_14]⟩ (Nat.le_of_ble_eq_true rfl) (Nat.le_of_ble_eq_true rfl) dX2_carryOut_81
        · -- 60 on
          refine lv_aload_n hx hb dX2_carryOut_63 rfl (lv_at hl 1 rfl) ?_
          refine lv_aload_n hx hb dX2_carryOut_64 rfl (lv_at hl 1 rfl) ?_
          refine z_getN (v := .int pl) S kX0 hK hM hi 4 (by decide) kw_86 rfl dX2_carryOut_65 ?_
          refine z_putN S kX0 hK hM hS hi 3 (by decide) kw_84 rfl rfl rfl (by decide) dX2_carryOut_68 (fun H locs hM hS => ?_)
          obtain ⟨M_25, eM_26⟩ : ∃ z : zMap, z = zu M it (.inr (0, [.int ty, .long bc, .int dg, .int pl, .int pl, .int st, .int fl, .int ow, .int wb, va_rf fi])) := ⟨_, rfl⟩
          replace hM : zM A G M_25 H := by rw [eM_26]; exact hM
          have he_27 : M_25 it = some (.inr (0, [.int ty, .long bc, .int dg, .int pl, .int pl, .int st, .int fl, .int ow, .int wb, va_rf fi])) := by rw [eM_26]; exact zu_s _ _ _
          have he_28 := (show M_25 h0 = M h0 by rw [eM_26]; exact zu_n (zne h hi (by simp))).trans h
          have he_29 := (show M_25 fee = M fee by rw [eM_26]; exact zu_n (zne hf hi (by simp))).trans hf
          refine lv_aload_n hx hb dX2_carryOut_71 rfl (lv_at hl 1 rfl) ?_
          refine lv_iload_n hx hb dX2_carryOut_72 rfl (lv_at hl 2 rfl) ?_
          refine z_putN S kX0 hK hM hS he_27 5 (by decide) kw_88 rfl rfl rfl (by decide) dX2_carryOut_73 (fun H locs hM hS => ?_)
          obtain ⟨M_30, eM_31⟩ : ∃ z : zMap, z = zu M_25 it (.inr (0, [.int ty, .long bc, .int dg, .int pl, .int pl, .int kind, .int fl, .int ow, .int wb, va_rf fi])) := ⟨_, rfl⟩
          replace hM : zM A G M_30 H := by rw [eM_31]; exact hM
          have he_32 : M_30 it = some (.inr (0, [.int ty, .long bc, .int dg, .int pl, .int pl, .int kind, .int fl, .int ow, .int wb, va_rf fi])) := by rw [eM_31]; exact zu_s _ _ _
          have he_33 := (show M_30 h0 = M_25 h0 by rw [eM_31]; exact zu_n (zne he_28 he_27 (by simp))).trans he_28
          have he_34 := (show M_30 fee = M_25 fee by rw [eM_31]; exact zu_n (zne he_29 he_27 (by simp))).trans he_29
          refine lv_aload_n hx hb dX2_carryOut_76 rfl (lv_at hl 1 rfl) ?_
          refine lv_iconst (v := -1) hx hb dX2_carryOut_77 (by decide) ?_
          refine z_putN S kX0 hK hM hS he_32 8 (by decide) kw_94 rfl rfl rfl (by decide) dX2_carryOut_78 (fun H locs hM hS => ?_)
          obtain ⟨M_35, eM_36⟩ : ∃ z : zMap, z = zu M_30 it (.inr (0, [.int ty, .long bc, .int dg, .int pl, .int pl, .int kind, .int fl, .int ow, .int (-1), va_rf fi])) := ⟨_, rfl⟩
          replace hM : zM A G M_35 H := by rw [eM_36]; exact hM
          have he_37 : M_35 it = some (.inr (0, [.int ty, .long bc, .int dg, .int pl, .int pl, .int kind, .int fl, .int ow, .int (-1), va_rf fi])) := by rw [eM_36]; exact zu_s _ _ _
          have he_38 := (show M_35 h0 = M_30 h0 by rw [eM_36]; exact zu_n (zne he_33 he_32 (by simp))).trans he_33
          have he_39 := (show M_35 fee = M_30 fee by rw [eM_36]; exact zu_n (zne he_34 he_32 (by simp))).trans he_34
          exact z_vret S hr hlocks hM hS ⟨rfl, by simp only [eM_36, eM_31, eM_26, zu_u]; simp [zCo, c_1, c_2, c_3, c_14]⟩ (Nat.le_of_ble_eq_true rfl) (Nat.le_of_ble_eq_true rfl) dX2_carryOut_81
    · -- 44 on
      refine lv_aload_n hx hb dX2_carryOut_47 rfl (lv_at hl 1 rfl) ?_
      refine lv_iload_n hx hb dX2_carryOut_48 rfl (lv_at hl 3 rfl) ?_
      refine z_putN S kX0 hK hM hS hi 4 (by decide) kw_86 rfl rfl rfl (by decide) dX2_carryOut_49 (fun H locs hM hS => ?_)
      obtain ⟨M_40, eM_41⟩ : ∃ z : zMap, z = zu M it (.inr (0, [.int ty, .long bc, .int dg, .int hm, .int place, .int st, .int fl, .int ow, .int wb, va_rf fi])) := ⟨_, rfl⟩
      replace hM : zM A G M_40 H := by rw [eM_41]; exact hM
      have he_42 : M_40 it = some (.inr (0, [.int ty, .long bc, .int dg, .int hm, .int place, .int st, .int fl, .int ow, .int wb, va_rf fi])) := by rw [eM_41]; exact zu_s _ _ _
      have he_43 := (show M_40 h0 = M h0 by rw [eM_41]; exact zu_n (zne h hi (by simp))).trans h
      have he_44 := (show M_40 fee = M fee by rw [eM_41]; exact zu_n (zne hf hi (by simp))).trans hf
      refine lv_iload_n hx hb dX2_carryOut_52 rfl (lv_at hl 2 rfl) ?_
      refine lv_if_ne (tgt := 71) hx hb dX2_carryOut_53 (by decide) (fun c_45 => ?_) (fun c_45 => ?_)
      · -- 53 jump
        refine lv_aload_n hx hb dX2_carryOut_71 rfl (lv_at hl 1 rfl) ?_
        refine lv_iload_n hx hb dX2_carryOut_72 rfl (lv_at hl 2 rfl) ?_
        refine z_putN S kX0 hK hM hS he_42 5 (by decide) kw_88 rfl rfl rfl (by decide) dX2_carryOut_73 (fun H locs hM hS => ?_)
        obtain ⟨M_46, eM_47⟩ : ∃ z : zMap, z = zu M_40 it (.inr (0, [.int ty, .long bc, .int dg, .int hm, .int place, .int kind, .int fl, .int ow, .int wb, va_rf fi])) := ⟨_, rfl⟩
        replace hM : zM A G M_46 H := by rw [eM_47]; exact hM
        have he_48 : M_46 it = some (.inr (0, [.int ty, .long bc, .int dg, .int hm, .int place, .int kind, .int fl, .int ow, .int wb, va_rf fi])) := by rw [eM_47]; exact zu_s _ _ _
        have he_49 := (show M_46 h0 = M_40 h0 by rw [eM_47]; exact zu_n (zne he_43 he_42 (by simp))).trans he_43
        have he_50 := (show M_46 fee = M_40 fee by rw [eM_47]; exact zu_n (zne he_44 he_42 (by simp))).trans he_44
        refine lv_aload_n hx hb dX2_carryOut_76 rfl (lv_at hl 1 rfl) ?_
        refine lv_iconst (v := -1) hx hb dX2_carryOut_77 (by decide) ?_
        refine z_putN S kX0 hK hM hS he_48 8 (by decide) kw_94 rfl rfl rfl (by decide) dX2_carryOut_78 (fun H locs hM hS => ?_)
        obtain ⟨M_51, eM_52⟩ : ∃ z : zMap, z = zu M_46 it (.inr (0, [.int ty, .long bc, .int dg, .int hm, .int place, .int kind, .int fl, .int ow, .int (-1), va_rf fi])) := ⟨_, rfl⟩
        replace hM : zM A G M_51 H := by rw [eM_52]; exact hM
        have he_53 : M_51 it = some (.inr (0, [.int ty, .long bc, .int dg, .int hm, .int place, .int kind, .int fl, .int ow, .int (-1), va_rf fi])) := by rw [eM_52]; exact zu_s _ _ _
        have he_54 := (show M_51 h0 = M_46 h0 by rw [eM_52]; exact zu_n (zne he_49 he_48 (by simp))).trans he_49
        have he_55 := (show M_51 fee = M_46 fee by rw [eM_52]; exact zu_n (zne he_50 he_48 (by simp))).trans he_50
        exact z_vret S hr hlocks hM hS ⟨rfl, by simp only [eM_52, eM_47, eM_41, zu_u]; simp [zCo, c_1, c_2, c_45]⟩ (Nat.le_of_ble_eq_true rfl) (Nat.le_of_ble_eq_true rfl) dX2_carryOut_81
      · -- 53 on
        refine lv_aload_n hx hb dX2_carryOut_56 rfl (lv_at hl 1 rfl) ?_
        refine z_getN (v := .int fl) S kX0 hK hM he_42 6 (by decide) kw_90 rfl dX2_carryOut_57 ?_
        refine lv_if_eq (tgt := 71) hx hb dX2_carryOut_60 (by decide) (fun c_56 => ?_) (fun c_56 => ?_)
        · -- 60 jump
          refine lv_aload_n hx hb dX2_carryOut_71 rfl (lv_at hl 1 rfl) ?_
          refine lv_iload_n hx hb dX2_carryOut_72 rfl (lv_at hl 2 rfl) ?_
          refine z_putN S kX0 hK hM hS he_42 5 (by decide) kw_88 rfl rfl rfl (by decide) dX2_carryOut_73 (fun H locs hM hS => ?_)
          obtain ⟨M_57, eM_58⟩ : ∃ z : zMap, z = zu M_40 it (.inr (0, [.int ty, .long bc, .int dg, .int hm, .int place, .int kind, .int fl, .int ow, .int wb, va_rf fi])) := ⟨_, rfl⟩
          replace hM : zM A G M_57 H := by rw [eM_58]; exact hM
          have he_59 : M_57 it = some (.inr (0, [.int ty, .long bc, .int dg, .int hm, .int place, .int kind, .int fl, .int ow, .int wb, va_rf fi])) := by rw [eM_58]; exact zu_s _ _ _
          have he_60 := (show M_57 h0 = M_40 h0 by rw [eM_58]; exact zu_n (zne he_43 he_42 (by simp))).trans he_43
          have he_61 := (show M_57 fee = M_40 fee by rw [eM_58]; exact zu_n (zne he_44 he_42 (by simp))).trans he_44
          refine lv_aload_n hx hb dX2_carryOut_76 rfl (lv_at hl 1 rfl) ?_
          refine lv_iconst (v := -1) hx hb dX2_carryOut_77 (by decide) ?_
          refine z_putN S kX0 hK hM hS he_59 8 (by decide) kw_94 rfl rfl rfl (by decide) dX2_carryOut_78 (fun H locs hM hS => ?_)
          obtain ⟨M_62, eM_63⟩ : ∃ z : zMap, z = zu M_57 it (.inr (0, [.int ty, .long bc, .int dg, .int hm, .int place, .int kind, .int fl, .int ow, .int (-1), va_rf fi])) := ⟨_, rfl⟩
          replace hM : zM A G M_62 H := by rw [eM_63]; exact hM
          have he_64 : M_62 it = some (.inr (0, [.int ty, .long bc, .int dg, .int hm, .int place, .int kind, .int fl, .int ow, .int (-1), va_rf fi])) := by rw [eM_63]; exact zu_s _ _ _
          have he_65 := (show M_62 h0 = M_57 h0 by rw [eM_63]; exact zu_n (zne he_60 he_59 (by simp))).trans he_60
          have he_66 := (show M_62 fee = M_57 fee by rw [eM_63]; exact zu_n (zne he_61 he_59 (by simp))).trans he_61
          exact z_vret S hr hlocks hM hS ⟨rfl, by simp only [eM_63, eM_58, eM_41, zu_u]; simp [zCo, c_1, c_2, c_45, c_56]⟩ (Nat.le_of_ble_eq_true rfl) (Nat.le_of_ble_eq_true rfl) dX2_carryOut_81
        · -- 60 on
          refine lv_aload_n hx hb dX2_carryOut_63 rfl (lv_at hl 1 rfl) ?_
          refine lv_aload_n hx hb dX2_carryOut_64 rfl (lv_at hl 1 rfl) ?_
          refine z_getN (v := .int place) S kX0 hK hM he_42 4 (by decide) kw_86 rfl dX2_carryOut_65 ?_
          refine z_putN S kX0 hK hM hS he_42 3 (by decide) kw_84 rfl rfl rfl (by decide) dX2_carryOut_68 (fun H locs hM hS => ?_)
          obtain ⟨M_67, eM_68⟩ : ∃ z : zMap, z = zu M_40 it (.inr (0, [.int ty, .long bc, .int dg, .int place, .int place, .int st, .int fl, .int ow, .int wb, va_rf fi])) := ⟨_, rfl⟩
          replace hM : zM A G M_67 H := by rw [eM_68]; exact hM
          have he_69 : M_67 it = some (.inr (0, [.int ty, .long bc, .int dg, .int place, .int place, .int st, .int fl, .int ow, .int wb, va_rf fi])) := by rw [eM_68]; exact zu_s _ _ _
          have he_70 := (show M_67 h0 = M_40 h0 by rw [eM_68]; exact zu_n (zne he_43 he_42 (by simp))).trans he_43
          have he_71 := (show M_67 fee = M_40 fee by rw [eM_68]; exact zu_n (zne he_44 he_42 (by simp))).trans he_44
          refine lv_aload_n hx hb dX2_carryOut_71 rfl (lv_at hl 1 rfl) ?_
          refine lv_iload_n hx hb dX2_carryOut_72 rfl (lv_at hl 2 rfl) ?_
          refine z_putN S kX0 hK hM hS he_69 5 (by decide) kw_88 rfl rfl rfl (by decide) dX2_carryOut_73 (fun H locs hM hS => ?_)
          obtain ⟨M_72, eM_73⟩ : ∃ z : zMap, z = zu M_67 it (.inr (0, [.int ty, .long bc, .int dg, .int place, .int place, .int kind, .int fl, .int ow, .int wb, va_rf fi])) := ⟨_, rfl⟩
          replace hM : zM A G M_72 H := by rw [eM_73]; exact hM
          have he_74 : M_72 it = some (.inr (0, [.int ty, .long bc, .int dg, .int place, .int place, .int kind, .int fl, .int ow, .int wb, va_rf fi])) := by rw [eM_73]; exact zu_s _ _ _
          have he_75 := (show M_72 h0 = M_67 h0 by rw [eM_73]; exact zu_n (zne he_70 he_69 (by simp))).trans he_70
          have he_76 := (show M_72 fee = M_67 fee by rw [eM_73]; exact zu_n (zne he_71 he_69 (by simp))).trans he_71
          refine lv_aload_n hx hb dX2_carryOut_76 rfl (lv_at hl 1 rfl) ?_
          refine lv_iconst (v := -1) hx hb dX2_carryOut_77 (by decide) ?_
          refine z_putN S kX0 hK hM hS he_74 8 (by decide) kw_94 rfl rfl rfl (by decide) dX2_carryOut_78 (fun H locs hM hS => ?_)
          obtain ⟨M_77, eM_78⟩ : ∃ z : zMap, z = zu M_72 it (.inr (0, [.int ty, .long bc, .int dg, .int place, .int place, .int kind, .int fl, .int ow, .int (-1), va_rf fi])) := ⟨_, rfl⟩
          replace hM : zM A G M_77 H := by rw [eM_78]; exact hM
          have he_79 : M_77 it = some (.inr (0, [.int ty, .long bc, .int dg, .int place, .int place, .int kind, .int fl, .int ow, .int (-1), va_rf fi])) := by rw [eM_78]; exact zu_s _ _ _
          have he_80 := (show M_77 h0 = M_72 h0 by rw [eM_78]; exact zu_n (zne he_75 he_74 (by simp))).trans he_75
          have he_81 := (show M_77 fee = M_72 fee by rw [eM_78]; exact zu_n (zne he_76 he_74 (by simp))).trans he_76
          exact z_vret S hr hlocks hM hS ⟨rfl, by simp only [eM_78, eM_73, eM_68, eM_41, zu_u]; simp [zCo, c_1, c_2, c_45, c_56]⟩ (Nat.le_of_ble_eq_true rfl) (Nat.le_of_ble_eq_true rfl) dX2_carryOut_81
  · -- 3 on
    refine lv_aload_n hx hb dX2_carryOut_6 rfl (lv_at hl 1 rfl) ?_
    refine z_getN (v := .int st) S kX0 hK hM hi 5 (by decide) kw_88 rfl dX2_carryOut_7 ?_
    refine lv_iconst (v := 1) hx hb dX2_carryOut_10 (by decide) ?_
    refine lv_icmp_ne (tgt := 42) hx hb dX2_carryOut_11 (by decide) (fun c_82 => ?_) (fun c_82 => ?_)
    · -- 11 jump
      refine lv_iload_n hx hb dX2_carryOut_42 rfl (lv_at hl 2 rfl) ?_
      refine lv_iconst (v := 2) hx hb dX2_carryOut_43 (by decide) ?_
      refine lv_icmp_ne (tgt := 52) hx hb dX2_carryOut_44 (by decide) (fun c_83 => ?_) (fun c_83 => ?_)
      · -- 44 jump
        refine lv_iload_n hx hb dX2_carryOut_52 rfl (lv_at hl 2 rfl) ?_
        refine lv_if_ne (tgt := 71) hx hb dX2_carryOut_53 (by decide) (fun c_84 => ?_) (fun c_84 => ?_)
        · -- 53 jump
          refine lv_aload_n hx hb dX2_carryOut_71 rfl (lv_at hl 1 rfl) ?_
          refine lv_iload_n hx hb dX2_carryOut_72 rfl (lv_at hl 2 rfl) ?_
          refine z_putN S kX0 hK hM hS hi 5 (by decide) kw_88 rfl rfl rfl (by decide) dX2_carryOut_73 (fun H locs hM hS => ?_)
          obtain ⟨M_85, eM_86⟩ : ∃ z : zMap, z = zu M it (.inr (0, [.int ty, .long bc, .int dg, .int hm, .int pl, .int kind, .int fl, .int ow, .int wb, va_rf fi])) := ⟨_, rfl⟩
          replace hM : zM A G M_85 H := by rw [eM_86]; exact hM
          have he_87 : M_85 it = some (.inr (0, [.int ty, .long bc, .int dg, .int hm, .int pl, .int kind, .int fl, .int ow, .int wb, va_rf fi])) := by rw [eM_86]; exact zu_s _ _ _
          have he_88 := (show M_85 h0 = M h0 by rw [eM_86]; exact zu_n (zne h hi (by simp))).trans h
          have he_89 := (show M_85 fee = M fee by rw [eM_86]; exact zu_n (zne hf hi (by simp))).trans hf
          refine lv_aload_n hx hb dX2_carryOut_76 rfl (lv_at hl 1 rfl) ?_
          refine lv_iconst (v := -1) hx hb dX2_carryOut_77 (by decide) ?_
          refine z_putN S kX0 hK hM hS he_87 8 (by decide) kw_94 rfl rfl rfl (by decide) dX2_carryOut_78 (fun H locs hM hS => ?_)
          obtain ⟨M_90, eM_91⟩ : ∃ z : zMap, z = zu M_85 it (.inr (0, [.int ty, .long bc, .int dg, .int hm, .int pl, .int kind, .int fl, .int ow, .int (-1), va_rf fi])) := ⟨_, rfl⟩
          replace hM : zM A G M_90 H := by rw [eM_91]; exact hM
          have he_92 : M_90 it = some (.inr (0, [.int ty, .long bc, .int dg, .int hm, .int pl, .int kind, .int fl, .int ow, .int (-1), va_rf fi])) := by rw [eM_91]; exact zu_s _ _ _
          have he_93 := (show M_90 h0 = M_85 h0 by rw [eM_91]; exact zu_n (zne he_88 he_87 (by simp))).trans he_88
          have he_94 := (show M_90 fee = M_85 fee by rw [eM_91]; exact zu_n (zne he_89 he_87 (by simp))).trans he_89
          exact z_vret S hr hlocks hM hS ⟨rfl, by simp only [eM_91, eM_86, zu_u]; simp [zCo, c_1, c_82, c_83, c_84]⟩ (Nat.le_of_ble_eq_true rfl) (Nat.le_of_ble_eq_true rfl) dX2_carryOut_81
        · -- 53 on
          refine lv_aload_n hx hb dX2_carryOut_56 rfl (lv_at hl 1 rfl) ?_
          refine z_getN (v := .int fl) S kX0 hK hM hi 6 (by decide) kw_90 rfl dX2_carryOut_57 ?_
          refine lv_if_eq (tgt := 71) hx hb dX2_carryOut_60 (by decide) (fun c_95 => ?_) (fun c_95 => ?_)
          · -- 60 jump
            refine lv_aload_n hx hb dX2_carryOut_71 rfl (lv_at hl 1 rfl) ?_
            refine lv_iload_n hx hb dX2_carryOut_72 rfl (lv_at hl 2 rfl) ?_
            refine z_putN S kX0 hK hM hS hi 5 (by decide) kw_88 rfl rfl rfl (by decide) dX2_carryOut_73 (fun H locs hM hS => ?_)
            obtain ⟨M_96, eM_97⟩ : ∃ z : zMap, z = zu M it (.inr (0, [.int ty, .long bc, .int dg, .int hm, .int pl, .int kind, .int fl, .int ow, .int wb, va_rf fi])) := ⟨_, rfl⟩
            replace hM : zM A G M_96 H := by rw [eM_97]; exact hM
            have he_98 : M_96 it = some (.inr (0, [.int ty, .long bc, .int dg, .int hm, .int pl, .int kind, .int fl, .int ow, .int wb, va_rf fi])) := by rw [eM_97]; exact zu_s _ _ _
            have he_99 := (show M_96 h0 = M h0 by rw [eM_97]; exact zu_n (zne h hi (by simp))).trans h
            have he_100 := (show M_96 fee = M fee by rw [eM_97]; exact zu_n (zne hf hi (by simp))).trans hf
            refine lv_aload_n hx hb dX2_carryOut_76 rfl (lv_at hl 1 rfl) ?_
            refine lv_iconst (v := -1) hx hb dX2_carryOut_77 (by decide) ?_
            refine z_putN S kX0 hK hM hS he_98 8 (by decide) kw_94 rfl rfl rfl (by decide) dX2_carryOut_78 (fun H locs hM hS => ?_)
            obtain ⟨M_101, eM_102⟩ : ∃ z : zMap, z = zu M_96 it (.inr (0, [.int ty, .long bc, .int dg, .int hm, .int pl, .int kind, .int fl, .int ow, .int (-1), va_rf fi])) := ⟨_, rfl⟩
            replace hM : zM A G M_101 H := by rw [eM_102]; exact hM
            have he_103 : M_101 it = some (.inr (0, [.int ty, .long bc, .int dg, .int hm, .int pl, .int kind, .int fl, .int ow, .int (-1), va_rf fi])) := by rw [eM_102]; exact zu_s _ _ _
            have he_104 := (show M_101 h0 = M_96 h0 by rw [eM_102]; exact zu_n (zne he_99 he_98 (by simp))).trans he_99
            have he_105 := (show M_101 fee = M_96 fee by rw [eM_102]; exact zu_n (zne he_100 he_98 (by simp))).trans he_100
            exact z_vret S hr hlocks hM hS ⟨rfl, by simp only [eM_102, eM_97, zu_u]; simp [zCo, c_1, c_82, c_83, c_84, c_95]⟩ (Nat.le_of_ble_eq_true rfl) (Nat.le_of_ble_eq_true rfl) dX2_carryOut_81
          · -- 60 on
            refine lv_aload_n hx hb dX2_carryOut_63 rfl (lv_at hl 1 rfl) ?_
            refine lv_aload_n hx hb dX2_carryOut_64 rfl (lv_at hl 1 rfl) ?_
            refine z_getN (v := .int pl) S kX0 hK hM hi 4 (by decide) kw_86 rfl dX2_carryOut_65 ?_
            refine z_putN S kX0 hK hM hS hi 3 (by decide) kw_84 rfl rfl rfl (by decide) dX2_carryOut_68 (fun H locs hM hS => ?_)
            obtain ⟨M_106, eM_107⟩ : ∃ z : zMap, z = zu M it (.inr (0, [.int ty, .long bc, .int dg, .int pl, .int pl, .int st, .int fl, .int ow, .int wb, va_rf fi])) := ⟨_, rfl⟩
            replace hM : zM A G M_106 H := by rw [eM_107]; exact hM
            have he_108 : M_106 it = some (.inr (0, [.int ty, .long bc, .int dg, .int pl, .int pl, .int st, .int fl, .int ow, .int wb, va_rf fi])) := by rw [eM_107]; exact zu_s _ _ _
            have he_109 := (show M_106 h0 = M h0 by rw [eM_107]; exact zu_n (zne h hi (by simp))).trans h
            have he_110 := (show M_106 fee = M fee by rw [eM_107]; exact zu_n (zne hf hi (by simp))).trans hf
            refine lv_aload_n hx hb dX2_carryOut_71 rfl (lv_at hl 1 rfl) ?_
            refine lv_iload_n hx hb dX2_carryOut_72 rfl (lv_at hl 2 rfl) ?_
            refine z_putN S kX0 hK hM hS he_108 5 (by decide) kw_88 rfl rfl rfl (by decide) dX2_carryOut_73 (fun H locs hM hS => ?_)
            obtain ⟨M_111, eM_112⟩ : ∃ z : zMap, z = zu M_106 it (.inr (0, [.int ty, .long bc, .int dg, .int pl, .int pl, .int kind, .int fl, .int ow, .int wb, va_rf fi])) := ⟨_, rfl⟩
            replace hM : zM A G M_111 H := by rw [eM_112]; exact hM
            have he_113 : M_111 it = some (.inr (0, [.int ty, .long bc, .int dg, .int pl, .int pl, .int kind, .int fl, .int ow, .int wb, va_rf fi])) := by rw [eM_112]; exact zu_s _ _ _
            have he_114 := (show M_111 h0 = M_106 h0 by rw [eM_112]; exact zu_n (zne he_109 he_108 (by simp))).trans he_109
            have he_115 := (show M_111 fee = M_106 fee by rw [eM_112]; exact zu_n (zne he_110 he_108 (by simp))).trans he_110
            refine lv_aload_n hx hb dX2_carryOut_76 rfl (lv_at hl 1 rfl) ?_
            refine lv_iconst (v := -1) hx hb dX2_carryOut_77 (by decide) ?_
            refine z_putN S kX0 hK hM hS he_113 8 (by decide) kw_94 rfl rfl rfl (by decide) dX2_carryOut_78 (fun H locs hM hS => ?_)
            obtain ⟨M_116, eM_117⟩ : ∃ z : zMap, z = zu M_111 it (.inr (0, [.int ty, .long bc, .int dg, .int pl, .int pl, .int kind, .int fl, .int ow, .int (-1), va_rf fi])) := ⟨_, rfl⟩
            replace hM : zM A G M_116 H := by rw [eM_117]; exact hM
            have he_118 : M_116 it = some (.inr (0, [.int ty, .long bc, .int dg, .int pl, .int pl, .int kind, .int fl, .int ow, .int (-1), va_rf fi])) := by rw [eM_117]; exact zu_s _ _ _
            have he_119 := (show M_116 h0 = M_111 h0 by rw [eM_117]; exact zu_n (zne he_114 he_113 (by simp))).trans he_114
            have he_120 := (show M_116 fee = M_111 fee by rw [eM_117]; exact zu_n (zne he_115 he_113 (by simp))).trans he_115
            exact z_vret S hr hlocks hM hS ⟨rfl, by simp only [eM_117, eM_112, eM_107, zu_u]; simp [zCo, c_1, c_82, c_83, c_84, c_95]⟩ (Nat.le_of_ble_eq_true rfl) (Nat.le_of_ble_eq_true rfl) dX2_carryOut_81
      · -- 44 on
        refine lv_aload_n hx hb dX2_carryOut_47 rfl (lv_at hl 1 rfl) ?_
        refine lv_iload_n hx hb dX2_carryOut_48 rfl (lv_at hl 3 rfl) ?_
        refine z_putN S kX0 hK hM hS hi 4 (by decide) kw_86 rfl rfl rfl (by decide) dX2_carryOut_49 (fun H locs hM hS => ?_)
        obtain ⟨M_121, eM_122⟩ : ∃ z : zMap, z = zu M it (.inr (0, [.int ty, .long bc, .int dg, .int hm, .int place, .int st, .int fl, .int ow, .int wb, va_rf fi])) := ⟨_, rfl⟩
        replace hM : zM A G M_121 H := by rw [eM_122]; exact hM
        have he_123 : M_121 it = some (.inr (0, [.int ty, .long bc, .int dg, .int hm, .int place, .int st, .int fl, .int ow, .int wb, va_rf fi])) := by rw [eM_122]; exact zu_s _ _ _
        have he_124 := (show M_121 h0 = M h0 by rw [eM_122]; exact zu_n (zne h hi (by simp))).trans h
        have he_125 := (show M_121 fee = M fee by rw [eM_122]; exact zu_n (zne hf hi (by simp))).trans hf
        refine lv_iload_n hx hb dX2_carryOut_52 rfl (lv_at hl 2 rfl) ?_
        refine lv_if_ne (tgt := 71) hx hb dX2_carryOut_53 (by decide) (fun c_126 => ?_) (fun c_126 => ?_)
        · -- 53 jump
          refine lv_aload_n hx hb dX2_carryOut_71 rfl (lv_at hl 1 rfl) ?_
          refine lv_iload_n hx hb dX2_carryOut_72 rfl (lv_at hl 2 rfl) ?_
          refine z_putN S kX0 hK hM hS he_123 5 (by decide) kw_88 rfl rfl rfl (by decide) dX2_carryOut_73 (fun H locs hM hS => ?_)
          obtain ⟨M_127, eM_128⟩ : ∃ z : zMap, z = zu M_121 it (.inr (0, [.int ty, .long bc, .int dg, .int hm, .int place, .int kind, .int fl, .int ow, .int wb, va_rf fi])) := ⟨_, rfl⟩
          replace hM : zM A G M_127 H := by rw [eM_128]; exact hM
          have he_129 : M_127 it = some (.inr (0, [.int ty, .long bc, .int dg, .int hm, .int place, .int kind, .int fl, .int ow, .int wb, va_rf fi])) := by rw [eM_128]; exact zu_s _ _ _
          have he_130 := (show M_127 h0 = M_121 h0 by rw [eM_128]; exact zu_n (zne he_124 he_123 (by simp))).trans he_124
          have he_131 := (show M_127 fee = M_121 fee by rw [eM_128]; exact zu_n (zne he_125 he_123 (by simp))).trans he_125
          refine lv_aload_n hx hb dX2_carryOut_76 rfl (lv_at hl 1 rfl) ?_
          refine lv_iconst (v := -1) hx hb dX2_carryOut_77 (by decide) ?_
          refine z_putN S kX0 hK hM hS he_129 8 (by decide) kw_94 rfl rfl rfl (by decide) dX2_carryOut_78 (fun H locs hM hS => ?_)
          obtain ⟨M_132, eM_133⟩ : ∃ z : zMap, z = zu M_127 it (.inr (0, [.int ty, .long bc, .int dg, .int hm, .int place, .int kind, .int fl, .int ow, .int (-1), va_rf fi])) := ⟨_, rfl⟩
          replace hM : zM A G M_132 H := by rw [eM_133]; exact hM
          have he_134 : M_132 it = some (.inr (0, [.int ty, .long bc, .int dg, .int hm, .int place, .int kind, .int fl, .int ow, .int (-1), va_rf fi])) := by rw [eM_133]; exact zu_s _ _ _
          have he_135 := (show M_132 h0 = M_127 h0 by rw [eM_133]; exact zu_n (zne he_130 he_129 (by simp))).trans he_130
          have he_136 := (show M_132 fee = M_127 fee by rw [eM_133]; exact zu_n (zne he_131 he_129 (by simp))).trans he_131
          exact z_vret S hr hlocks hM hS ⟨rfl, by simp only [eM_133, eM_128, eM_122, zu_u]; simp [zCo, c_1, c_82, c_83, c_126]⟩ (Nat.le_of_ble_eq_true rfl) (Nat.le_of_ble_eq_true rfl) dX2_carryOut_81
        · -- 53 on
          refine lv_aload_n hx hb dX2_carryOut_56 rfl (lv_at hl 1 rfl) ?_
          refine z_getN (v := .int fl) S kX0 hK hM he_123 6 (by decide) kw_90 rfl dX2_carryOut_57 ?_
          refine lv_if_eq (tgt := 71) hx hb dX2_carryOut_60 (by decide) (fun c_137 => ?_) (fun c_137 => ?_)
          · -- 60 jump
            refine lv_aload_n hx hb dX2_carryOut_71 rfl (lv_at hl 1 rfl) ?_
            refine lv_iload_n hx hb dX2_carryOut_72 rfl (lv_at hl 2 rfl) ?_
            refine z_putN S kX0 hK hM hS he_123 5 (by decide) kw_88 rfl rfl rfl (by decide) dX2_carryOut_73 (fun H locs hM hS => ?_)
            obtain ⟨M_138, eM_139⟩ : ∃ z : zMap, z = zu M_121 it (.inr (0, [.int ty, .long bc, .int dg, .int hm, .int place, .int kind, .int fl, .int ow, .int wb, va_rf fi])) := ⟨_, rfl⟩
            replace hM : zM A G M_138 H := by rw [eM_139]; exact hM
            have he_140 : M_138 it = some (.inr (0, [.int ty, .long bc, .int dg, .int hm, .int place, .int kind, .int fl, .int ow, .int wb, va_rf fi])) := by rw [eM_139]; exact zu_s _ _ _
            have he_141 := (show M_138 h0 = M_121 h0 by rw [eM_139]; exact zu_n (zne he_124 he_123 (by simp))).trans he_124
            have he_142 := (show M_138 fee = M_121 fee by rw [eM_139]; exact zu_n (zne he_125 he_123 (by simp))).trans he_125
            refine lv_aload_n hx hb dX2_carryOut_76 rfl (lv_at hl 1 rfl) ?_
            refine lv_iconst (v := -1) hx hb dX2_carryOut_77 (by decide) ?_
            refine z_putN S kX0 hK hM hS he_140 8 (by decide) kw_94 rfl rfl rfl (by decide) dX2_carryOut_78 (fun H locs hM hS => ?_)
            obtain ⟨M_143, eM_144⟩ : ∃ z : zMap, z = zu M_138 it (.inr (0, [.int ty, .long bc, .int dg, .int hm, .int place, .int kind, .int fl, .int ow, .int (-1), va_rf fi])) := ⟨_, rfl⟩
            replace hM : zM A G M_143 H := by rw [eM_144]; exact hM
            have he_145 : M_143 it = some (.inr (0, [.int ty, .long bc, .int dg, .int hm, .int place, .int kind, .int fl, .int ow, .int (-1), va_rf fi])) := by rw [eM_144]; exact zu_s _ _ _
            have he_146 := (show M_143 h0 = M_138 h0 by rw [eM_144]; exact zu_n (zne he_141 he_140 (by simp))).trans he_141
            have he_147 := (show M_143 fee = M_138 fee by rw [eM_144]; exact zu_n (zne he_142 he_140 (by simp))).trans he_142
            exact z_vret S hr hlocks hM hS ⟨rfl, by simp only [eM_144, eM_139, eM_122, zu_u]; simp [zCo, c_1, c_82, c_83, c_126, c_137]⟩ (Nat.le_of_ble_eq_true rfl) (Nat.le_of_ble_eq_true rfl) dX2_carryOut_81
          · -- 60 on
            refine lv_aload_n hx hb dX2_carryOut_63 rfl (lv_at hl 1 rfl) ?_
            refine lv_aload_n hx hb dX2_carryOut_64 rfl (lv_at hl 1 rfl) ?_
            refine z_getN (v := .int place) S kX0 hK hM he_123 4 (by decide) kw_86 rfl dX2_carryOut_65 ?_
            refine z_putN S kX0 hK hM hS he_123 3 (by decide) kw_84 rfl rfl rfl (by decide) dX2_carryOut_68 (fun H locs hM hS => ?_)
            obtain ⟨M_148, eM_149⟩ : ∃ z : zMap, z = zu M_121 it (.inr (0, [.int ty, .long bc, .int dg, .int place, .int place, .int st, .int fl, .int ow, .int wb, va_rf fi])) := ⟨_, rfl⟩
            replace hM : zM A G M_148 H := by rw [eM_149]; exact hM
            have he_150 : M_148 it = some (.inr (0, [.int ty, .long bc, .int dg, .int place, .int place, .int st, .int fl, .int ow, .int wb, va_rf fi])) := by rw [eM_149]; exact zu_s _ _ _
            have he_151 := (show M_148 h0 = M_121 h0 by rw [eM_149]; exact zu_n (zne he_124 he_123 (by simp))).trans he_124
            have he_152 := (show M_148 fee = M_121 fee by rw [eM_149]; exact zu_n (zne he_125 he_123 (by simp))).trans he_125
            refine lv_aload_n hx hb dX2_carryOut_71 rfl (lv_at hl 1 rfl) ?_
            refine lv_iload_n hx hb dX2_carryOut_72 rfl (lv_at hl 2 rfl) ?_
            refine z_putN S kX0 hK hM hS he_150 5 (by decide) kw_88 rfl rfl rfl (by decide) dX2_carryOut_73 (fun H locs hM hS => ?_)
            obtain ⟨M_153, eM_154⟩ : ∃ z : zMap, z = zu M_148 it (.inr (0, [.int ty, .long bc, .int dg, .int place, .int place, .int kind, .int fl, .int ow, .int wb, va_rf fi])) := ⟨_, rfl⟩
            replace hM : zM A G M_153 H := by rw [eM_154]; exact hM
            have he_155 : M_153 it = some (.inr (0, [.int ty, .long bc, .int dg, .int place, .int place, .int kind, .int fl, .int ow, .int wb, va_rf fi])) := by rw [eM_154]; exact zu_s _ _ _
            have he_156 := (show M_153 h0 = M_148 h0 by rw [eM_154]; exact zu_n (zne he_151 he_150 (by simp))).trans he_151
            have he_157 := (show M_153 fee = M_148 fee by rw [eM_154]; exact zu_n (zne he_152 he_150 (by simp))).trans he_152
            refine lv_aload_n hx hb dX2_carryOut_76 rfl (lv_at hl 1 rfl) ?_
            refine lv_iconst (v := -1) hx hb dX2_carryOut_77 (by decide) ?_
            refine z_putN S kX0 hK hM hS he_155 8 (by decide) kw_94 rfl rfl rfl (by decide) dX2_carryOut_78 (fun H locs hM hS => ?_)
            obtain ⟨M_158, eM_159⟩ : ∃ z : zMap, z = zu M_153 it (.inr (0, [.int ty, .long bc, .int dg, .int place, .int place, .int kind, .int fl, .int ow, .int (-1), va_rf fi])) := ⟨_, rfl⟩
            replace hM : zM A G M_158 H := by rw [eM_159]; exact hM
            have he_160 : M_158 it = some (.inr (0, [.int ty, .long bc, .int dg, .int place, .int place, .int kind, .int fl, .int ow, .int (-1), va_rf fi])) := by rw [eM_159]; exact zu_s _ _ _
            have he_161 := (show M_158 h0 = M_153 h0 by rw [eM_159]; exact zu_n (zne he_156 he_155 (by simp))).trans he_156
            have he_162 := (show M_158 fee = M_153 fee by rw [eM_159]; exact zu_n (zne he_157 he_155 (by simp))).trans he_157
            exact z_vret S hr hlocks hM hS ⟨rfl, by simp only [eM_159, eM_154, eM_149, eM_122, zu_u]; simp [zCo, c_1, c_82, c_83, c_126, c_137]⟩ (Nat.le_of_ble_eq_true rfl) (Nat.le_of_ble_eq_true rfl) dX2_carryOut_81
    · -- 11 on
      refine lv_aload_n hx hb dX2_carryOut_14 rfl (lv_at hl 1 rfl) ?_
      refine z_getN (v := .int ty) S kX0 hK hM hi 0 (by decide) kw_78 rfl dX2_carryOut_15 ?_
      refine z_callS (As := [.int ty]) (rest := []) S (c_X2_isType l A G M ty) ok_X2_isType kw_49 kw_50 ⟨Nat.le_of_ble_eq_true rfl, Nat.le_of_ble_eq_true rfl⟩ hK hM hS hA rfl hl.1 rfl (Nat.le_of_ble_eq_true rfl) dX2_carryOut_18 ⟨Nat.le_of_ble_eq_true rfl, Nat.le_of_ble_eq_true rfl⟩ (fun r_165 M_163 H locs hp_164 hM hS => ?_)
      obtain ⟨rfl, hM9⟩ := hp_164
      rw [hM9] at hM
      refine W.eq (g2 := F0 m 21 ls [.int (zb (zTy ty))]) rfl ?_
      refine lv_if_eq (tgt := 42) hx hb dX2_carryOut_21 (by decide) (fun c_166 => ?_) (fun c_166 => ?_)
      · -- 21 jump
        rw [zb_0] at c_166
        refine lv_iload_n hx hb dX2_carryOut_42 rfl (lv_at hl 2 rfl) ?_
        refine lv_iconst (v := 2) hx hb dX2_carryOut_43 (by decide) ?_
        refine lv_icmp_ne (tgt := 52) hx hb dX2_carryOut_44 (by decide) (fun c_167 => ?_) (fun c_167 => ?_)
        · -- 44 jump
          refine lv_iload_n hx hb dX2_carryOut_52 rfl (lv_at hl 2 rfl) ?_
          refine lv_if_ne (tgt := 71) hx hb dX2_carryOut_53 (by decide) (fun c_168 => ?_) (fun c_168 => ?_)
          · -- 53 jump
            refine lv_aload_n hx hb dX2_carryOut_71 rfl (lv_at hl 1 rfl) ?_
            refine lv_iload_n hx hb dX2_carryOut_72 rfl (lv_at hl 2 rfl) ?_
            refine z_putN S kX0 hK hM hS hi 5 (by decide) kw_88 rfl rfl rfl (by decide) dX2_carryOut_73 (fun H locs hM hS => ?_)
            obtain ⟨M_169, eM_170⟩ : ∃ z : zMap, z = zu M it (.inr (0, [.int ty, .long bc, .int dg, .int hm, .int pl, .int kind, .int fl, .int ow, .int wb, va_rf fi])) := ⟨_, rfl⟩
            replace hM : zM A G M_169 H := by rw [eM_170]; exact hM
            have he_171 : M_169 it = some (.inr (0, [.int ty, .long bc, .int dg, .int hm, .int pl, .int kind, .int fl, .int ow, .int wb, va_rf fi])) := by rw [eM_170]; exact zu_s _ _ _
            have he_172 := (show M_169 h0 = M h0 by rw [eM_170]; exact zu_n (zne h hi (by simp))).trans h
            have he_173 := (show M_169 fee = M fee by rw [eM_170]; exact zu_n (zne hf hi (by simp))).trans hf
            refine lv_aload_n hx hb dX2_carryOut_76 rfl (lv_at hl 1 rfl) ?_
            refine lv_iconst (v := -1) hx hb dX2_carryOut_77 (by decide) ?_
            refine z_putN S kX0 hK hM hS he_171 8 (by decide) kw_94 rfl rfl rfl (by decide) dX2_carryOut_78 (fun H locs hM hS => ?_)
            obtain ⟨M_174, eM_175⟩ : ∃ z : zMap, z = zu M_169 it (.inr (0, [.int ty, .long bc, .int dg, .int hm, .int pl, .int kind, .int fl, .int ow, .int (-1), va_rf fi])) := ⟨_, rfl⟩
            replace hM : zM A G M_174 H := by rw [eM_175]; exact hM
            have he_176 : M_174 it = some (.inr (0, [.int ty, .long bc, .int dg, .int hm, .int pl, .int kind, .int fl, .int ow, .int (-1), va_rf fi])) := by rw [eM_175]; exact zu_s _ _ _
            have he_177 := (show M_174 h0 = M_169 h0 by rw [eM_175]; exact zu_n (zne he_172 he_171 (by simp))).trans he_172
            have he_178 := (show M_174 fee = M_169 fee by rw [eM_175]; exact zu_n (zne he_173 he_171 (by simp))).trans he_173
            exact z_vret S hr hlocks hM hS ⟨rfl, by simp only [eM_175, eM_170, zu_u]; simp [zCo, c_1, c_82, c_166, c_167, c_168]⟩ (Nat.le_of_ble_eq_true rfl) (Nat.le_of_ble_eq_true rfl) dX2_carryOut_81
          · -- 53 on
            refine lv_aload_n hx hb dX2_carryOut_56 rfl (lv_at hl 1 rfl) ?_
            refine z_getN (v := .int fl) S kX0 hK hM hi 6 (by decide) kw_90 rfl dX2_carryOut_57 ?_
            refine lv_if_eq (tgt := 71) hx hb dX2_carryOut_60 (by decide) (fun c_179 => ?_) (fun c_179 => ?_)
            · -- 60 jump
              refine lv_aload_n hx hb dX2_carryOut_71 rfl (lv_at hl 1 rfl) ?_
              refine lv_iload_n hx hb dX2_carryOut_72 rfl (lv_at hl 2 rfl) ?_
              refine z_putN S kX0 hK hM hS hi 5 (by decide) kw_88 rfl rfl rfl (by decide) dX2_carryOut_73 (fun H locs hM hS => ?_)
              obtain ⟨M_180, eM_181⟩ : ∃ z : zMap, z = zu M it (.inr (0, [.int ty, .long bc, .int dg, .int hm, .int pl, .int kind, .int fl, .int ow, .int wb, va_rf fi])) := ⟨_, rfl⟩
              replace hM : zM A G M_180 H := by rw [eM_181]; exact hM
              have he_182 : M_180 it = some (.inr (0, [.int ty, .long bc, .int dg, .int hm, .int pl, .int kind, .int fl, .int ow, .int wb, va_rf fi])) := by rw [eM_181]; exact zu_s _ _ _
              have he_183 := (show M_180 h0 = M h0 by rw [eM_181]; exact zu_n (zne h hi (by simp))).trans h
              have he_184 := (show M_180 fee = M fee by rw [eM_181]; exact zu_n (zne hf hi (by simp))).trans hf
              refine lv_aload_n hx hb dX2_carryOut_76 rfl (lv_at hl 1 rfl) ?_
              refine lv_iconst (v := -1) hx hb dX2_carryOut_77 (by decide) ?_
              refine z_putN S kX0 hK hM hS he_182 8 (by decide) kw_94 rfl rfl rfl (by decide) dX2_carryOut_78 (fun H locs hM hS => ?_)
              obtain ⟨M_185, eM_186⟩ : ∃ z : zMap, z = zu M_180 it (.inr (0, [.int ty, .long bc, .int dg, .int hm, .int pl, .int kind, .int fl, .int ow, .int (-1), va_rf fi])) := ⟨_, rfl⟩
              replace hM : zM A G M_185 H := by rw [eM_186]; exact hM
              have he_187 : M_185 it = some (.inr (0, [.int ty, .long bc, .int dg, .int hm, .int pl, .int kind, .int fl, .int ow, .int (-1), va_rf fi])) := by rw [eM_186]; exact zu_s _ _ _
              have he_188 := (show M_185 h0 = M_180 h0 by rw [eM_186]; exact zu_n (zne he_183 he_182 (by simp))).trans he_183
              have he_189 := (show M_185 fee = M_180 fee by rw [eM_186]; exact zu_n (zne he_184 he_182 (by simp))).trans he_184
              exact z_vret S hr hlocks hM hS ⟨rfl, by simp only [eM_186, eM_181, zu_u]; simp [zCo, c_1, c_82, c_166, c_167, c_168, c_179]⟩ (Nat.le_of_ble_eq_true rfl) (Nat.le_of_ble_eq_true rfl) dX2_carryOut_81
            · -- 60 on
              refine lv_aload_n hx hb dX2_carryOut_63 rfl (lv_at hl 1 rfl) ?_
              refine lv_aload_n hx hb dX2_carryOut_64 rfl (lv_at hl 1 rfl) ?_
              refine z_getN (v := .int pl) S kX0 hK hM hi 4 (by decide) kw_86 rfl dX2_carryOut_65 ?_
              refine z_putN S kX0 hK hM hS hi 3 (by decide) kw_84 rfl rfl rfl (by decide) dX2_carryOut_68 (fun H locs hM hS => ?_)
              obtain ⟨M_190, eM_191⟩ : ∃ z : zMap, z = zu M it (.inr (0, [.int ty, .long bc, .int dg, .int pl, .int pl, .int st, .int fl, .int ow, .int wb, va_rf fi])) := ⟨_, rfl⟩
              replace hM : zM A G M_190 H := by rw [eM_191]; exact hM
              have he_192 : M_190 it = some (.inr (0, [.int ty, .long bc, .int dg, .int pl, .int pl, .int st, .int fl, .int ow, .int wb, va_rf fi])) := by rw [eM_191]; exact zu_s _ _ _
              have he_193 := (show M_190 h0 = M h0 by rw [eM_191]; exact zu_n (zne h hi (by simp))).trans h
              have he_194 := (show M_190 fee = M fee by rw [eM_191]; exact zu_n (zne hf hi (by simp))).trans hf
              refine lv_aload_n hx hb dX2_carryOut_71 rfl (lv_at hl 1 rfl) ?_
              refine lv_iload_n hx hb dX2_carryOut_72 rfl (lv_at hl 2 rfl) ?_
              refine z_putN S kX0 hK hM hS he_192 5 (by decide) kw_88 rfl rfl rfl (by decide) dX2_carryOut_73 (fun H locs hM hS => ?_)
              obtain ⟨M_195, eM_196⟩ : ∃ z : zMap, z = zu M_190 it (.inr (0, [.int ty, .long bc, .int dg, .int pl, .int pl, .int kind, .int fl, .int ow, .int wb, va_rf fi])) := ⟨_, rfl⟩
              replace hM : zM A G M_195 H := by rw [eM_196]; exact hM
              have he_197 : M_195 it = some (.inr (0, [.int ty, .long bc, .int dg, .int pl, .int pl, .int kind, .int fl, .int ow, .int wb, va_rf fi])) := by rw [eM_196]; exact zu_s _ _ _
              have he_198 := (show M_195 h0 = M_190 h0 by rw [eM_196]; exact zu_n (zne he_193 he_192 (by simp))).trans he_193
              have he_199 := (show M_195 fee = M_190 fee by rw [eM_196]; exact zu_n (zne he_194 he_192 (by simp))).trans he_194
              refine lv_aload_n hx hb dX2_carryOut_76 rfl (lv_at hl 1 rfl) ?_
              refine lv_iconst (v := -1) hx hb dX2_carryOut_77 (by decide) ?_
              refine z_putN S kX0 hK hM hS he_197 8 (by decide) kw_94 rfl rfl rfl (by decide) dX2_carryOut_78 (fun H locs hM hS => ?_)
              obtain ⟨M_200, eM_201⟩ : ∃ z : zMap, z = zu M_195 it (.inr (0, [.int ty, .long bc, .int dg, .int pl, .int pl, .int kind, .int fl, .int ow, .int (-1), va_rf fi])) := ⟨_, rfl⟩
              replace hM : zM A G M_200 H := by rw [eM_201]; exact hM
              have he_202 : M_200 it = some (.inr (0, [.int ty, .long bc, .int dg, .int pl, .int pl, .int kind, .int fl, .int ow, .int (-1), va_rf fi])) := by rw [eM_201]; exact zu_s _ _ _
              have he_203 := (show M_200 h0 = M_195 h0 by rw [eM_201]; exact zu_n (zne he_198 he_197 (by simp))).trans he_198
              have he_204 := (show M_200 fee = M_195 fee by rw [eM_201]; exact zu_n (zne he_199 he_197 (by simp))).trans he_199
              exact z_vret S hr hlocks hM hS ⟨rfl, by simp only [eM_201, eM_196, eM_191, zu_u]; simp [zCo, c_1, c_82, c_166, c_167, c_168, c_179]⟩ (Nat.le_of_ble_eq_true rfl) (Nat.le_of_ble_eq_true rfl) dX2_carryOut_81
        · -- 44 on
          refine lv_aload_n hx hb dX2_carryOut_47 rfl (lv_at hl 1 rfl) ?_
          refine lv_iload_n hx hb dX2_carryOut_48 rfl (lv_at hl 3 rfl) ?_
          refine z_putN S kX0 hK hM hS hi 4 (by decide) kw_86 rfl rfl rfl (by decide) dX2_carryOut_49 (fun H locs hM hS => ?_)
          obtain ⟨M_205, eM_206⟩ : ∃ z : zMap, z = zu M it (.inr (0, [.int ty, .long bc, .int dg, .int hm, .int place, .int st, .int fl, .int ow, .int wb, va_rf fi])) := ⟨_, rfl⟩
          replace hM : zM A G M_205 H := by rw [eM_206]; exact hM
          have he_207 : M_205 it = some (.inr (0, [.int ty, .long bc, .int dg, .int hm, .int place, .int st, .int fl, .int ow, .int wb, va_rf fi])) := by rw [eM_206]; exact zu_s _ _ _
          have he_208 := (show M_205 h0 = M h0 by rw [eM_206]; exact zu_n (zne h hi (by simp))).trans h
          have he_209 := (show M_205 fee = M fee by rw [eM_206]; exact zu_n (zne hf hi (by simp))).trans hf
          refine lv_iload_n hx hb dX2_carryOut_52 rfl (lv_at hl 2 rfl) ?_
          refine lv_if_ne (tgt := 71) hx hb dX2_carryOut_53 (by decide) (fun c_210 => ?_) (fun c_210 => ?_)
          · -- 53 jump
            refine lv_aload_n hx hb dX2_carryOut_71 rfl (lv_at hl 1 rfl) ?_
            refine lv_iload_n hx hb dX2_carryOut_72 rfl (lv_at hl 2 rfl) ?_
            refine z_putN S kX0 hK hM hS he_207 5 (by decide) kw_88 rfl rfl rfl (by decide) dX2_carryOut_73 (fun H locs hM hS => ?_)
            obtain ⟨M_211, eM_212⟩ : ∃ z : zMap, z = zu M_205 it (.inr (0, [.int ty, .long bc, .int dg, .int hm, .int place, .int kind, .int fl, .int ow, .int wb, va_rf fi])) := ⟨_, rfl⟩
            replace hM : zM A G M_211 H := by rw [eM_212]; exact hM
            have he_213 : M_211 it = some (.inr (0, [.int ty, .long bc, .int dg, .int hm, .int place, .int kind, .int fl, .int ow, .int wb, va_rf fi])) := by rw [eM_212]; exact zu_s _ _ _
            have he_214 := (show M_211 h0 = M_205 h0 by rw [eM_212]; exact zu_n (zne he_208 he_207 (by simp))).trans he_208
            have he_215 := (show M_211 fee = M_205 fee by rw [eM_212]; exact zu_n (zne he_209 he_207 (by simp))).trans he_209
            refine lv_aload_n hx hb dX2_carryOut_76 rfl (lv_at hl 1 rfl) ?_
            refine lv_iconst (v := -1) hx hb dX2_carryOut_77 (by decide) ?_
            refine z_putN S kX0 hK hM hS he_213 8 (by decide) kw_94 rfl rfl rfl (by decide) dX2_carryOut_78 (fun H locs hM hS => ?_)
            obtain ⟨M_216, eM_217⟩ : ∃ z : zMap, z = zu M_211 it (.inr (0, [.int ty, .long bc, .int dg, .int hm, .int place, .int kind, .int fl, .int ow, .int (-1), va_rf fi])) := ⟨_, rfl⟩
            replace hM : zM A G M_216 H := by rw [eM_217]; exact hM
            have he_218 : M_216 it = some (.inr (0, [.int ty, .long bc, .int dg, .int hm, .int place, .int kind, .int fl, .int ow, .int (-1), va_rf fi])) := by rw [eM_217]; exact zu_s _ _ _
            have he_219 := (show M_216 h0 = M_211 h0 by rw [eM_217]; exact zu_n (zne he_214 he_213 (by simp))).trans he_214
            have he_220 := (show M_216 fee = M_211 fee by rw [eM_217]; exact zu_n (zne he_215 he_213 (by simp))).trans he_215
            exact z_vret S hr hlocks hM hS ⟨rfl, by simp only [eM_217, eM_212, eM_206, zu_u]; simp [zCo, c_1, c_82, c_166, c_167, c_210]⟩ (Nat.le_of_ble_eq_true rfl) (Nat.le_of_ble_eq_true rfl) dX2_carryOut_81
          · -- 53 on
            refine lv_aload_n hx hb dX2_carryOut_56 rfl (lv_at hl 1 rfl) ?_
            refine z_getN (v := .int fl) S kX0 hK hM he_207 6 (by decide) kw_90 rfl dX2_carryOut_57 ?_
            refine lv_if_eq (tgt := 71) hx hb dX2_carryOut_60 (by decide) (fun c_221 => ?_) (fun c_221 => ?_)
            · -- 60 jump
              refine lv_aload_n hx hb dX2_carryOut_71 rfl (lv_at hl 1 rfl) ?_
              refine lv_iload_n hx hb dX2_carryOut_72 rfl (lv_at hl 2 rfl) ?_
              refine z_putN S kX0 hK hM hS he_207 5 (by decide) kw_88 rfl rfl rfl (by decide) dX2_carryOut_73 (fun H locs hM hS => ?_)
              obtain ⟨M_222, eM_223⟩ : ∃ z : zMap, z = zu M_205 it (.inr (0, [.int ty, .long bc, .int dg, .int hm, .int place, .int kind, .int fl, .int ow, .int wb, va_rf fi])) := ⟨_, rfl⟩
              replace hM : zM A G M_222 H := by rw [eM_223]; exact hM
              have he_224 : M_222 it = some (.inr (0, [.int ty, .long bc, .int dg, .int hm, .int place, .int kind, .int fl, .int ow, .int wb, va_rf fi])) := by rw [eM_223]; exact zu_s _ _ _
              have he_225 := (show M_222 h0 = M_205 h0 by rw [eM_223]; exact zu_n (zne he_208 he_207 (by simp))).trans he_208
              have he_226 := (show M_222 fee = M_205 fee by rw [eM_223]; exact zu_n (zne he_209 he_207 (by simp))).trans he_209
              refine lv_aload_n hx hb dX2_carryOut_76 rfl (lv_at hl 1 rfl) ?_
              refine lv_iconst (v := -1) hx hb dX2_carryOut_77 (by decide) ?_
              refine z_putN S kX0 hK hM hS he_224 8 (by decide) kw_94 rfl rfl rfl (by decide) dX2_carryOut_78 (fun H locs hM hS => ?_)
              obtain ⟨M_227, eM_228⟩ : ∃ z : zMap, z = zu M_222 it (.inr (0, [.int ty, .long bc, .int dg, .int hm, .int place, .int kind, .int fl, .int ow, .int (-1), va_rf fi])) := ⟨_, rfl⟩
              replace hM : zM A G M_227 H := by rw [eM_228]; exact hM
              have he_229 : M_227 it = some (.inr (0, [.int ty, .long bc, .int dg, .int hm, .int place, .int kind, .int fl, .int ow, .int (-1), va_rf fi])) := by rw [eM_228]; exact zu_s _ _ _
              have he_230 := (show M_227 h0 = M_222 h0 by rw [eM_228]; exact zu_n (zne he_225 he_224 (by simp))).trans he_225
              have he_231 := (show M_227 fee = M_222 fee by rw [eM_228]; exact zu_n (zne he_226 he_224 (by simp))).trans he_226
              exact z_vret S hr hlocks hM hS ⟨rfl, by simp only [eM_228, eM_223, eM_206, zu_u]; simp [zCo, c_1, c_82, c_166, c_167, c_210, c_221]⟩ (Nat.le_of_ble_eq_true rfl) (Nat.le_of_ble_eq_true rfl) dX2_carryOut_81
            · -- 60 on
              refine lv_aload_n hx hb dX2_carryOut_63 rfl (lv_at hl 1 rfl) ?_
              refine lv_aload_n hx hb dX2_carryOut_64 rfl (lv_at hl 1 rfl) ?_
              refine z_getN (v := .int place) S kX0 hK hM he_207 4 (by decide) kw_86 rfl dX2_carryOut_65 ?_
              refine z_putN S kX0 hK hM hS he_207 3 (by decide) kw_84 rfl rfl rfl (by decide) dX2_carryOut_68 (fun H locs hM hS => ?_)
              obtain ⟨M_232, eM_233⟩ : ∃ z : zMap, z = zu M_205 it (.inr (0, [.int ty, .long bc, .int dg, .int place, .int place, .int st, .int fl, .int ow, .int wb, va_rf fi])) := ⟨_, rfl⟩
              replace hM : zM A G M_232 H := by rw [eM_233]; exact hM
              have he_234 : M_232 it = some (.inr (0, [.int ty, .long bc, .int dg, .int place, .int place, .int st, .int fl, .int ow, .int wb, va_rf fi])) := by rw [eM_233]; exact zu_s _ _ _
              have he_235 := (show M_232 h0 = M_205 h0 by rw [eM_233]; exact zu_n (zne he_208 he_207 (by simp))).trans he_208
              have he_236 := (show M_232 fee = M_205 fee by rw [eM_233]; exact zu_n (zne he_209 he_207 (by simp))).trans he_209
              refine lv_aload_n hx hb dX2_carryOut_71 rfl (lv_at hl 1 rfl) ?_
              refine lv_iload_n hx hb dX2_carryOut_72 rfl (lv_at hl 2 rfl) ?_
              refine z_putN S kX0 hK hM hS he_234 5 (by decide) kw_88 rfl rfl rfl (by decide) dX2_carryOut_73 (fun H locs hM hS => ?_)
              obtain ⟨M_237, eM_238⟩ : ∃ z : zMap, z = zu M_232 it (.inr (0, [.int ty, .long bc, .int dg, .int place, .int place, .int kind, .int fl, .int ow, .int wb, va_rf fi])) := ⟨_, rfl⟩
              replace hM : zM A G M_237 H := by rw [eM_238]; exact hM
              have he_239 : M_237 it = some (.inr (0, [.int ty, .long bc, .int dg, .int place, .int place, .int kind, .int fl, .int ow, .int wb, va_rf fi])) := by rw [eM_238]; exact zu_s _ _ _
              have he_240 := (show M_237 h0 = M_232 h0 by rw [eM_238]; exact zu_n (zne he_235 he_234 (by simp))).trans he_235
              have he_241 := (show M_237 fee = M_232 fee by rw [eM_238]; exact zu_n (zne he_236 he_234 (by simp))).trans he_236
              refine lv_aload_n hx hb dX2_carryOut_76 rfl (lv_at hl 1 rfl) ?_
              refine lv_iconst (v := -1) hx hb dX2_carryOut_77 (by decide) ?_
              refine z_putN S kX0 hK hM hS he_239 8 (by decide) kw_94 rfl rfl rfl (by decide) dX2_carryOut_78 (fun H locs hM hS => ?_)
              obtain ⟨M_242, eM_243⟩ : ∃ z : zMap, z = zu M_237 it (.inr (0, [.int ty, .long bc, .int dg, .int place, .int place, .int kind, .int fl, .int ow, .int (-1), va_rf fi])) := ⟨_, rfl⟩
              replace hM : zM A G M_242 H := by rw [eM_243]; exact hM
              have he_244 : M_242 it = some (.inr (0, [.int ty, .long bc, .int dg, .int place, .int place, .int kind, .int fl, .int ow, .int (-1), va_rf fi])) := by rw [eM_243]; exact zu_s _ _ _
              have he_245 := (show M_242 h0 = M_237 h0 by rw [eM_243]; exact zu_n (zne he_240 he_239 (by simp))).trans he_240
              have he_246 := (show M_242 fee = M_237 fee by rw [eM_243]; exact zu_n (zne he_241 he_239 (by simp))).trans he_241
              exact z_vret S hr hlocks hM hS ⟨rfl, by simp only [eM_243, eM_238, eM_233, eM_206, zu_u]; simp [zCo, c_1, c_82, c_166, c_167, c_210, c_221]⟩ (Nat.le_of_ble_eq_true rfl) (Nat.le_of_ble_eq_true rfl) dX2_carryOut_81
      · -- 21 on
        rw [zb_0n] at c_166
        refine lv_aload_n hx hb dX2_carryOut_24 rfl (lv_at hl 1 rfl) ?_
        refine lv_dup hx hb dX2_carryOut_25 rfl ?_
        refine z_getN (v := .int ow) S kX0 hK hM hi 7 (by decide) kw_92 rfl dX2_carryOut_26 ?_
        refine lv_aload_n hx hb dX2_carryOut_29 rfl (lv_at hl 0 rfl) ?_
        refine z_get (v := .ref fee) S kX2 hK hM h 3 (by decide) kw_19 rfl dX2_carryOut_30 ?_
        refine lv_aload_n hx hb dX2_carryOut_33 rfl (lv_at hl 1 rfl) ?_
        refine z_getN (v := .int ty) S kX0 hK hM hi 0 (by decide) kw_78 rfl dX2_carryOut_34 ?_
        refine z_iald S hK hM 0 hf rfl (zTy_vp c_166) dX2_carryOut_37 ?_
        refine lv_iadd hx hb dX2_carryOut_38 ?_
        refine z_putN S kX0 hK hM hS hi 7 (by decide) kw_92 rfl rfl rfl (by decide) dX2_carryOut_39 (fun H locs hM hS => ?_)
        obtain ⟨M_247, eM_248⟩ : ∃ z : zMap, z = zu M it (.inr (0, [.int ty, .long bc, .int dg, .int hm, .int pl, .int st, .int fl, .int (ow + (fe ty.toNatClampNeg)), .int wb, va_rf fi])) := ⟨_, rfl⟩
        replace hM : zM A G M_247 H := by rw [eM_248]; exact hM
        have he_249 : M_247 it = some (.inr (0, [.int ty, .long bc, .int dg, .int hm, .int pl, .int st, .int fl, .int (ow + (fe ty.toNatClampNeg)), .int wb, va_rf fi])) := by rw [eM_248]; exact zu_s _ _ _
        have he_250 := (show M_247 h0 = M h0 by rw [eM_248]; exact zu_n (zne h hi (by simp))).trans h
        have he_251 := (show M_247 fee = M fee by rw [eM_248]; exact zu_n (zne hf hi (by simp))).trans hf
        refine lv_iload_n hx hb dX2_carryOut_42 rfl (lv_at hl 2 rfl) ?_
        refine lv_iconst (v := 2) hx hb dX2_carryOut_43 (by decide) ?_
        refine lv_icmp_ne (tgt := 52) hx hb dX2_carryOut_44 (by decide) (fun c_252 => ?_) (fun c_252 => ?_)
        · -- 44 jump
          refine lv_iload_n hx hb dX2_carryOut_52 rfl (lv_at hl 2 rfl) ?_
          refine lv_if_ne (tgt := 71) hx hb dX2_carryOut_53 (by decide) (fun c_253 => ?_) (fun c_253 => ?_)
          · -- 53 jump
            refine lv_aload_n hx hb dX2_carryOut_71 rfl (lv_at hl 1 rfl) ?_
            refine lv_iload_n hx hb dX2_carryOut_72 rfl (lv_at hl 2 rfl) ?_
            refine z_putN S kX0 hK hM hS he_249 5 (by decide) kw_88 rfl rfl rfl (by decide) dX2_carryOut_73 (fun H locs hM hS => ?_)
            obtain ⟨M_254, eM_255⟩ : ∃ z : zMap, z = zu M_247 it (.inr (0, [.int ty, .long bc, .int dg, .int hm, .int pl, .int kind, .int fl, .int (ow + (fe ty.toNatClampNeg)), .int wb, va_rf fi])) := ⟨_, rfl⟩
            replace hM : zM A G M_254 H := by rw [eM_255]; exact hM
            have he_256 : M_254 it = some (.inr (0, [.int ty, .long bc, .int dg, .int hm, .int pl, .int kind, .int fl, .int (ow + (fe ty.toNatClampNeg)), .int wb, va_rf fi])) := by rw [eM_255]; exact zu_s _ _ _
            have he_257 := (show M_254 h0 = M_247 h0 by rw [eM_255]; exact zu_n (zne he_250 he_249 (by simp))).trans he_250
            have he_258 := (show M_254 fee = M_247 fee by rw [eM_255]; exact zu_n (zne he_251 he_249 (by simp))).trans he_251
            refine lv_aload_n hx hb dX2_carryOut_76 rfl (lv_at hl 1 rfl) ?_
            refine lv_iconst (v := -1) hx hb dX2_carryOut_77 (by decide) ?_
            refine z_putN S kX0 hK hM hS he_256 8 (by decide) kw_94 rfl rfl rfl (by decide) dX2_carryOut_78 (fun H locs hM hS => ?_)
            obtain ⟨M_259, eM_260⟩ : ∃ z : zMap, z = zu M_254 it (.inr (0, [.int ty, .long bc, .int dg, .int hm, .int pl, .int kind, .int fl, .int (ow + (fe ty.toNatClampNeg)), .int (-1), va_rf fi])) := ⟨_, rfl⟩
            replace hM : zM A G M_259 H := by rw [eM_260]; exact hM
            have he_261 : M_259 it = some (.inr (0, [.int ty, .long bc, .int dg, .int hm, .int pl, .int kind, .int fl, .int (ow + (fe ty.toNatClampNeg)), .int (-1), va_rf fi])) := by rw [eM_260]; exact zu_s _ _ _
            have he_262 := (show M_259 h0 = M_254 h0 by rw [eM_260]; exact zu_n (zne he_257 he_256 (by simp))).trans he_257
            have he_263 := (show M_259 fee = M_254 fee by rw [eM_260]; exact zu_n (zne he_258 he_256 (by simp))).trans he_258
            exact z_vret S hr hlocks hM hS ⟨rfl, by simp only [eM_260, eM_255, eM_248, zu_u]; simp [zCo, c_1, c_82, c_166, c_252, c_253]⟩ (Nat.le_of_ble_eq_true rfl) (Nat.le_of_ble_eq_true rfl) dX2_carryOut_81
          · -- 53 on
            refine lv_aload_n hx hb dX2_carryOut_56 rfl (lv_at hl 1 rfl) ?_
            refine z_getN (v := .int fl) S kX0 hK hM he_249 6 (by decide) kw_90 rfl dX2_carryOut_57 ?_
            refine lv_if_eq (tgt := 71) hx hb dX2_carryOut_60 (by decide) (fun c_264 => ?_) (fun c_264 => ?_)
            · -- 60 jump
              refine lv_aload_n hx hb dX2_carryOut_71 rfl (lv_at hl 1 rfl) ?_
              refine lv_iload_n hx hb dX2_carryOut_72 rfl (lv_at hl 2 rfl) ?_
              refine z_putN S kX0 hK hM hS he_249 5 (by decide) kw_88 rfl rfl rfl (by decide) dX2_carryOut_73 (fun H locs hM hS => ?_)
              obtain ⟨M_265, eM_266⟩ : ∃ z : zMap, z = zu M_247 it (.inr (0, [.int ty, .long bc, .int dg, .int hm, .int pl, .int kind, .int fl, .int (ow + (fe ty.toNatClampNeg)), .int wb, va_rf fi])) := ⟨_, rfl⟩
              replace hM : zM A G M_265 H := by rw [eM_266]; exact hM
              have he_267 : M_265 it = some (.inr (0, [.int ty, .long bc, .int dg, .int hm, .int pl, .int kind, .int fl, .int (ow + (fe ty.toNatClampNeg)), .int wb, va_rf fi])) := by rw [eM_266]; exact zu_s _ _ _
              have he_268 := (show M_265 h0 = M_247 h0 by rw [eM_266]; exact zu_n (zne he_250 he_249 (by simp))).trans he_250
              have he_269 := (show M_265 fee = M_247 fee by rw [eM_266]; exact zu_n (zne he_251 he_249 (by simp))).trans he_251
              refine lv_aload_n hx hb dX2_carryOut_76 rfl (lv_at hl 1 rfl) ?_
              refine lv_iconst (v := -1) hx hb dX2_carryOut_77 (by decide) ?_
              refine z_putN S kX0 hK hM hS he_267 8 (by decide) kw_94 rfl rfl rfl (by decide) dX2_carryOut_78 (fun H locs hM hS => ?_)
              obtain ⟨M_270, eM_271⟩ : ∃ z : zMap, z = zu M_265 it (.inr (0, [.int ty, .long bc, .int dg, .int hm, .int pl, .int kind, .int fl, .int (ow + (fe ty.toNatClampNeg)), .int (-1), va_rf fi])) := ⟨_, rfl⟩
              replace hM : zM A G M_270 H := by rw [eM_271]; exact hM
              have he_272 : M_270 it = some (.inr (0, [.int ty, .long bc, .int dg, .int hm, .int pl, .int kind, .int fl, .int (ow + (fe ty.toNatClampNeg)), .int (-1), va_rf fi])) := by rw [eM_271]; exact zu_s _ _ _
              have he_273 := (show M_270 h0 = M_265 h0 by rw [eM_271]; exact zu_n (zne he_268 he_267 (by simp))).trans he_268
              have he_274 := (show M_270 fee = M_265 fee by rw [eM_271]; exact zu_n (zne he_269 he_267 (by simp))).trans he_269
              exact z_vret S hr hlocks hM hS ⟨rfl, by simp only [eM_271, eM_266, eM_248, zu_u]; simp [zCo, c_1, c_82, c_166, c_252, c_253, c_264]⟩ (Nat.le_of_ble_eq_true rfl) (Nat.le_of_ble_eq_true rfl) dX2_carryOut_81
            · -- 60 on
              refine lv_aload_n hx hb dX2_carryOut_63 rfl (lv_at hl 1 rfl) ?_
              refine lv_aload_n hx hb dX2_carryOut_64 rfl (lv_at hl 1 rfl) ?_
              refine z_getN (v := .int pl) S kX0 hK hM he_249 4 (by decide) kw_86 rfl dX2_carryOut_65 ?_
              refine z_putN S kX0 hK hM hS he_249 3 (by decide) kw_84 rfl rfl rfl (by decide) dX2_carryOut_68 (fun H locs hM hS => ?_)
              obtain ⟨M_275, eM_276⟩ : ∃ z : zMap, z = zu M_247 it (.inr (0, [.int ty, .long bc, .int dg, .int pl, .int pl, .int st, .int fl, .int (ow + (fe ty.toNatClampNeg)), .int wb, va_rf fi])) := ⟨_, rfl⟩
              replace hM : zM A G M_275 H := by rw [eM_276]; exact hM
              have he_277 : M_275 it = some (.inr (0, [.int ty, .long bc, .int dg, .int pl, .int pl, .int st, .int fl, .int (ow + (fe ty.toNatClampNeg)), .int wb, va_rf fi])) := by rw [eM_276]; exact zu_s _ _ _
              have he_278 := (show M_275 h0 = M_247 h0 by rw [eM_276]; exact zu_n (zne he_250 he_249 (by simp))).trans he_250
              have he_279 := (show M_275 fee = M_247 fee by rw [eM_276]; exact zu_n (zne he_251 he_249 (by simp))).trans he_251
              refine lv_aload_n hx hb dX2_carryOut_71 rfl (lv_at hl 1 rfl) ?_
              refine lv_iload_n hx hb dX2_carryOut_72 rfl (lv_at hl 2 rfl) ?_
              refine z_putN S kX0 hK hM hS he_277 5 (by decide) kw_88 rfl rfl rfl (by decide) dX2_carryOut_73 (fun H locs hM hS => ?_)
              obtain ⟨M_280, eM_281⟩ : ∃ z : zMap, z = zu M_275 it (.inr (0, [.int ty, .long bc, .int dg, .int pl, .int pl, .int kind, .int fl, .int (ow + (fe ty.toNatClampNeg)), .int wb, va_rf fi])) := ⟨_, rfl⟩
              replace hM : zM A G M_280 H := by rw [eM_281]; exact hM
              have he_282 : M_280 it = some (.inr (0, [.int ty, .long bc, .int dg, .int pl, .int pl, .int kind, .int fl, .int (ow + (fe ty.toNatClampNeg)), .int wb, va_rf fi])) := by rw [eM_281]; exact zu_s _ _ _
              have he_283 := (show M_280 h0 = M_275 h0 by rw [eM_281]; exact zu_n (zne he_278 he_277 (by simp))).trans he_278
              have he_284 := (show M_280 fee = M_275 fee by rw [eM_281]; exact zu_n (zne he_279 he_277 (by simp))).trans he_279
              refine lv_aload_n hx hb dX2_carryOut_76 rfl (lv_at hl 1 rfl) ?_
              refine lv_iconst (v := -1) hx hb dX2_carryOut_77 (by decide) ?_
              refine z_putN S kX0 hK hM hS he_282 8 (by decide) kw_94 rfl rfl rfl (by decide) dX2_carryOut_78 (fun H locs hM hS => ?_)
              obtain ⟨M_285, eM_286⟩ : ∃ z : zMap, z = zu M_280 it (.inr (0, [.int ty, .long bc, .int dg, .int pl, .int pl, .int kind, .int fl, .int (ow + (fe ty.toNatClampNeg)), .int (-1), va_rf fi])) := ⟨_, rfl⟩
              replace hM : zM A G M_285 H := by rw [eM_286]; exact hM
              have he_287 : M_285 it = some (.inr (0, [.int ty, .long bc, .int dg, .int pl, .int pl, .int kind, .int fl, .int (ow + (fe ty.toNatClampNeg)), .int (-1), va_rf fi])) := by rw [eM_286]; exact zu_s _ _ _
              have he_288 := (show M_285 h0 = M_280 h0 by rw [eM_286]; exact zu_n (zne he_283 he_282 (by simp))).trans he_283
              have he_289 := (show M_285 fee = M_280 fee by rw [eM_286]; exact zu_n (zne he_284 he_282 (by simp))).trans he_284
              exact z_vret S hr hlocks hM hS ⟨rfl, by simp only [eM_286, eM_281, eM_276, eM_248, zu_u]; simp [zCo, c_1, c_82, c_166, c_252, c_253, c_264]⟩ (Nat.le_of_ble_eq_true rfl) (Nat.le_of_ble_eq_true rfl) dX2_carryOut_81
        · -- 44 on
          refine lv_aload_n hx hb dX2_carryOut_47 rfl (lv_at hl 1 rfl) ?_
          refine lv_iload_n hx hb dX2_carryOut_48 rfl (lv_at hl 3 rfl) ?_
          refine z_putN S kX0 hK hM hS he_249 4 (by decide) kw_86 rfl rfl rfl (by decide) dX2_carryOut_49 (fun H locs hM hS => ?_)
          obtain ⟨M_290, eM_291⟩ : ∃ z : zMap, z = zu M_247 it (.inr (0, [.int ty, .long bc, .int dg, .int hm, .int place, .int st, .int fl, .int (ow + (fe ty.toNatClampNeg)), .int wb, va_rf fi])) := ⟨_, rfl⟩
          replace hM : zM A G M_290 H := by rw [eM_291]; exact hM
          have he_292 : M_290 it = some (.inr (0, [.int ty, .long bc, .int dg, .int hm, .int place, .int st, .int fl, .int (ow + (fe ty.toNatClampNeg)), .int wb, va_rf fi])) := by rw [eM_291]; exact zu_s _ _ _
          have he_293 := (show M_290 h0 = M_247 h0 by rw [eM_291]; exact zu_n (zne he_250 he_249 (by simp))).trans he_250
          have he_294 := (show M_290 fee = M_247 fee by rw [eM_291]; exact zu_n (zne he_251 he_249 (by simp))).trans he_251
          refine lv_iload_n hx hb dX2_carryOut_52 rfl (lv_at hl 2 rfl) ?_
          refine lv_if_ne (tgt := 71) hx hb dX2_carryOut_53 (by decide) (fun c_295 => ?_) (fun c_295 => ?_)
          · -- 53 jump
            refine lv_aload_n hx hb dX2_carryOut_71 rfl (lv_at hl 1 rfl) ?_
            refine lv_iload_n hx hb dX2_carryOut_72 rfl (lv_at hl 2 rfl) ?_
            refine z_putN S kX0 hK hM hS he_292 5 (by decide) kw_88 rfl rfl rfl (by decide) dX2_carryOut_73 (fun H locs hM hS => ?_)
            obtain ⟨M_296, eM_297⟩ : ∃ z : zMap, z = zu M_290 it (.inr (0, [.int ty, .long bc, .int dg, .int hm, .int place, .int kind, .int fl, .int (ow + (fe ty.toNatClampNeg)), .int wb, va_rf fi])) := ⟨_, rfl⟩
            replace hM : zM A G M_296 H := by rw [eM_297]; exact hM
            have he_298 : M_296 it = some (.inr (0, [.int ty, .long bc, .int dg, .int hm, .int place, .int kind, .int fl, .int (ow + (fe ty.toNatClampNeg)), .int wb, va_rf fi])) := by rw [eM_297]; exact zu_s _ _ _
            have he_299 := (show M_296 h0 = M_290 h0 by rw [eM_297]; exact zu_n (zne he_293 he_292 (by simp))).trans he_293
            have he_300 := (show M_296 fee = M_290 fee by rw [eM_297]; exact zu_n (zne he_294 he_292 (by simp))).trans he_294
            refine lv_aload_n hx hb dX2_carryOut_76 rfl (lv_at hl 1 rfl) ?_
            refine lv_iconst (v := -1) hx hb dX2_carryOut_77 (by decide) ?_
            refine z_putN S kX0 hK hM hS he_298 8 (by decide) kw_94 rfl rfl rfl (by decide) dX2_carryOut_78 (fun H locs hM hS => ?_)
            obtain ⟨M_301, eM_302⟩ : ∃ z : zMap, z = zu M_296 it (.inr (0, [.int ty, .long bc, .int dg, .int hm, .int place, .int kind, .int fl, .int (ow + (fe ty.toNatClampNeg)), .int (-1), va_rf fi])) := ⟨_, rfl⟩
            replace hM : zM A G M_301 H := by rw [eM_302]; exact hM
            have he_303 : M_301 it = some (.inr (0, [.int ty, .long bc, .int dg, .int hm, .int place, .int kind, .int fl, .int (ow + (fe ty.toNatClampNeg)), .int (-1), va_rf fi])) := by rw [eM_302]; exact zu_s _ _ _
            have he_304 := (show M_301 h0 = M_296 h0 by rw [eM_302]; exact zu_n (zne he_299 he_298 (by simp))).trans he_299
            have he_305 := (show M_301 fee = M_296 fee by rw [eM_302]; exact zu_n (zne he_300 he_298 (by simp))).trans he_300
            exact z_vret S hr hlocks hM hS ⟨rfl, by simp only [eM_302, eM_297, eM_291, eM_248, zu_u]; simp [zCo, c_1, c_82, c_166, c_252, c_295]⟩ (Nat.le_of_ble_eq_true rfl) (Nat.le_of_ble_eq_true rfl) dX2_carryOut_81
          · -- 53 on
            refine lv_aload_n hx hb dX2_carryOut_56 rfl (lv_at hl 1 rfl) ?_
            refine z_getN (v := .int fl) S kX0 hK hM he_292 6 (by decide) kw_90 rfl dX2_carryOut_57 ?_
            refine lv_if_eq (tgt := 71) hx hb dX2_carryOut_60 (by decide) (fun c_306 => ?_) (fun c_306 => ?_)
            · -- 60 jump
              refine lv_aload_n hx hb dX2_carryOut_71 rfl (lv_at hl 1 rfl) ?_
              refine lv_iload_n hx hb dX2_carryOut_72 rfl (lv_at hl 2 rfl) ?_
              refine z_putN S kX0 hK hM hS he_292 5 (by decide) kw_88 rfl rfl rfl (by decide) dX2_carryOut_73 (fun H locs hM hS => ?_)
              obtain ⟨M_307, eM_308⟩ : ∃ z : zMap, z = zu M_290 it (.inr (0, [.int ty, .long bc, .int dg, .int hm, .int place, .int kind, .int fl, .int (ow + (fe ty.toNatClampNeg)), .int wb, va_rf fi])) := ⟨_, rfl⟩
              replace hM : zM A G M_307 H := by rw [eM_308]; exact hM
              have he_309 : M_307 it = some (.inr (0, [.int ty, .long bc, .int dg, .int hm, .int place, .int kind, .int fl, .int (ow + (fe ty.toNatClampNeg)), .int wb, va_rf fi])) := by rw [eM_308]; exact zu_s _ _ _
              have he_310 := (show M_307 h0 = M_290 h0 by rw [eM_308]; exact zu_n (zne he_293 he_292 (by simp))).trans he_293
              have he_311 := (show M_307 fee = M_290 fee by rw [eM_308]; exact zu_n (zne he_294 he_292 (by simp))).trans he_294
              refine lv_aload_n hx hb dX2_carryOut_76 rfl (lv_at hl 1 rfl) ?_
              refine lv_iconst (v := -1) hx hb dX2_carryOut_77 (by decide) ?_
              refine z_putN S kX0 hK hM hS he_309 8 (by decide) kw_94 rfl rfl rfl (by decide) dX2_carryOut_78 (fun H locs hM hS => ?_)
              obtain ⟨M_312, eM_313⟩ : ∃ z : zMap, z = zu M_307 it (.inr (0, [.int ty, .long bc, .int dg, .int hm, .int place, .int kind, .int fl, .int (ow + (fe ty.toNatClampNeg)), .int (-1), va_rf fi])) := ⟨_, rfl⟩
              replace hM : zM A G M_312 H := by rw [eM_313]; exact hM
              have he_314 : M_312 it = some (.inr (0, [.int ty, .long bc, .int dg, .int hm, .int place, .int kind, .int fl, .int (ow + (fe ty.toNatClampNeg)), .int (-1), va_rf fi])) := by rw [eM_313]; exact zu_s _ _ _
              have he_315 := (show M_312 h0 = M_307 h0 by rw [eM_313]; exact zu_n (zne he_310 he_309 (by simp))).trans he_310
              have he_316 := (show M_312 fee = M_307 fee by rw [eM_313]; exact zu_n (zne he_311 he_309 (by simp))).trans he_311
              exact z_vret S hr hlocks hM hS ⟨rfl, by simp only [eM_313, eM_308, eM_291, eM_248, zu_u]; simp [zCo, c_1, c_82, c_166, c_252, c_295, c_306]⟩ (Nat.le_of_ble_eq_true rfl) (Nat.le_of_ble_eq_true rfl) dX2_carryOut_81
            · -- 60 on
              refine lv_aload_n hx hb dX2_carryOut_63 rfl (lv_at hl 1 rfl) ?_
              refine lv_aload_n hx hb dX2_carryOut_64 rfl (lv_at hl 1 rfl) ?_
              refine z_getN (v := .int place) S kX0 hK hM he_292 4 (by decide) kw_86 rfl dX2_carryOut_65 ?_
              refine z_putN S kX0 hK hM hS he_292 3 (by decide) kw_84 rfl rfl rfl (by decide) dX2_carryOut_68 (fun H locs hM hS => ?_)
              obtain ⟨M_317, eM_318⟩ : ∃ z : zMap, z = zu M_290 it (.inr (0, [.int ty, .long bc, .int dg, .int place, .int place, .int st, .int fl, .int (ow + (fe ty.toNatClampNeg)), .int wb, va_rf fi])) := ⟨_, rfl⟩
              replace hM : zM A G M_317 H := by rw [eM_318]; exact hM
              have he_319 : M_317 it = some (.inr (0, [.int ty, .long bc, .int dg, .int place, .int place, .int st, .int fl, .int (ow + (fe ty.toNatClampNeg)), .int wb, va_rf fi])) := by rw [eM_318]; exact zu_s _ _ _
              have he_320 := (show M_317 h0 = M_290 h0 by rw [eM_318]; exact zu_n (zne he_293 he_292 (by simp))).trans he_293
              have he_321 := (show M_317 fee = M_290 fee by rw [eM_318]; exact zu_n (zne he_294 he_292 (by simp))).trans he_294
              refine lv_aload_n hx hb dX2_carryOut_71 rfl (lv_at hl 1 rfl) ?_
              refine lv_iload_n hx hb dX2_carryOut_72 rfl (lv_at hl 2 rfl) ?_
              refine z_putN S kX0 hK hM hS he_319 5 (by decide) kw_88 rfl rfl rfl (by decide) dX2_carryOut_73 (fun H locs hM hS => ?_)
              obtain ⟨M_322, eM_323⟩ : ∃ z : zMap, z = zu M_317 it (.inr (0, [.int ty, .long bc, .int dg, .int place, .int place, .int kind, .int fl, .int (ow + (fe ty.toNatClampNeg)), .int wb, va_rf fi])) := ⟨_, rfl⟩
              replace hM : zM A G M_322 H := by rw [eM_323]; exact hM
              have he_324 : M_322 it = some (.inr (0, [.int ty, .long bc, .int dg, .int place, .int place, .int kind, .int fl, .int (ow + (fe ty.toNatClampNeg)), .int wb, va_rf fi])) := by rw [eM_323]; exact zu_s _ _ _
              have he_325 := (show M_322 h0 = M_317 h0 by rw [eM_323]; exact zu_n (zne he_320 he_319 (by simp))).trans he_320
              have he_326 := (show M_322 fee = M_317 fee by rw [eM_323]; exact zu_n (zne he_321 he_319 (by simp))).trans he_321
              refine lv_aload_n hx hb dX2_carryOut_76 rfl (lv_at hl 1 rfl) ?_
              refine lv_iconst (v := -1) hx hb dX2_carryOut_77 (by decide) ?_
              refine z_putN S kX0 hK hM hS he_324 8 (by decide) kw_94 rfl rfl rfl (by decide) dX2_carryOut_78 (fun H locs hM hS => ?_)
              obtain ⟨M_327, eM_328⟩ : ∃ z : zMap, z = zu M_322 it (.inr (0, [.int ty, .long bc, .int dg, .int place, .int place, .int kind, .int fl, .int (ow + (fe ty.toNatClampNeg)), .int (-1), va_rf fi])) := ⟨_, rfl⟩
              replace hM : zM A G M_327 H := by rw [eM_328]; exact hM
              have he_329 : M_327 it = some (.inr (0, [.int ty, .long bc, .int dg, .int place, .int place, .int kind, .int fl, .int (ow + (fe ty.toNatClampNeg)), .int (-1), va_rf fi])) := by rw [eM_328]; exact zu_s _ _ _
              have he_330 := (show M_327 h0 = M_322 h0 by rw [eM_328]; exact zu_n (zne he_325 he_324 (by simp))).trans he_325
              have he_331 := (show M_327 fee = M_322 fee by rw [eM_328]; exact zu_n (zne he_326 he_324 (by simp))).trans he_326
              exact z_vret S hr hlocks hM hS ⟨rfl, by simp only [eM_328, eM_323, eM_318, eM_291, eM_248, zu_u]; simp [zCo, c_1, c_82, c_166, c_252, c_295, c_306]⟩ (Nat.le_of_ble_eq_true rfl) (Nat.le_of_ble_eq_true rfl) dX2_carryOut_81
