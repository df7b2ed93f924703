set_option maxHeartbeats 4000000 in
set_option maxRecDepth 100000 in
theorem c_X1_init (l : Launch) (A : Nat → Prop) (G : zG) (M : zMap) (q : Nat) (w0 : Int64) (w1 w2 : Int32) (w3 : Option Nat) (d : Int64) (sta lt : Int32) (nx : Option Nat) (h : M q = some (oE w0 w1 w2 w3)) (hbool : zbool lt) : zMet l yX1_init cX1_init 6 none { frames := 1, cells := 0, slots := 0, locals := 40 } [.ref q, .long d, .int sta, .int lt, va_rf nx] A G M (fun r M1 => r = none ∧ M1 = zu M q (oE d sta lt nx)) := by
  refine zMet.of (by decide) (by cases nx <;> exact Nat.le_of_ble_eq_true rfl) ?_
  intro p e s m args below meth c ls S hr hlocks hnm hK hM hA hS hl
  have hl : lv_has ls 6 [(0, .ref q), (1, .long d), (3, .int sta), (4, .int lt), (5, va_rf nx)] := hl
  have hx := S.1
  have hb := S.2.1
  have hown := S.2.2.2.1
  have hts := S.2.2.2.2
  have hr : meth.sig.returnType = none := hr
  have hnm : meth.name = "<init>" := hnm
  refine lv_aload_n hx hb dX1_init_0 rfl (lv_at hl 0 rfl) ?_
  refine z_objInit S hl.1 kw_154 kw_12 kw_13 dX1_init_1 (Nat.le_of_ble_eq_true rfl) (Nat.le_of_ble_eq_true rfl) ?_
  refine lv_aload_n hx hb dX1_init_4 rfl (lv_at hl 0 rfl) ?_
  refine lv_lload_n hx hb dX1_init_5 rfl (lv_at hl 1 rfl) ?_
  refine z_putF S kX1 hK hM hS h 0 (by decide) kw_155 rfl hnm rfl rfl rfl (Nat.le_of_ble_eq_true rfl) dX1_init_6 (fun H locs hM hS => ?_)
  obtain ⟨M_1, eM_2⟩ : ∃ z : zMap, z = zu M q (.inr (1, [.long d, .int w1, .int w2, va_rf w3])) := ⟨_, rfl⟩
  replace hM : zM A G M_1 H := by rw [eM_2]; exact hM
  have he_3 : M_1 q = some (.inr (1, [.long d, .int w1, .int w2, va_rf w3])) := by rw [eM_2]; exact zu_s _ _ _
  refine lv_aload_n hx hb dX1_init_9 rfl (lv_at hl 0 rfl) ?_
  refine lv_iload_n hx hb dX1_init_10 rfl (lv_at hl 2 rfl) ?_
  refine z_putF S kX1 hK hM hS he_3 1 (by decide) kw_157 rfl hnm rfl rfl rfl (Nat.le_of_ble_eq_true rfl) dX1_init_11 (fun H locs hM hS => ?_)
  obtain ⟨M_4, eM_5⟩ : ∃ z : zMap, z = zu M_1 q (.inr (1, [.long d, .int sta, .int w2, va_rf w3])) := ⟨_, rfl⟩
  replace hM : zM A G M_4 H := by rw [eM_5]; exact hM
  have he_6 : M_4 q = some (.inr (1, [.long d, .int sta, .int w2, va_rf w3])) := by rw [eM_5]; exact zu_s _ _ _
  refine lv_aload_n hx hb dX1_init_14 rfl (lv_at hl 0 rfl) ?_
  refine lv_iload hx hb dX1_init_15 (lv_at hl 3 rfl) ?_
  refine z_putF S kX1 hK hM hS he_6 2 (by decide) kw_159 rfl hnm rfl (z_nb hbool) (z_fb hbool) (Nat.le_of_ble_eq_true rfl) dX1_init_17 (fun H locs hM hS => ?_)
  obtain ⟨M_7, eM_8⟩ : ∃ z : zMap, z = zu M_4 q (.inr (1, [.long d, .int sta, .int lt, va_rf w3])) := ⟨_, rfl⟩
  replace hM : zM A G M_7 H := by rw [eM_8]; exact hM
  have he_9 : M_7 q = some (.inr (1, [.long d, .int sta, .int lt, va_rf w3])) := by rw [eM_8]; exact zu_s _ _ _
  refine lv_aload_n hx hb dX1_init_20 rfl (lv_at hl 0 rfl) ?_
  refine z_aloadq hx hb dX1_init_21 (lv_at hl 4 rfl) ?_
  refine z_put S kX1 hK hM hS he_9 3 (by decide) kw_161 rfl (z_nq _ _) (z_fq _ _) (Nat.le_of_ble_eq_true rfl) dX1_init_23 (fun H locs hM hS => ?_)
  obtain ⟨M_10, eM_11⟩ : ∃ z : zMap, z = zu M_7 q (.inr (1, [.long d, .int sta, .int lt, va_rf nx])) := ⟨_, rfl⟩
  replace hM : zM A G M_10 H := by rw [eM_11]; exact hM
  have he_12 : M_10 q = some (.inr (1, [.long d, .int sta, .int lt, va_rf nx])) := by rw [eM_11]; exact zu_s _ _ _
  exact z_vret S hr hlocks hM hS ⟨rfl, by simp only [eM_11, eM_8, eM_5, eM_2, zu_u]⟩ (Nat.le_of_ble_eq_true rfl) (Nat.le_of_ble_eq_true rfl) dX1_init_26
set_option maxHeartbeats 4000000 in
set_option maxRecDepth 100000 in
theorem c_X0_init (l : Launch) (A : Nat → Prop) (G : zG) (M : zMap) (q : Nat) (w0 : Int32) (w1 : Int64) (w2 w3 w4 w5 w6 w7 w8 : Int32) (w9 : Option Nat) (ty : Int32) (bc : Int64) (dg hm : Int32) (h : M q = some (oC w0 w1 w2 w3 w4 w5 w6 w7 w8 w9)) : zMet l yX0_init cX0_init 6 none { frames := 1, cells := 0, slots := 0, locals := 40 } [.ref q, .int ty, .long bc, .int dg, .int hm] A G M (fun r M1 => r = none ∧ M1 = zu M q (oC ty bc dg hm hm 3 0 0 (-1) none)) := by
  refine zMet.of (by decide) (Nat.le_of_ble_eq_true rfl) ?_
  intro p e s m args below meth c ls S hr hlocks hnm hK hM hA hS hl
  have hl : lv_has ls 6 [(0, .ref q), (1, .int ty), (2, .long bc), (4, .int dg), (5, .int hm)] := hl
  have hx := S.1
  have hb := S.2.1
  have hown := S.2.2.2.1
  have hts := S.2.2.2.2
  have hr : meth.sig.returnType = none := hr
  have hnm : meth.name = "<init>" := hnm
  refine lv_aload_n hx hb dX0_init_0 rfl (lv_at hl 0 rfl) ?_
  refine z_objInit S hl.1 kw_76 kw_12 kw_13 dX0_init_1 (Nat.le_of_ble_eq_true rfl) (Nat.le_of_ble_eq_true rfl) ?_
  refine lv_aload_n hx hb dX0_init_4 rfl (lv_at hl 0 rfl) ?_
  refine lv_iload_n hx hb dX0_init_5 rfl (lv_at hl 1 rfl) ?_
  refine z_putF S kX0 hK hM hS h 0 (by decide) kw_77 rfl hnm rfl rfl rfl (Nat.le_of_ble_eq_true rfl) dX0_init_6 (fun H locs hM hS => ?_)
  obtain ⟨M_1, eM_2⟩ : ∃ z : zMap, z = zu M q (.inr (0, [.int ty, .long w1, .int w2, .int w3, .int w4, .int w5, .int w6, .int w7, .int w8, va_rf w9])) := ⟨_, rfl⟩
  replace hM : zM A G M_1 H := by rw [eM_2]; exact hM
  have he_3 : M_1 q = some (.inr (0, [.int ty, .long w1, .int w2, .int w3, .int w4, .int w5, .int w6, .int w7, .int w8, va_rf w9])) := by rw [eM_2]; exact zu_s _ _ _
  refine lv_aload_n hx hb dX0_init_9 rfl (lv_at hl 0 rfl) ?_
  refine lv_lload_n hx hb dX0_init_10 rfl (lv_at hl 2 rfl) ?_
  refine z_putF S kX0 hK hM hS he_3 1 (by decide) kw_79 rfl hnm rfl rfl rfl (Nat.le_of_ble_eq_true rfl) dX0_init_11 (fun H locs hM hS => ?_)
  obtain ⟨M_4, eM_5⟩ : ∃ z : zMap, z = zu M_1 q (.inr (0, [.int ty, .long bc, .int w2, .int w3, .int w4, .int w5, .int w6, .int w7, .int w8, va_rf w9])) := ⟨_, rfl⟩
  replace hM : zM A G M_4 H := by rw [eM_5]; exact hM
  have he_6 : M_4 q = some (.inr (0, [.int ty, .long bc, .int w2, .int w3, .int w4, .int w5, .int w6, .int w7, .int w8, va_rf w9])) := by rw [eM_5]; exact zu_s _ _ _
  refine lv_aload_n hx hb dX0_init_14 rfl (lv_at hl 0 rfl) ?_
  refine lv_iload hx hb dX0_init_15 (lv_at hl 3 rfl) ?_
  refine z_putF S kX0 hK hM hS he_6 2 (by decide) kw_81 rfl hnm rfl rfl rfl (Nat.le_of_ble_eq_true rfl) dX0_init_17 (fun H locs hM hS => ?_)
  obtain ⟨M_7, eM_8⟩ : ∃ z : zMap, z = zu M_4 q (.inr (0, [.int ty, .long bc, .int dg, .int w3, .int w4, .int w5, .int w6, .int w7, .int w8, va_rf w9])) := ⟨_, rfl⟩
  replace hM : zM A G M_7 H := by rw [eM_8]; exact hM
  have he_9 : M_7 q = some (.inr (0, [.int ty, .long bc, .int dg, .int w3, .int w4, .int w5, .int w6, .int w7, .int w8, va_rf w9])) := by rw [eM_8]; exact zu_s _ _ _
  refine lv_aload_n hx hb dX0_init_20 rfl (lv_at hl 0 rfl) ?_
  refine lv_iload hx hb dX0_init_21 (lv_at hl 4 rfl) ?_
  refine z_put S kX0 hK hM hS he_9 3 (by decide) kw_83 rfl rfl rfl (Nat.le_of_ble_eq_true rfl) dX0_init_23 (fun H locs hM hS => ?_)
  obtain ⟨M_10, eM_11⟩ : ∃ z : zMap, z = zu M_7 q (.inr (0, [.int ty, .long bc, .int dg, .int hm, .int w4, .int w5, .int w6, .int w7, .int w8, va_rf w9])) := ⟨_, rfl⟩
  replace hM : zM A G M_10 H := by rw [eM_11]; exact hM
  have he_12 : M_10 q = some (.inr (0, [.int ty, .long bc, .int dg, .int hm, .int w4, .int w5, .int w6, .int w7, .int w8, va_rf w9])) := by rw [eM_11]; exact zu_s _ _ _
  refine lv_aload_n hx hb dX0_init_26 rfl (lv_at hl 0 rfl) ?_
  refine lv_iload hx hb dX0_init_27 (lv_at hl 4 rfl) ?_
  refine z_put S kX0 hK hM hS he_12 4 (by decide) kw_85 rfl rfl rfl (Nat.le_of_ble_eq_true rfl) dX0_init_29 (fun H locs hM hS => ?_)
  obtain ⟨M_13, eM_14⟩ : ∃ z : zMap, z = zu M_10 q (.inr (0, [.int ty, .long bc, .int dg, .int hm, .int hm, .int w5, .int w6, .int w7, .int w8, va_rf w9])) := ⟨_, rfl⟩
  replace hM : zM A G M_13 H := by rw [eM_14]; exact hM
  have he_15 : M_13 q = some (.inr (0, [.int ty, .long bc, .int dg, .int hm, .int hm, .int w5, .int w6, .int w7, .int w8, va_rf w9])) := by rw [eM_14]; exact zu_s _ _ _
  refine lv_aload_n hx hb dX0_init_32 rfl (lv_at hl 0 rfl) ?_
  refine lv_iconst (v := 3) hx hb dX0_init_33 (by decide) ?_
  refine z_put S kX0 hK hM hS he_15 5 (by decide) kw_87 rfl rfl rfl (Nat.le_of_ble_eq_true rfl) dX0_init_34 (fun H locs hM hS => ?_)
  obtain ⟨M_16, eM_17⟩ : ∃ z : zMap, z = zu M_13 q (.inr (0, [.int ty, .long bc, .int dg, .int hm, .int hm, .int 3, .int w6, .int w7, .int w8, va_rf w9])) := ⟨_, rfl⟩
  replace hM : zM A G M_16 H := by rw [eM_17]; exact hM
  have he_18 : M_16 q = some (.inr (0, [.int ty, .long bc, .int dg, .int hm, .int hm, .int 3, .int w6, .int w7, .int w8, va_rf w9])) := by rw [eM_17]; exact zu_s _ _ _
  refine lv_aload_n hx hb dX0_init_37 rfl (lv_at hl 0 rfl) ?_
  refine lv_iconst (v := 0) hx hb dX0_init_38 (by decide) ?_
  refine z_put S kX0 hK hM hS he_18 6 (by decide) kw_89 rfl (by decide) (by decide) (Nat.le_of_ble_eq_true rfl) dX0_init_39 (fun H locs hM hS => ?_)
  obtain ⟨M_19, eM_20⟩ : ∃ z : zMap, z = zu M_16 q (.inr (0, [.int ty, .long bc, .int dg, .int hm, .int hm, .int 3, .int 0, .int w7, .int w8, va_rf w9])) := ⟨_, rfl⟩
  replace hM : zM A G M_19 H := by rw [eM_20]; exact hM
  have he_21 : M_19 q = some (.inr (0, [.int ty, .long bc, .int dg, .int hm, .int hm, .int 3, .int 0, .int w7, .int w8, va_rf w9])) := by rw [eM_20]; exact zu_s _ _ _
  refine lv_aload_n hx hb dX0_init_42 rfl (lv_at hl 0 rfl) ?_
  refine lv_iconst (v := 0) hx hb dX0_init_43 (by decide) ?_
  refine z_put S kX0 hK hM hS he_21 7 (by decide) kw_91 rfl rfl rfl (Nat.le_of_ble_eq_true rfl) dX0_init_44 (fun H locs hM hS => ?_)
  obtain ⟨M_22, eM_23⟩ : ∃ z : zMap, z = zu M_19 q (.inr (0, [.int ty, .long bc, .int dg, .int hm, .int hm, .int 3, .int 0, .int 0, .int w8, va_rf w9])) := ⟨_, rfl⟩
  replace hM : zM A G M_22 H := by rw [eM_23]; exact hM
  have he_24 : M_22 q = some (.inr (0, [.int ty, .long bc, .int dg, .int hm, .int hm, .int 3, .int 0, .int 0, .int w8, va_rf w9])) := by rw [eM_23]; exact zu_s _ _ _
  refine lv_aload_n hx hb dX0_init_47 rfl (lv_at hl 0 rfl) ?_
  refine lv_iconst (v := -1) hx hb dX0_init_48 (by decide) ?_
  refine z_put S kX0 hK hM hS he_24 8 (by decide) kw_93 rfl rfl rfl (Nat.le_of_ble_eq_true rfl) dX0_init_49 (fun H locs hM hS => ?_)
  obtain ⟨M_25, eM_26⟩ : ∃ z : zMap, z = zu M_22 q (.inr (0, [.int ty, .long bc, .int dg, .int hm, .int hm, .int 3, .int 0, .int 0, .int (-1), va_rf w9])) := ⟨_, rfl⟩
  replace hM : zM A G M_25 H := by rw [eM_26]; exact hM
  have he_27 : M_25 q = some (.inr (0, [.int ty, .long bc, .int dg, .int hm, .int hm, .int 3, .int 0, .int 0, .int (-1), va_rf w9])) := by rw [eM_26]; exact zu_s _ _ _
  refine lv_aload_n hx hb dX0_init_52 rfl (lv_at hl 0 rfl) ?_
  refine lv_null hx hb dX0_init_53 ?_
  refine z_put S kX0 hK hM hS he_27 9 (by decide) kw_95 rfl rfl rfl (Nat.le_of_ble_eq_true rfl) dX0_init_54 (fun H locs hM hS => ?_)
  obtain ⟨M_28, eM_29⟩ : ∃ z : zMap, z = zu M_25 q (.inr (0, [.int ty, .long bc, .int dg, .int hm, .int hm, .int 3, .int 0, .int 0, .int (-1), .null])) := ⟨_, rfl⟩
  replace hM : zM A G M_28 H := by rw [eM_29]; exact hM
  have he_30 : M_28 q = some (.inr (0, [.int ty, .long bc, .int dg, .int hm, .int hm, .int 3, .int 0, .int 0, .int (-1), .null])) := by rw [eM_29]; exact zu_s _ _ _
  exact z_vret S hr hlocks hM hS ⟨rfl, by simp only [eM_29, eM_26, eM_23, eM_20, eM_17, eM_14, eM_11, eM_8, eM_5, eM_2, zu_u]; rfl⟩ (Nat.le_of_ble_eq_true rfl) (Nat.le_of_ble_eq_true rfl) dX0_init_57
set_option maxHeartbeats 4000000 in
set_option maxRecDepth 100000 in
theorem c_X2_lastUpTo (l : Launch) (A : Nat → Prop) (G : zG) (M : zMap) (it : Nat) (ty : Int32) (bc : Int64) (dg hm pl st fl ow wb : Int32) (L : List (Nat × zEV)) (d : Int64) (hi : M it = some (oC ty bc dg hm pl st fl ow wb (zHd L))) (hch : zCh M L) : zMet l yX2_lastUpTo cX2_lastUpTo 5 (some (.object "ItemStates$Entry")) { frames := 0, cells := 0, slots := 0, locals := 0 } [.ref it, .long d] A G M (fun r M1 => r = some (va_rf (zLa (zUp d L))) ∧ M1 = M) := by
  refine zMet.of (by decide) (Nat.le_of_ble_eq_true rfl) ?_
  intro p e s m args below meth c ls S hr hlocks hnm hK hM hA hS hl
  have hl : lv_has ls 5 [(0, .ref it), (1, .long d)] := hl
  have hx := S.1
  have hb := S.2.1
  have hown := S.2.2.2.1
  have hts := S.2.2.2.2
  have hr : meth.sig.returnType = some (.object "ItemStates$Entry") := hr
  refine lv_null hx hb dX2_lastUpTo_0 ?_
  refine lv_astore_nN (lv' := [(3, .null), (0, .ref it), (1, .long d)]) hx hb dX2_lastUpTo_1 rfl hl (by decide) rfl (fun ls hl => ?_)
  refine lv_aload_n hx hb dX2_lastUpTo_2 rfl (lv_at hl 1 rfl) ?_
  refine z_getN (v := va_rf (zHd L)) S kX0 hK hM hi 9 (by decide) kw_96 rfl dX2_lastUpTo_3 ?_
  refine z_astoreq (lv' := [(4, va_rf (zHd L)), (3, .null), (0, .ref it), (1, .long d)]) hx hb dX2_lastUpTo_6 hl (by decide) rfl (fun ls hl => ?_)
  refine z_loop (fun (x : List (Nat × zEV) × List (Nat × zEV)) ls H' locs' => L = x.1 ++ x.2 ∧ (∀ y ∈ x.1, y.2.1 ≤ d) ∧ lv_has ls 5 [(4, va_rf (zHd x.2)), (3, va_rf (zLa x.1)), (0, .ref it), (1, .long d)] ∧ H' = s.heap ∧ locs' = []) (fun x => x.2.length) ([], L) ⟨rfl, (fun y h => by cases h), hl, rfl, rfl⟩ ?_
  rintro ⟨U, R⟩ ls H locs ⟨eL, hU, hl, rfl, rfl⟩ ih
  rcases R with _ | ⟨x, R⟩
  · have hl : lv_has ls 5 [(4, .null), (3, va_rf (zLa U)), (0, .ref it), (1, .long d)] := hl
    have eU : zUp d L = U := by rw [eL, zUp_app hU]; simp [zUp]
    refine lv_aloadN hx hb dX2_lastUpTo_8 (lv_at hl 0 rfl) ?_
    refine lv_ifnullN (tgt := 36) hx hb dX2_lastUpTo_10 (by decide) ?_
    refine z_aload_nq hx hb dX2_lastUpTo_36 rfl (lv_at hl 1 rfl) ?_
    exact z_aret S hr hlocks (z_rf _) hM hS ⟨by rw [eU], rfl⟩ (Nat.le_of_ble_eq_true rfl) (Nat.le_of_ble_eq_true rfl) dX2_lastUpTo_37
  · have hl : lv_has ls 5 [(4, .ref x.1), (3, va_rf (zLa U)), (0, .ref it), (1, .long d)] := hl
    have hxc := (show zCh M (U ++ x :: R) from eL ▸ hch).mid
    have hxe : M x.1 = some (oE x.2.1 x.2.2.1 x.2.2.2 (zHd R)) := hxc.1
    refine lv_aload hx hb dX2_lastUpTo_8 (lv_at hl 0 rfl) ?_
    refine lv_ifnull hx hb dX2_lastUpTo_10 ?_
    refine lv_aload hx hb dX2_lastUpTo_13 (lv_at hl 0 rfl) ?_
    refine z_getN (v := .long x.2.1) S kX1 hK hM hxe 0 (by decide) kw_156 rfl dX2_lastUpTo_15 ?_
    refine lv_lload_n hx hb dX2_lastUpTo_18 rfl (lv_at hl 3 rfl) ?_
    refine W.lcmp hx hb dX2_lastUpTo_19 ?_
    refine lv_if_gt (tgt := 36) hx hb dX2_lastUpTo_20 (by decide) (fun c_1 => ?_) (fun c_1 => ?_)
    · rw [lg_cmp_gt] at c_1
      refine z_aload_nq hx hb dX2_lastUpTo_36 rfl (lv_at hl 1 rfl) ?_
      exact z_aret S hr hlocks (z_rf _) hM hS ⟨by rw [eL, zUp_app hU, zUp_stop (Int64.not_le.mpr c_1), List.append_nil], rfl⟩ (Nat.le_of_ble_eq_true rfl) (Nat.le_of_ble_eq_true rfl) dX2_lastUpTo_37
    · rw [lg_cmp_gt] at c_1
      refine lv_aload hx hb dX2_lastUpTo_23 (lv_at hl 0 rfl) ?_
      refine lv_astore_n (lv' := [(3, .ref x.1), (4, .ref x.1), (0, .ref it), (1, .long d)]) hx hb dX2_lastUpTo_25 rfl hl (by decide) rfl (fun ls hl => ?_)
      refine lv_aload hx hb dX2_lastUpTo_26 (lv_at hl 1 rfl) ?_
      refine z_getN (v := va_rf (zHd R)) S kX1 hK hM hxe 3 (by decide) kw_162 rfl dX2_lastUpTo_28 ?_
      refine z_astoreq (lv' := [(4, va_rf (zHd R)), (3, .ref x.1), (0, .ref it), (1, .long d)]) hx hb dX2_lastUpTo_31 hl (by decide) rfl (fun ls hl => ?_)
      refine lv_goto (tgt := 8) hx hb dX2_lastUpTo_33 (by decide) ?_
      exact ih (U ++ [x], R) ls _ _ ⟨by rw [eL, List.append_assoc]; rfl, fun y hy => by
        rcases List.mem_append.mp hy with hy | hy
        · exact hU y hy
        · rw [List.mem_singleton.mp hy]; exact Int64.not_lt.mp c_1, by rw [zLa_snoc]; exact hl, rfl, rfl⟩ (by simp)
set_option maxHeartbeats 4000000 in
set_option maxRecDepth 100000 in
theorem c_X2_stateOn (l : Launch) (A : Nat → Prop) (G : zG) (M : zMap) (it : Nat) (ty : Int32) (bc : Int64) (dg hm pl st fl ow wb : Int32) (L : List (Nat × zEV)) (d : Int64) (hi : M it = some (oC ty bc dg hm pl st fl ow wb (zHd L))) (hch : zCh M L) : zMet l yX2_stateOn cX2_stateOn 4 (some .int) { frames := 1, cells := 0, slots := 0, locals := 40 } [.ref it, .long d] A G M (fun r M1 => r = some (.int (zSt d L)) ∧ M1 = M) := by
  refine zMet.of (by decide) (Nat.le_of_ble_eq_true rfl) ?_
  intro p e s m args below meth c ls S hr hlocks hnm hK hM hA hS hl
  have hl : lv_has ls 4 [(0, .ref it), (1, .long d)] := hl
  have hx := S.1
  have hb := S.2.1
  have hown := S.2.2.2.1
  have hts := S.2.2.2.2
  have hr : meth.sig.returnType = some .int := hr
  refine lv_aload_n hx hb dX2_stateOn_0 rfl (lv_at hl 0 rfl) ?_
  refine lv_lload_n hx hb dX2_stateOn_1 rfl (lv_at hl 1 rfl) ?_
  refine z_callS (As := [.ref it, .long d]) (rest := []) S (c_X2_lastUpTo l A G M it ty bc dg hm pl st fl ow wb L d hi hch) ok_X2_lastUpTo kw_135 kw_136 ⟨Nat.le_of_ble_eq_true rfl, Nat.le_of_ble_eq_true rfl⟩ hK hM hS hA rfl hl.1 rfl (Nat.le_of_ble_eq_true rfl) dX2_stateOn_2 ⟨Nat.le_of_ble_eq_true rfl, Nat.le_of_ble_eq_true rfl⟩ (fun r_3 M_1 H locs hp_2 hM hS => ?_)
  obtain ⟨rfl, hM9⟩ := hp_2
  rw [hM9] at hM
  refine W.eq (g2 := F0 m 5 ls [va_rf (zLa (zUp d L))]) rfl ?_
  rcases hz : zLa (zUp d L) with _ | b
  · refine W.eq (g2 := F0 m 5 ls [.null]) rfl ?_
    have hU0 := zLa_none hz
    refine lv_astore_nN (lv' := [(3, .null), (0, .ref it), (1, .long d)]) hx hb dX2_stateOn_5 rfl hl (by decide) rfl (fun ls hl => ?_)
    refine lv_aload_nN hx hb dX2_stateOn_6 rfl (lv_at hl 0 rfl) ?_
    refine lv_ifnonnullN hx hb dX2_stateOn_7 ?_
    refine lv_iconst (v := 3) hx hb dX2_stateOn_10 (by decide) ?_
    refine lv_goto (tgt := 18) hx hb dX2_stateOn_11 (by decide) ?_
    exact z_iret S hr hlocks hM hS ⟨by simp [zSt, hU0], rfl⟩ (Nat.le_of_ble_eq_true rfl) (Nat.le_of_ble_eq_true rfl) dX2_stateOn_18
  · refine W.eq (g2 := F0 m 5 ls [.ref b]) rfl ?_
    obtain ⟨U, v, hU0⟩ := zLa_split hz
    have hLs : U ++ [(b, v)] ++ zDn d L = L := by rw [← hU0]; exact zUpDn d L
    have hbe : M b = some (oE v.1 v.2.1 v.2.2 (zHd (zDn d L))) := by
      have h9 : zCh M (U ++ ((b, v) :: zDn d L)) := by
        have h8 := hch
        rw [← hLs, List.append_assoc] at h8
        exact h8
      exact h9.mid.1
    refine lv_astore_n (lv' := [(3, .ref b), (0, .ref it), (1, .long d)]) hx hb dX2_stateOn_5 rfl hl (by decide) rfl (fun ls hl => ?_)
    refine lv_aload_n hx hb dX2_stateOn_6 rfl (lv_at hl 0 rfl) ?_
    refine lv_ifnonnull (tgt := 14) hx hb dX2_stateOn_7 (by decide) ?_
    refine lv_aload_n hx hb dX2_stateOn_14 rfl (lv_at hl 0 rfl) ?_
    refine z_getN (v := .int v.2.1) S kX1 hK hM hbe 1 (by decide) kw_158 rfl dX2_stateOn_15 ?_
    exact z_iret S hr hlocks hM hS ⟨by simp [zSt, hU0], rfl⟩ (Nat.le_of_ble_eq_true rfl) (Nat.le_of_ble_eq_true rfl) dX2_stateOn_18
set_option maxHeartbeats 4000000 in
set_option maxRecDepth 100000 in
theorem c_X2_enter (l : Launch) (A : Nat → Prop) (G : zG) (M : zMap) (h0 cps : Nat) (n : Int32) (den fee : Nat) (gd : Int64) (ec : Int32) (it : Nat) (ty : Int32) (bc : Int64) (dg hm pl st fl ow wb : Int32) (L : List (Nat × zEV)) (d : Int64) (sta lt : Int32) (h : M h0 = some (oI cps n den fee gd ec)) (hi : M it = some (oC ty bc dg hm pl st fl ow wb (zHd L))) (hch : zCh M L) (hnd : (L.map Prod.fst).Nodup) (hbool : zbool lt) : zMet l yX2_enter cX2_enter 7 none { frames := 2, cells := 1, slots := 4, locals := 80 } [.ref h0, .ref it, .long d, .int sta, .int lt] A G M (fun r M1 => r = none ∧ ∃ q, M q = none ∧ zCh M1 (zIns d (q, d, sta, lt) L) ∧ M1 it = some (oC ty bc dg hm pl st fl ow wb (zHd (zIns d (q, d, sta, lt) L))) ∧ M1 h0 = some (oI cps n den fee (if d < gd then gd else d) (ec + 1)) ∧ ∀ b, b ≠ it → b ≠ h0 → b ≠ q → (∀ y ∈ L, y.1 ≠ b) → M1 b = M b) := by
  refine zMet.of (by decide) (Nat.le_of_ble_eq_true rfl) ?_
  intro p e s m args below meth c ls S hr hlocks hnm hK hM hA hS hl
  have hl : lv_has ls 7 [(0, .ref h0), (1, .ref it), (2, .long d), (4, .int sta), (5, .int lt)] := hl
  have hx := S.1
  have hb := S.2.1
  have hown := S.2.2.2.1
  have hts := S.2.2.2.2
  have hr : meth.sig.returnType = none := hr
  refine lv_aload_n hx hb dX2_enter_0 rfl (lv_at hl 1 rfl) ?_
  refine lv_lload_n hx hb dX2_enter_1 rfl (lv_at hl 2 rfl) ?_
  refine z_callS (As := [.ref it, .long d]) (rest := []) S (c_X2_lastUpTo l A G M it ty bc dg hm pl st fl ow wb L d hi hch) ok_X2_lastUpTo kw_135 kw_136 ⟨Nat.le_of_ble_eq_true rfl, Nat.le_of_ble_eq_true rfl⟩ hK hM hS hA rfl hl.1 rfl (Nat.le_of_ble_eq_true rfl) dX2_enter_2 ⟨Nat.le_of_ble_eq_true rfl, Nat.le_of_ble_eq_true rfl⟩ (fun r_3 M_1 H locs hp_2 hM hS => ?_)
  obtain ⟨rfl, hM9⟩ := hp_2
  rw [hM9] at hM
  refine W.eq (g2 := F0 m 5 ls [va_rf (zLa (zUp d L))]) rfl ?_
  rcases hz : zLa (zUp d L) with _ | b
  · refine W.eq (g2 := F0 m 5 ls [.null]) rfl ?_
    have hU0 := zLa_none hz
    refine lv_astoreN (lv' := [(6, .null), (0, .ref h0), (1, .ref it), (2, .long d), (4, .int sta), (5, .int lt)]) hx hb dX2_enter_5 hl (by decide) rfl (fun ls hl => ?_)
    refine lv_aloadN hx hb dX2_enter_7 (lv_at hl 0 rfl) ?_
    refine lv_ifnonnullN hx hb dX2_enter_9 ?_
    refine lv_aload_n hx hb dX2_enter_12 rfl (lv_at hl 2 rfl) ?_
    refine z_new (fs := [.long 0, .int 0, .int 0, .null]) S kX1 hK hM hS hA kw_149 kw_150 kw_4 (fun j hj => by rcases (show j = 0 ∨ j = 1 ∨ j = 2 ∨ j = 3 by omega) with rfl | rfl | rfl | rfl <;> rfl) (Nat.le_of_ble_eq_true rfl) (Nat.le_of_ble_eq_true rfl) dX2_enter_13 (fun q_4 H hq_5 hAq_6 hM hS => ?_)
    obtain ⟨M_7, eM_8⟩ : ∃ z : zMap, z = zu M q_4 (.inr (1, [.long 0, .int 0, .int 0, .null])) := ⟨_, rfl⟩
    replace hM : zM A G M_7 H := by rw [eM_8]; exact hM
    have he_9 : M_7 q_4 = some (.inr (1, [.long 0, .int 0, .int 0, .null])) := by rw [eM_8]; exact zu_s _ _ _
    have he_10 := (show M_7 h0 = M h0 by rw [eM_8]; exact zu_n (znf h hq_5)).trans h
    have he_11 := (show M_7 it = M it by rw [eM_8]; exact zu_n (znf hi hq_5)).trans hi
    refine lv_dup hx hb dX2_enter_16 rfl ?_
    refine lv_lload_n hx hb dX2_enter_17 rfl (lv_at hl 3 rfl) ?_
    refine lv_iload hx hb dX2_enter_18 (lv_at hl 4 rfl) ?_
    refine lv_iload hx hb dX2_enter_20 (lv_at hl 5 rfl) ?_
    refine lv_aload_n hx hb dX2_enter_22 rfl (lv_at hl 2 rfl) ?_
    refine z_getN (v := va_rf (zHd L)) S kX0 hK hM he_11 9 (by decide) kw_96 rfl dX2_enter_23 ?_
    refine z_callIN (As := [.long d, .int sta, .int lt, va_rf (zHd L)]) (rest := [.ref q_4, .ref it]) S (c_X1_init l A G M_7 q_4 0 0 0 none d sta lt (zHd L) he_9 hbool) ok_X1_init kw_151 kw_152 rfl ⟨Nat.le_of_ble_eq_true rfl, Nat.le_of_ble_eq_true rfl⟩ hK hM hS hA rfl hl.1 rfl (Nat.le_of_ble_eq_true rfl) dX2_enter_26 ⟨Nat.le_of_ble_eq_true rfl, Nat.le_of_ble_eq_true rfl⟩ (fun r_14 M_12 H locs hp_13 hM hS => ?_)
    obtain ⟨rfl, eM_15⟩ := hp_13
    have he_16 : M_12 q_4 = some (oE d sta lt (zHd L)) := by rw [eM_15]; exact zu_s _ _ _
    have he_17 := (show M_12 h0 = M_7 h0 by rw [eM_15]; exact zu_n (zne he_10 he_9 (by simp))).trans he_10
    have he_18 := (show M_12 it = M_7 it by rw [eM_15]; exact zu_n (zne he_11 he_9 (by simp))).trans he_11
    refine W.eq (g2 := F0 m 29 ls [.ref q_4, .ref it]) rfl ?_
    refine z_putN S kX0 hK hM hS he_18 9 (by decide) kw_96 rfl rfl rfl (Nat.le_of_ble_eq_true rfl) dX2_enter_29 (fun H locs hM hS => ?_)
    obtain ⟨M_19, eM_20⟩ : ∃ z : zMap, z = zu M_12 it (.inr (0, [.int ty, .long bc, .int dg, .int hm, .int pl, .int st, .int fl, .int ow, .int wb, .ref q_4])) := ⟨_, rfl⟩
    replace hM : zM A G M_19 H := by rw [eM_20]; exact hM
    have he_21 : M_19 it = some (.inr (0, [.int ty, .long bc, .int dg, .int hm, .int pl, .int st, .int fl, .int ow, .int wb, .ref q_4])) := by rw [eM_20]; exact zu_s _ _ _
    have he_22 := (show M_19 h0 = M_12 h0 by rw [eM_20]; exact zu_n (zne he_17 he_18 (by simp))).trans he_17
    have he_23 := (show M_19 q_4 = M_12 q_4 by rw [eM_20]; exact zu_n (zne he_16 he_18 (by simp))).trans he_16
    refine lv_goto (tgt := 57) hx hb dX2_enter_32 (by decide) ?_
    refine lv_aload_n hx hb dX2_enter_57 rfl (lv_at hl 1 rfl) ?_
    refine lv_dup hx hb dX2_enter_58 rfl ?_
    refine z_get (v := .int ec) S kX2 hK hM he_22 5 (by decide) kw_21 rfl dX2_enter_59 ?_
    refine lv_iconst (v := 1) hx hb dX2_enter_62 (by decide) ?_
    refine lv_iadd hx hb dX2_enter_63 ?_
    refine z_put S kX2 hK hM hS he_22 5 (by decide) kw_21 rfl rfl rfl (Nat.le_of_ble_eq_true rfl) dX2_enter_64 (fun H locs hM hS => ?_)
    obtain ⟨M_24, eM_25⟩ : ∃ z : zMap, z = zu M_19 h0 (.inr (2, [.ref cps, .int n, .ref den, .ref fee, .long gd, .int (ec + 1)])) := ⟨_, rfl⟩
    replace hM : zM A G M_24 H := by rw [eM_25]; exact hM
    have he_26 : M_24 h0 = some (.inr (2, [.ref cps, .int n, .ref den, .ref fee, .long gd, .int (ec + 1)])) := by rw [eM_25]; exact zu_s _ _ _
    have he_27 := (show M_24 it = M_19 it by rw [eM_25]; exact zu_n (zne he_21 he_22 (by simp))).trans he_21
    have he_28 := (show M_24 q_4 = M_19 q_4 by rw [eM_25]; exact zu_n (zne he_23 he_22 (by simp))).trans he_23
    refine lv_aload_n hx hb dX2_enter_67 rfl (lv_at hl 1 rfl) ?_
    refine lv_aload_n hx hb dX2_enter_68 rfl (lv_at hl 1 rfl) ?_
    refine z_get (v := .long gd) S kX2 hK hM he_26 4 (by decide) kw_20 rfl dX2_enter_69 ?_
    refine lv_lload_n hx hb dX2_enter_72 rfl (lv_at hl 3 rfl) ?_
    refine va_mmax_long hx hb (by rw [S.2.2.1]; exact hl.1.symm) hown (hts _ kw_172) (hts _ kw_173) (hts _ kw_5) (hts _ kw_174) (Nat.le_of_ble_eq_true rfl) (Nat.le_of_ble_eq_true rfl) (Nat.le_of_ble_eq_true rfl) (Nat.le_of_ble_eq_true rfl) dX2_enter_73 ?_
    refine z_put S kX2 hK hM hS he_26 4 (by decide) kw_20 rfl rfl rfl (Nat.le_of_ble_eq_true rfl) dX2_enter_76 (fun H locs hM hS => ?_)
    obtain ⟨M_29, eM_30⟩ : ∃ z : zMap, z = zu M_24 h0 (.inr (2, [.ref cps, .int n, .ref den, .ref fee, .long (if d < gd then gd else d), .int (ec + 1)])) := ⟨_, rfl⟩
    replace hM : zM A G M_29 H := by rw [eM_30]; exact hM
    have he_31 : M_29 h0 = some (.inr (2, [.ref cps, .int n, .ref den, .ref fee, .long (if d < gd then gd else d), .int (ec + 1)])) := by rw [eM_30]; exact zu_s _ _ _
    have he_32 := (show M_29 it = M_24 it by rw [eM_30]; exact zu_n (zne he_27 he_26 (by simp))).trans he_27
    have he_33 := (show M_29 q_4 = M_24 q_4 by rw [eM_30]; exact zu_n (zne he_28 he_26 (by simp))).trans he_28
    have hfr : ∀ b9 : Nat, b9 ≠ q_4 → b9 ≠ it → b9 ≠ h0 → M_29 b9 = M b9 := fun b9 g0 g1 g2 => by rw [eM_30, zu_n g2, eM_25, zu_n g2, eM_20, zu_n g1, eM_15, zu_n g0, eM_8, zu_n g0]
    have hLo : ∀ y ∈ L, y.1 ≠ q_4 ∧ y.1 ≠ it ∧ y.1 ≠ h0 := fun y hy => by
      obtain ⟨nx, h9⟩ := hch.at y hy
      exact ⟨znf h9 hq_5, zne h9 hi (by simp), zne h9 h (by simp)⟩
    have hcc := hch.ins0 (M1 := M_29) (q := q_4) (x := (d, sta, lt)) hU0 he_33 (fun y hy => hfr y.1 (hLo y hy).1 (hLo y hy).2.1 (hLo y hy).2.2)
    exact z_vret S hr hlocks hM hS ⟨rfl, q_4, hq_5, hcc.1, by rw [hcc.2]; exact he_32, he_31, fun b b1 b2 b3 _ => hfr b b3 b1 b2⟩ (Nat.le_of_ble_eq_true rfl) (Nat.le_of_ble_eq_true rfl) dX2_enter_79
  · refine W.eq (g2 := F0 m 5 ls [.ref b]) rfl ?_
    obtain ⟨U, v, hU0⟩ := zLa_split hz
    have hLs : U ++ [(b, v)] ++ zDn d L = L := by rw [← hU0]; exact zUpDn d L
    have hbe : M b = some (oE v.1 v.2.1 v.2.2 (zHd (zDn d L))) := by
      have h9 : zCh M (U ++ ((b, v) :: zDn d L)) := by
        have h8 := hch
        rw [← hLs, List.append_assoc] at h8
        exact h8
      exact h9.mid.1
    refine lv_astore (lv' := [(6, .ref b), (0, .ref h0), (1, .ref it), (2, .long d), (4, .int sta), (5, .int lt)]) hx hb dX2_enter_5 hl (by decide) rfl (fun ls hl => ?_)
    refine lv_aload hx hb dX2_enter_7 (lv_at hl 0 rfl) ?_
    refine lv_ifnonnull (tgt := 35) hx hb dX2_enter_9 (by decide) ?_
    refine lv_aload hx hb dX2_enter_35 (lv_at hl 0 rfl) ?_
    refine z_new (fs := [.long 0, .int 0, .int 0, .null]) S kX1 hK hM hS hA kw_149 kw_150 kw_4 (fun j hj => by rcases (show j = 0 ∨ j = 1 ∨ j = 2 ∨ j = 3 by omega) with rfl | rfl | rfl | rfl <;> rfl) (Nat.le_of_ble_eq_true rfl) (Nat.le_of_ble_eq_true rfl) dX2_enter_37 (fun q_34 H hq_35 hAq_36 hM hS => ?_)
    obtain ⟨M_37, eM_38⟩ : ∃ z : zMap, z = zu M q_34 (.inr (1, [.long 0, .int 0, .int 0, .null])) := ⟨_, rfl⟩
    replace hM : zM A G M_37 H := by rw [eM_38]; exact hM
    have hbq : b ≠ q_34 := znf hbe hq_35
    have he_39 : M_37 q_34 = some (.inr (1, [.long 0, .int 0, .int 0, .null])) := by rw [eM_38]; exact zu_s _ _ _
    have he_40 := (show M_37 h0 = M h0 by rw [eM_38]; exact zu_n (znf h hq_35)).trans h
    have he_41 := (show M_37 it = M it by rw [eM_38]; exact zu_n (znf hi hq_35)).trans hi
    have he_42 := (show M_37 b = M b by rw [eM_38]; exact zu_n (znf hbe hq_35)).trans hbe
    refine lv_dup hx hb dX2_enter_40 rfl ?_
    refine lv_lload_n hx hb dX2_enter_41 rfl (lv_at hl 3 rfl) ?_
    refine lv_iload hx hb dX2_enter_42 (lv_at hl 4 rfl) ?_
    refine lv_iload hx hb dX2_enter_44 (lv_at hl 5 rfl) ?_
    refine lv_aload hx hb dX2_enter_46 (lv_at hl 0 rfl) ?_
    refine z_getN (v := va_rf (zHd (zDn d L))) S kX1 hK hM he_42 3 (by decide) kw_162 rfl dX2_enter_48 ?_
    refine z_callIN (As := [.long d, .int sta, .int lt, va_rf (zHd (zDn d L))]) (rest := [.ref q_34, .ref b]) S (c_X1_init l A G M_37 q_34 0 0 0 none d sta lt (zHd (zDn d L)) he_39 hbool) ok_X1_init kw_151 kw_152 rfl ⟨Nat.le_of_ble_eq_true rfl, Nat.le_of_ble_eq_true rfl⟩ hK hM hS hA rfl hl.1 rfl (Nat.le_of_ble_eq_true rfl) dX2_enter_51 ⟨Nat.le_of_ble_eq_true rfl, Nat.le_of_ble_eq_true rfl⟩ (fun r_45 M_43 H locs hp_44 hM hS => ?_)
    obtain ⟨rfl, eM_46⟩ := hp_44
    have he_47 : M_43 q_34 = some (oE d sta lt (zHd (zDn d L))) := by rw [eM_46]; exact zu_s _ _ _
    have he_48 := (show M_43 h0 = M_37 h0 by rw [eM_46]; exact zu_n (zne he_40 he_39 (by simp))).trans he_40
    have he_49 := (show M_43 it = M_37 it by rw [eM_46]; exact zu_n (zne he_41 he_39 (by simp))).trans he_41
    have he_50 := (show M_43 b = M_37 b by rw [eM_46]; exact zu_n (hbq)).trans he_42
    refine W.eq (g2 := F0 m 54 ls [.ref q_34, .ref b]) rfl ?_
    refine z_putN S kX1 hK hM hS he_50 3 (by decide) kw_162 rfl rfl rfl (Nat.le_of_ble_eq_true rfl) dX2_enter_54 (fun H locs hM hS => ?_)
    obtain ⟨M_51, eM_52⟩ : ∃ z : zMap, z = zu M_43 b (.inr (1, [.long v.1, .int v.2.1, .int v.2.2, .ref q_34])) := ⟨_, rfl⟩
    replace hM : zM A G M_51 H := by rw [eM_52]; exact hM
    have he_53 : M_51 b = some (.inr (1, [.long v.1, .int v.2.1, .int v.2.2, .ref q_34])) := by rw [eM_52]; exact zu_s _ _ _
    have he_54 := (show M_51 h0 = M_43 h0 by rw [eM_52]; exact zu_n (zne he_48 he_50 (by simp))).trans he_48
    have he_55 := (show M_51 it = M_43 it by rw [eM_52]; exact zu_n (zne he_49 he_50 (by simp))).trans he_49
    have he_56 := (show M_51 q_34 = M_43 q_34 by rw [eM_52]; exact zu_n (Ne.symm hbq)).trans he_47
    refine lv_aload_n hx hb dX2_enter_57 rfl (lv_at hl 1 rfl) ?_
    refine lv_dup hx hb dX2_enter_58 rfl ?_
    refine z_get (v := .int ec) S kX2 hK hM he_54 5 (by decide) kw_21 rfl dX2_enter_59 ?_
    refine lv_iconst (v := 1) hx hb dX2_enter_62 (by decide) ?_
    refine lv_iadd hx hb dX2_enter_63 ?_
    refine z_put S kX2 hK hM hS he_54 5 (by decide) kw_21 rfl rfl rfl (Nat.le_of_ble_eq_true rfl) dX2_enter_64 (fun H locs hM hS => ?_)
    obtain ⟨M_57, eM_58⟩ : ∃ z : zMap, z = zu M_51 h0 (.inr (2, [.ref cps, .int n, .ref den, .ref fee, .long gd, .int (ec + 1)])) := ⟨_, rfl⟩
    replace hM : zM A G M_57 H := by rw [eM_58]; exact hM
    have he_59 : M_57 h0 = some (.inr (2, [.ref cps, .int n, .ref den, .ref fee, .long gd, .int (ec + 1)])) := by rw [eM_58]; exact zu_s _ _ _
    have he_60 := (show M_57 it = M_51 it by rw [eM_58]; exact zu_n (zne he_55 he_54 (by simp))).trans he_55
    have he_61 := (show M_57 b = M_51 b by rw [eM_58]; exact zu_n (zne he_53 he_54 (by simp))).trans he_53
    have he_62 := (show M_57 q_34 = M_51 q_34 by rw [eM_58]; exact zu_n (zne he_56 he_54 (by simp))).trans he_56
    refine lv_aload_n hx hb dX2_enter_67 rfl (lv_at hl 1 rfl) ?_
    refine lv_aload_n hx hb dX2_enter_68 rfl (lv_at hl 1 rfl) ?_
    refine z_get (v := .long gd) S kX2 hK hM he_59 4 (by decide) kw_20 rfl dX2_enter_69 ?_
    refine lv_lload_n hx hb dX2_enter_72 rfl (lv_at hl 3 rfl) ?_
    refine va_mmax_long hx hb (by rw [S.2.2.1]; exact hl.1.symm) hown (hts _ kw_172) (hts _ kw_173) (hts _ kw_5) (hts _ kw_174) (Nat.le_of_ble_eq_true rfl) (Nat.le_of_ble_eq_true rfl) (Nat.le_of_ble_eq_true rfl) (Nat.le_of_ble_eq_true rfl) dX2_enter_73 ?_
    refine z_put S kX2 hK hM hS he_59 4 (by decide) kw_20 rfl rfl rfl (Nat.le_of_ble_eq_true rfl) dX2_enter_76 (fun H locs hM hS => ?_)
    obtain ⟨M_63, eM_64⟩ : ∃ z : zMap, z = zu M_57 h0 (.inr (2, [.ref cps, .int n, .ref den, .ref fee, .long (if d < gd then gd else d), .int (ec + 1)])) := ⟨_, rfl⟩
    replace hM : zM A G M_63 H := by rw [eM_64]; exact hM
    have he_65 : M_63 h0 = some (.inr (2, [.ref cps, .int n, .ref den, .ref fee, .long (if d < gd then gd else d), .int (ec + 1)])) := by rw [eM_64]; exact zu_s _ _ _
    have he_66 := (show M_63 it = M_57 it by rw [eM_64]; exact zu_n (zne he_60 he_59 (by simp))).trans he_60
    have he_67 := (show M_63 b = M_57 b by rw [eM_64]; exact zu_n (zne he_61 he_59 (by simp))).trans he_61
    have he_68 := (show M_63 q_34 = M_57 q_34 by rw [eM_64]; exact zu_n (zne he_62 he_59 (by simp))).trans he_62
    have hfr : ∀ b9 : Nat, b9 ≠ q_34 → b9 ≠ b → b9 ≠ h0 → M_63 b9 = M b9 := fun b9 g0 g1 g2 => by rw [eM_64, zu_n g2, eM_58, zu_n g2, eM_52, zu_n g1, eM_46, zu_n g0, eM_38, zu_n g0]
    have hLo : ∀ y ∈ L, y.1 ≠ q_34 ∧ y.1 ≠ it ∧ y.1 ≠ h0 := fun y hy => by
      obtain ⟨nx, h9⟩ := hch.at y hy
      exact ⟨znf h9 hq_35, zne h9 hi (by simp), zne h9 h (by simp)⟩
    have hcc := hch.ins1 (M1 := M_63) (q := q_34) (x := (d, sta, lt)) hU0 he_68 he_67 (fun y hy hyb => hfr y.1 (hLo y hy).1 hyb (hLo y hy).2.2) hnd
    have hbL : (b, v) ∈ L := by rw [← hLs]; simp
    exact z_vret S hr hlocks hM hS ⟨rfl, q_34, hq_35, hcc.1, by rw [hcc.2]; exact he_66, he_65, fun b' b1 b2 b3 b4 => hfr b' b3 (fun e9 => b4 _ hbL e9.symm) b2⟩ (Nat.le_of_ble_eq_true rfl) (Nat.le_of_ble_eq_true rfl) dX2_enter_79
set_option maxHeartbeats 4000000 in
set_option maxRecDepth 100000 in
theorem c_X2_carryOut (l : Launch) (A : Nat → Prop) (G : zG) (M : zMap) (h0 cps : Nat) (n : Int32) (den fee : Nat) (gd : Int64) (ec : Int32) (fe : Nat → Int32) (it : Nat) (ty : Int32) (bc : Int64) (dg hm pl st fl ow wb : Int32) (fi : Option Nat) (kind place : Int32) (h : M h0 = some (oI cps n den fee gd ec)) (hf : M fee = some (.inl (G.2.2 0, 6, .inl fe))) (hi : M it = some (oC ty bc dg hm pl st fl ow wb fi)) : zMet l yX2_carryOut cX2_carryOut 4 none { frames := 1, cells := 0, slots := 0, locals := 40 } [.ref h0, .ref it, .int kind, .int place] A G M (fun r M1 => r = none ∧ M1 = zu M it (zCo fe kind place ty bc dg hm pl st fl ow fi)) := by
  refine zMet.of (by decide) (Nat.le_of_ble_eq_true rfl) ?_
  intro p e s m args below meth c ls S hr hlocks hnm hK hM hA hS hl
  have hl : lv_has ls 4 [(0, .ref h0), (1, .ref it), (2, .int kind), (3, .int place)] := hl
  have hx := S.1
  have hb := S.2.1
  have hown := S.2.2.2.1
  have hts := S.2.2.2.2
  have hr : meth.sig.returnType = none := hr
  refine lv_iload_n hx hb dX2_carryOut_0 rfl (lv_at hl 2 rfl) ?_
  refine lv_bipush (v := 6) hx hb dX2_carryOut_1 (by decide) ?_
  refine lv_icmp_ne (tgt := 42) hx hb dX2_carryOut_3 (by decide) (fun c_1 => ?_) (fun c_1 => ?_)
  · refine lv_iload_n hx hb dX2_carryOut_42 rfl (lv_at hl 2 rfl) ?_
    refine lv_iconst (v := 2) hx hb dX2_carryOut_43 (by decide) ?_
    refine lv_icmp_ne (tgt := 52) hx hb dX2_carryOut_44 (by decide) (fun c_2 => ?_) (fun c_2 => ?_)
    · refine lv_iload_n hx hb dX2_carryOut_52 rfl (lv_at hl 2 rfl) ?_
      refine lv_if_ne (tgt := 71) hx hb dX2_carryOut_53 (by decide) (fun c_3 => ?_) (fun c_3 => ?_)
      · refine lv_aload_n hx hb dX2_carryOut_71 rfl (lv_at hl 1 rfl) ?_
        refine lv_iload_n hx hb dX2_carryOut_72 rfl (lv_at hl 2 rfl) ?_
        refine z_putN S kX0 hK hM hS hi 5 (by decide) kw_88 rfl rfl rfl (Nat.le_of_ble_eq_true rfl) dX2_carryOut_73 (fun H locs hM hS => ?_)
        obtain ⟨M_4, eM_5⟩ : ∃ z : zMap, z = zu M it (.inr (0, [.int ty, .long bc, .int dg, .int hm, .int pl, .int kind, .int fl, .int ow, .int wb, va_rf fi])) := ⟨_, rfl⟩
        replace hM : zM A G M_4 H := by rw [eM_5]; exact hM
        have he_6 : M_4 it = some (.inr (0, [.int ty, .long bc, .int dg, .int hm, .int pl, .int kind, .int fl, .int ow, .int wb, va_rf fi])) := by rw [eM_5]; exact zu_s _ _ _
        have he_7 := (show M_4 h0 = M h0 by rw [eM_5]; exact zu_n (zne h hi (by simp))).trans h
        have he_8 := (show M_4 fee = M fee by rw [eM_5]; exact zu_n (zne hf hi (by simp))).trans hf
        refine lv_aload_n hx hb dX2_carryOut_76 rfl (lv_at hl 1 rfl) ?_
        refine lv_iconst (v := -1) hx hb dX2_carryOut_77 (by decide) ?_
        refine z_putN S kX0 hK hM hS he_6 8 (by decide) kw_94 rfl rfl rfl (Nat.le_of_ble_eq_true rfl) dX2_carryOut_78 (fun H locs hM hS => ?_)
        obtain ⟨M_9, eM_10⟩ : ∃ z : zMap, z = zu M_4 it (.inr (0, [.int ty, .long bc, .int dg, .int hm, .int pl, .int kind, .int fl, .int ow, .int (-1), va_rf fi])) := ⟨_, rfl⟩
        replace hM : zM A G M_9 H := by rw [eM_10]; exact hM
        have he_11 : M_9 it = some (.inr (0, [.int ty, .long bc, .int dg, .int hm, .int pl, .int kind, .int fl, .int ow, .int (-1), va_rf fi])) := by rw [eM_10]; exact zu_s _ _ _
        have he_12 := (show M_9 h0 = M_4 h0 by rw [eM_10]; exact zu_n (zne he_7 he_6 (by simp))).trans he_7
        have he_13 := (show M_9 fee = M_4 fee by rw [eM_10]; exact zu_n (zne he_8 he_6 (by simp))).trans he_8
        exact z_vret S hr hlocks hM hS ⟨rfl, by simp only [eM_10, eM_5, zu_u]; simp [zCo, zTy, c_1, c_2, c_3]⟩ (Nat.le_of_ble_eq_true rfl) (Nat.le_of_ble_eq_true rfl) dX2_carryOut_81
      · refine lv_aload_n hx hb dX2_carryOut_56 rfl (lv_at hl 1 rfl) ?_
        refine z_getN (v := .int fl) S kX0 hK hM hi 6 (by decide) kw_90 rfl dX2_carryOut_57 ?_
        refine lv_if_eq (tgt := 71) hx hb dX2_carryOut_60 (by decide) (fun c_14 => ?_) (fun c_14 => ?_)
        · refine lv_aload_n hx hb dX2_carryOut_71 rfl (lv_at hl 1 rfl) ?_
          refine lv_iload_n hx hb dX2_carryOut_72 rfl (lv_at hl 2 rfl) ?_
          refine z_putN S kX0 hK hM hS hi 5 (by decide) kw_88 rfl rfl rfl (Nat.le_of_ble_eq_true rfl) dX2_carryOut_73 (fun H locs hM hS => ?_)
          obtain ⟨M_15, eM_16⟩ : ∃ z : zMap, z = zu M it (.inr (0, [.int ty, .long bc, .int dg, .int hm, .int pl, .int kind, .int fl, .int ow, .int wb, va_rf fi])) := ⟨_, rfl⟩
          replace hM : zM A G M_15 H := by rw [eM_16]; exact hM
          have he_17 : M_15 it = some (.inr (0, [.int ty, .long bc, .int dg, .int hm, .int pl, .int kind, .int fl, .int ow, .int wb, va_rf fi])) := by rw [eM_16]; exact zu_s _ _ _
          have he_18 := (show M_15 h0 = M h0 by rw [eM_16]; exact zu_n (zne h hi (by simp))).trans h
          have he_19 := (show M_15 fee = M fee by rw [eM_16]; exact zu_n (zne hf hi (by simp))).trans hf
          refine lv_aload_n hx hb dX2_carryOut_76 rfl (lv_at hl 1 rfl) ?_
          refine lv_iconst (v := -1) hx hb dX2_carryOut_77 (by decide) ?_
          refine z_putN S kX0 hK hM hS he_17 8 (by decide) kw_94 rfl rfl rfl (Nat.le_of_ble_eq_true rfl) dX2_carryOut_78 (fun H locs hM hS => ?_)
          obtain ⟨M_20, eM_21⟩ : ∃ z : zMap, z = zu M_15 it (.inr (0, [.int ty, .long bc, .int dg, .int hm, .int pl, .int kind, .int fl, .int ow, .int (-1), va_rf fi])) := ⟨_, rfl⟩
          replace hM : zM A G M_20 H := by rw [eM_21]; exact hM
          have he_22 : M_20 it = some (.inr (0, [.int ty, .long bc, .int dg, .int hm, .int pl, .int kind, .int fl, .int ow, .int (-1), va_rf fi])) := by rw [eM_21]; exact zu_s _ _ _
          have he_23 := (show M_20 h0 = M_15 h0 by rw [eM_21]; exact zu_n (zne he_18 he_17 (by simp))).trans he_18
          have he_24 := (show M_20 fee = M_15 fee by rw [eM_21]; exact zu_n (zne he_19 he_17 (by simp))).trans he_19
          exact z_vret S hr hlocks hM hS ⟨rfl, by simp only [eM_21, eM_16, zu_u]; simp [zCo, zTy, c_1, c_2, c_3, c_14]⟩ (Nat.le_of_ble_eq_true rfl) (Nat.le_of_ble_eq_true rfl) dX2_carryOut_81
        · refine lv_aload_n hx hb dX2_carryOut_63 rfl (lv_at hl 1 rfl) ?_
          refine lv_aload_n hx hb dX2_carryOut_64 rfl (lv_at hl 1 rfl) ?_
          refine z_getN (v := .int pl) S kX0 hK hM hi 4 (by decide) kw_86 rfl dX2_carryOut_65 ?_
          refine z_putN S kX0 hK hM hS hi 3 (by decide) kw_84 rfl rfl rfl (Nat.le_of_ble_eq_true rfl) dX2_carryOut_68 (fun H locs hM hS => ?_)
          obtain ⟨M_25, eM_26⟩ : ∃ z : zMap, z = zu M it (.inr (0, [.int ty, .long bc, .int dg, .int pl, .int pl, .int st, .int fl, .int ow, .int wb, va_rf fi])) := ⟨_, rfl⟩
          replace hM : zM A G M_25 H := by rw [eM_26]; exact hM
          have he_27 : M_25 it = some (.inr (0, [.int ty, .long bc, .int dg, .int pl, .int pl, .int st, .int fl, .int ow, .int wb, va_rf fi])) := by rw [eM_26]; exact zu_s _ _ _
          have he_28 := (show M_25 h0 = M h0 by rw [eM_26]; exact zu_n (zne h hi (by simp))).trans h
          have he_29 := (show M_25 fee = M fee by rw [eM_26]; exact zu_n (zne hf hi (by simp))).trans hf
          refine lv_aload_n hx hb dX2_carryOut_71 rfl (lv_at hl 1 rfl) ?_
          refine lv_iload_n hx hb dX2_carryOut_72 rfl (lv_at hl 2 rfl) ?_
          refine z_putN S kX0 hK hM hS he_27 5 (by decide) kw_88 rfl rfl rfl (Nat.le_of_ble_eq_true rfl) dX2_carryOut_73 (fun H locs hM hS => ?_)
          obtain ⟨M_30, eM_31⟩ : ∃ z : zMap, z = zu M_25 it (.inr (0, [.int ty, .long bc, .int dg, .int pl, .int pl, .int kind, .int fl, .int ow, .int wb, va_rf fi])) := ⟨_, rfl⟩
          replace hM : zM A G M_30 H := by rw [eM_31]; exact hM
          have he_32 : M_30 it = some (.inr (0, [.int ty, .long bc, .int dg, .int pl, .int pl, .int kind, .int fl, .int ow, .int wb, va_rf fi])) := by rw [eM_31]; exact zu_s _ _ _
          have he_33 := (show M_30 h0 = M_25 h0 by rw [eM_31]; exact zu_n (zne he_28 he_27 (by simp))).trans he_28
          have he_34 := (show M_30 fee = M_25 fee by rw [eM_31]; exact zu_n (zne he_29 he_27 (by simp))).trans he_29
          refine lv_aload_n hx hb dX2_carryOut_76 rfl (lv_at hl 1 rfl) ?_
          refine lv_iconst (v := -1) hx hb dX2_carryOut_77 (by decide) ?_
          refine z_putN S kX0 hK hM hS he_32 8 (by decide) kw_94 rfl rfl rfl (Nat.le_of_ble_eq_true rfl) dX2_carryOut_78 (fun H locs hM hS => ?_)
          obtain ⟨M_35, eM_36⟩ : ∃ z : zMap, z = zu M_30 it (.inr (0, [.int ty, .long bc, .int dg, .int pl, .int pl, .int kind, .int fl, .int ow, .int (-1), va_rf fi])) := ⟨_, rfl⟩
          replace hM : zM A G M_35 H := by rw [eM_36]; exact hM
          have he_37 : M_35 it = some (.inr (0, [.int ty, .long bc, .int dg, .int pl, .int pl, .int kind, .int fl, .int ow, .int (-1), va_rf fi])) := by rw [eM_36]; exact zu_s _ _ _
          have he_38 := (show M_35 h0 = M_30 h0 by rw [eM_36]; exact zu_n (zne he_33 he_32 (by simp))).trans he_33
          have he_39 := (show M_35 fee = M_30 fee by rw [eM_36]; exact zu_n (zne he_34 he_32 (by simp))).trans he_34
          exact z_vret S hr hlocks hM hS ⟨rfl, by simp only [eM_36, eM_31, eM_26, zu_u]; simp [zCo, zTy, c_1, c_2, c_3, c_14]⟩ (Nat.le_of_ble_eq_true rfl) (Nat.le_of_ble_eq_true rfl) dX2_carryOut_81
    · refine lv_aload_n hx hb dX2_carryOut_47 rfl (lv_at hl 1 rfl) ?_
      refine lv_iload_n hx hb dX2_carryOut_48 rfl (lv_at hl 3 rfl) ?_
      refine z_putN S kX0 hK hM hS hi 4 (by decide) kw_86 rfl rfl rfl (Nat.le_of_ble_eq_true rfl) dX2_carryOut_49 (fun H locs hM hS => ?_)
      obtain ⟨M_40, eM_41⟩ : ∃ z : zMap, z = zu M it (.inr (0, [.int ty, .long bc, .int dg, .int hm, .int place, .int st, .int fl, .int ow, .int wb, va_rf fi])) := ⟨_, rfl⟩
      replace hM : zM A G M_40 H := by rw [eM_41]; exact hM
      have he_42 : M_40 it = some (.inr (0, [.int ty, .long bc, .int dg, .int hm, .int place, .int st, .int fl, .int ow, .int wb, va_rf fi])) := by rw [eM_41]; exact zu_s _ _ _
      have he_43 := (show M_40 h0 = M h0 by rw [eM_41]; exact zu_n (zne h hi (by simp))).trans h
      have he_44 := (show M_40 fee = M fee by rw [eM_41]; exact zu_n (zne hf hi (by simp))).trans hf
      refine lv_iload_n hx hb dX2_carryOut_52 rfl (lv_at hl 2 rfl) ?_
      refine lv_if_ne (tgt := 71) hx hb dX2_carryOut_53 (by decide) (fun c_45 => ?_) (fun c_45 => ?_)
      · refine lv_aload_n hx hb dX2_carryOut_71 rfl (lv_at hl 1 rfl) ?_
        refine lv_iload_n hx hb dX2_carryOut_72 rfl (lv_at hl 2 rfl) ?_
        refine z_putN S kX0 hK hM hS he_42 5 (by decide) kw_88 rfl rfl rfl (Nat.le_of_ble_eq_true rfl) dX2_carryOut_73 (fun H locs hM hS => ?_)
        obtain ⟨M_46, eM_47⟩ : ∃ z : zMap, z = zu M_40 it (.inr (0, [.int ty, .long bc, .int dg, .int hm, .int place, .int kind, .int fl, .int ow, .int wb, va_rf fi])) := ⟨_, rfl⟩
        replace hM : zM A G M_46 H := by rw [eM_47]; exact hM
        have he_48 : M_46 it = some (.inr (0, [.int ty, .long bc, .int dg, .int hm, .int place, .int kind, .int fl, .int ow, .int wb, va_rf fi])) := by rw [eM_47]; exact zu_s _ _ _
        have he_49 := (show M_46 h0 = M_40 h0 by rw [eM_47]; exact zu_n (zne he_43 he_42 (by simp))).trans he_43
        have he_50 := (show M_46 fee = M_40 fee by rw [eM_47]; exact zu_n (zne he_44 he_42 (by simp))).trans he_44
        refine lv_aload_n hx hb dX2_carryOut_76 rfl (lv_at hl 1 rfl) ?_
        refine lv_iconst (v := -1) hx hb dX2_carryOut_77 (by decide) ?_
        refine z_putN S kX0 hK hM hS he_48 8 (by decide) kw_94 rfl rfl rfl (Nat.le_of_ble_eq_true rfl) dX2_carryOut_78 (fun H locs hM hS => ?_)
        obtain ⟨M_51, eM_52⟩ : ∃ z : zMap, z = zu M_46 it (.inr (0, [.int ty, .long bc, .int dg, .int hm, .int place, .int kind, .int fl, .int ow, .int (-1), va_rf fi])) := ⟨_, rfl⟩
        replace hM : zM A G M_51 H := by rw [eM_52]; exact hM
        have he_53 : M_51 it = some (.inr (0, [.int ty, .long bc, .int dg, .int hm, .int place, .int kind, .int fl, .int ow, .int (-1), va_rf fi])) := by rw [eM_52]; exact zu_s _ _ _
        have he_54 := (show M_51 h0 = M_46 h0 by rw [eM_52]; exact zu_n (zne he_49 he_48 (by simp))).trans he_49
        have he_55 := (show M_51 fee = M_46 fee by rw [eM_52]; exact zu_n (zne he_50 he_48 (by simp))).trans he_50
        exact z_vret S hr hlocks hM hS ⟨rfl, by simp only [eM_52, eM_47, eM_41, zu_u]; simp [zCo, zTy, c_1, c_2, c_45]⟩ (Nat.le_of_ble_eq_true rfl) (Nat.le_of_ble_eq_true rfl) dX2_carryOut_81
      · exact absurd (c_2.symm.trans c_45) (by decide)
  · refine lv_aload_n hx hb dX2_carryOut_6 rfl (lv_at hl 1 rfl) ?_
    refine z_getN (v := .int st) S kX0 hK hM hi 5 (by decide) kw_88 rfl dX2_carryOut_7 ?_
    refine lv_iconst (v := 1) hx hb dX2_carryOut_10 (by decide) ?_
    refine lv_icmp_ne (tgt := 42) hx hb dX2_carryOut_11 (by decide) (fun c_56 => ?_) (fun c_56 => ?_)
    · refine lv_iload_n hx hb dX2_carryOut_42 rfl (lv_at hl 2 rfl) ?_
      refine lv_iconst (v := 2) hx hb dX2_carryOut_43 (by decide) ?_
      refine lv_icmp_ne (tgt := 52) hx hb dX2_carryOut_44 (by decide) (fun c_57 => ?_) (fun c_57 => ?_)
      · refine lv_iload_n hx hb dX2_carryOut_52 rfl (lv_at hl 2 rfl) ?_
        refine lv_if_ne (tgt := 71) hx hb dX2_carryOut_53 (by decide) (fun c_58 => ?_) (fun c_58 => ?_)
        · refine lv_aload_n hx hb dX2_carryOut_71 rfl (lv_at hl 1 rfl) ?_
          refine lv_iload_n hx hb dX2_carryOut_72 rfl (lv_at hl 2 rfl) ?_
          refine z_putN S kX0 hK hM hS hi 5 (by decide) kw_88 rfl rfl rfl (Nat.le_of_ble_eq_true rfl) dX2_carryOut_73 (fun H locs hM hS => ?_)
          obtain ⟨M_59, eM_60⟩ : ∃ z : zMap, z = zu M it (.inr (0, [.int ty, .long bc, .int dg, .int hm, .int pl, .int kind, .int fl, .int ow, .int wb, va_rf fi])) := ⟨_, rfl⟩
          replace hM : zM A G M_59 H := by rw [eM_60]; exact hM
          have he_61 : M_59 it = some (.inr (0, [.int ty, .long bc, .int dg, .int hm, .int pl, .int kind, .int fl, .int ow, .int wb, va_rf fi])) := by rw [eM_60]; exact zu_s _ _ _
          have he_62 := (show M_59 h0 = M h0 by rw [eM_60]; exact zu_n (zne h hi (by simp))).trans h
          have he_63 := (show M_59 fee = M fee by rw [eM_60]; exact zu_n (zne hf hi (by simp))).trans hf
          refine lv_aload_n hx hb dX2_carryOut_76 rfl (lv_at hl 1 rfl) ?_
          refine lv_iconst (v := -1) hx hb dX2_carryOut_77 (by decide) ?_
          refine z_putN S kX0 hK hM hS he_61 8 (by decide) kw_94 rfl rfl rfl (Nat.le_of_ble_eq_true rfl) dX2_carryOut_78 (fun H locs hM hS => ?_)
          obtain ⟨M_64, eM_65⟩ : ∃ z : zMap, z = zu M_59 it (.inr (0, [.int ty, .long bc, .int dg, .int hm, .int pl, .int kind, .int fl, .int ow, .int (-1), va_rf fi])) := ⟨_, rfl⟩
          replace hM : zM A G M_64 H := by rw [eM_65]; exact hM
          have he_66 : M_64 it = some (.inr (0, [.int ty, .long bc, .int dg, .int hm, .int pl, .int kind, .int fl, .int ow, .int (-1), va_rf fi])) := by rw [eM_65]; exact zu_s _ _ _
          have he_67 := (show M_64 h0 = M_59 h0 by rw [eM_65]; exact zu_n (zne he_62 he_61 (by simp))).trans he_62
          have he_68 := (show M_64 fee = M_59 fee by rw [eM_65]; exact zu_n (zne he_63 he_61 (by simp))).trans he_63
          exact z_vret S hr hlocks hM hS ⟨rfl, by simp only [eM_65, eM_60, zu_u]; simp [zCo, zTy, c_1, c_56, c_57, c_58]⟩ (Nat.le_of_ble_eq_true rfl) (Nat.le_of_ble_eq_true rfl) dX2_carryOut_81
        · exact absurd (c_1.symm.trans c_58) (by decide)
      · exact absurd (c_1.symm.trans c_57) (by decide)
    · refine lv_aload_n hx hb dX2_carryOut_14 rfl (lv_at hl 1 rfl) ?_
      refine z_getN (v := .int ty) S kX0 hK hM hi 0 (by decide) kw_78 rfl dX2_carryOut_15 ?_
      refine z_callS (As := [.int ty]) (rest := []) S (c_X2_isType l A G M ty) ok_X2_isType kw_49 kw_50 ⟨Nat.le_of_ble_eq_true rfl, Nat.le_of_ble_eq_true rfl⟩ hK hM hS hA rfl hl.1 rfl (Nat.le_of_ble_eq_true rfl) dX2_carryOut_18 ⟨Nat.le_of_ble_eq_true rfl, Nat.le_of_ble_eq_true rfl⟩ (fun r_71 M_69 H locs hp_70 hM hS => ?_)
      obtain ⟨rfl, hM9⟩ := hp_70
      rw [hM9] at hM
      refine W.eq (g2 := F0 m 21 ls [.int (zb (zTy ty))]) rfl ?_
      refine lv_if_eq (tgt := 42) hx hb dX2_carryOut_21 (by decide) (fun c_72 => ?_) (fun c_72 => ?_)
      · rw [zb_0] at c_72
        refine lv_iload_n hx hb dX2_carryOut_42 rfl (lv_at hl 2 rfl) ?_
        refine lv_iconst (v := 2) hx hb dX2_carryOut_43 (by decide) ?_
        refine lv_icmp_ne (tgt := 52) hx hb dX2_carryOut_44 (by decide) (fun c_73 => ?_) (fun c_73 => ?_)
        · refine lv_iload_n hx hb dX2_carryOut_52 rfl (lv_at hl 2 rfl) ?_
          refine lv_if_ne (tgt := 71) hx hb dX2_carryOut_53 (by decide) (fun c_74 => ?_) (fun c_74 => ?_)
          · refine lv_aload_n hx hb dX2_carryOut_71 rfl (lv_at hl 1 rfl) ?_
            refine lv_iload_n hx hb dX2_carryOut_72 rfl (lv_at hl 2 rfl) ?_
            refine z_putN S kX0 hK hM hS hi 5 (by decide) kw_88 rfl rfl rfl (Nat.le_of_ble_eq_true rfl) dX2_carryOut_73 (fun H locs hM hS => ?_)
            obtain ⟨M_75, eM_76⟩ : ∃ z : zMap, z = zu M it (.inr (0, [.int ty, .long bc, .int dg, .int hm, .int pl, .int kind, .int fl, .int ow, .int wb, va_rf fi])) := ⟨_, rfl⟩
            replace hM : zM A G M_75 H := by rw [eM_76]; exact hM
            have he_77 : M_75 it = some (.inr (0, [.int ty, .long bc, .int dg, .int hm, .int pl, .int kind, .int fl, .int ow, .int wb, va_rf fi])) := by rw [eM_76]; exact zu_s _ _ _
            have he_78 := (show M_75 h0 = M h0 by rw [eM_76]; exact zu_n (zne h hi (by simp))).trans h
            have he_79 := (show M_75 fee = M fee by rw [eM_76]; exact zu_n (zne hf hi (by simp))).trans hf
            refine lv_aload_n hx hb dX2_carryOut_76 rfl (lv_at hl 1 rfl) ?_
            refine lv_iconst (v := -1) hx hb dX2_carryOut_77 (by decide) ?_
            refine z_putN S kX0 hK hM hS he_77 8 (by decide) kw_94 rfl rfl rfl (Nat.le_of_ble_eq_true rfl) dX2_carryOut_78 (fun H locs hM hS => ?_)
            obtain ⟨M_80, eM_81⟩ : ∃ z : zMap, z = zu M_75 it (.inr (0, [.int ty, .long bc, .int dg, .int hm, .int pl, .int kind, .int fl, .int ow, .int (-1), va_rf fi])) := ⟨_, rfl⟩
            replace hM : zM A G M_80 H := by rw [eM_81]; exact hM
            have he_82 : M_80 it = some (.inr (0, [.int ty, .long bc, .int dg, .int hm, .int pl, .int kind, .int fl, .int ow, .int (-1), va_rf fi])) := by rw [eM_81]; exact zu_s _ _ _
            have he_83 := (show M_80 h0 = M_75 h0 by rw [eM_81]; exact zu_n (zne he_78 he_77 (by simp))).trans he_78
            have he_84 := (show M_80 fee = M_75 fee by rw [eM_81]; exact zu_n (zne he_79 he_77 (by simp))).trans he_79
            exact z_vret S hr hlocks hM hS ⟨rfl, by simp only [eM_81, eM_76, zu_u]; simp [zCo, c_1, c_56, c_72, c_73, c_74]⟩ (Nat.le_of_ble_eq_true rfl) (Nat.le_of_ble_eq_true rfl) dX2_carryOut_81
          · exact absurd (c_1.symm.trans c_74) (by decide)
        · exact absurd (c_1.symm.trans c_73) (by decide)
      · rw [zb_0n] at c_72
        refine lv_aload_n hx hb dX2_carryOut_24 rfl (lv_at hl 1 rfl) ?_
        refine lv_dup hx hb dX2_carryOut_25 rfl ?_
        refine z_getN (v := .int ow) S kX0 hK hM hi 7 (by decide) kw_92 rfl dX2_carryOut_26 ?_
        refine lv_aload_n hx hb dX2_carryOut_29 rfl (lv_at hl 0 rfl) ?_
        refine z_get (v := .ref fee) S kX2 hK hM h 3 (by decide) kw_19 rfl dX2_carryOut_30 ?_
        refine lv_aload_n hx hb dX2_carryOut_33 rfl (lv_at hl 1 rfl) ?_
        refine z_getN (v := .int ty) S kX0 hK hM hi 0 (by decide) kw_78 rfl dX2_carryOut_34 ?_
        refine z_iald S hK hM 0 hf rfl (zTy_vp c_72) dX2_carryOut_37 ?_
        refine lv_iadd hx hb dX2_carryOut_38 ?_
        refine z_putN S kX0 hK hM hS hi 7 (by decide) kw_92 rfl rfl rfl (Nat.le_of_ble_eq_true rfl) dX2_carryOut_39 (fun H locs hM hS => ?_)
        obtain ⟨M_85, eM_86⟩ : ∃ z : zMap, z = zu M it (.inr (0, [.int ty, .long bc, .int dg, .int hm, .int pl, .int st, .int fl, .int (ow + (fe ty.toNatClampNeg)), .int wb, va_rf fi])) := ⟨_, rfl⟩
        replace hM : zM A G M_85 H := by rw [eM_86]; exact hM
        have he_87 : M_85 it = some (.inr (0, [.int ty, .long bc, .int dg, .int hm, .int pl, .int st, .int fl, .int (ow + (fe ty.toNatClampNeg)), .int wb, va_rf fi])) := by rw [eM_86]; exact zu_s _ _ _
        have he_88 := (show M_85 h0 = M h0 by rw [eM_86]; exact zu_n (zne h hi (by simp))).trans h
        have he_89 := (show M_85 fee = M fee by rw [eM_86]; exact zu_n (zne hf hi (by simp))).trans hf
        refine lv_iload_n hx hb dX2_carryOut_42 rfl (lv_at hl 2 rfl) ?_
        refine lv_iconst (v := 2) hx hb dX2_carryOut_43 (by decide) ?_
        refine lv_icmp_ne (tgt := 52) hx hb dX2_carryOut_44 (by decide) (fun c_90 => ?_) (fun c_90 => ?_)
        · refine lv_iload_n hx hb dX2_carryOut_52 rfl (lv_at hl 2 rfl) ?_
          refine lv_if_ne (tgt := 71) hx hb dX2_carryOut_53 (by decide) (fun c_91 => ?_) (fun c_91 => ?_)
          · refine lv_aload_n hx hb dX2_carryOut_71 rfl (lv_at hl 1 rfl) ?_
            refine lv_iload_n hx hb dX2_carryOut_72 rfl (lv_at hl 2 rfl) ?_
            refine z_putN S kX0 hK hM hS he_87 5 (by decide) kw_88 rfl rfl rfl (Nat.le_of_ble_eq_true rfl) dX2_carryOut_73 (fun H locs hM hS => ?_)
            obtain ⟨M_92, eM_93⟩ : ∃ z : zMap, z = zu M_85 it (.inr (0, [.int ty, .long bc, .int dg, .int hm, .int pl, .int kind, .int fl, .int (ow + (fe ty.toNatClampNeg)), .int wb, va_rf fi])) := ⟨_, rfl⟩
            replace hM : zM A G M_92 H := by rw [eM_93]; exact hM
            have he_94 : M_92 it = some (.inr (0, [.int ty, .long bc, .int dg, .int hm, .int pl, .int kind, .int fl, .int (ow + (fe ty.toNatClampNeg)), .int wb, va_rf fi])) := by rw [eM_93]; exact zu_s _ _ _
            have he_95 := (show M_92 h0 = M_85 h0 by rw [eM_93]; exact zu_n (zne he_88 he_87 (by simp))).trans he_88
            have he_96 := (show M_92 fee = M_85 fee by rw [eM_93]; exact zu_n (zne he_89 he_87 (by simp))).trans he_89
            refine lv_aload_n hx hb dX2_carryOut_76 rfl (lv_at hl 1 rfl) ?_
            refine lv_iconst (v := -1) hx hb dX2_carryOut_77 (by decide) ?_
            refine z_putN S kX0 hK hM hS he_94 8 (by decide) kw_94 rfl rfl rfl (Nat.le_of_ble_eq_true rfl) dX2_carryOut_78 (fun H locs hM hS => ?_)
            obtain ⟨M_97, eM_98⟩ : ∃ z : zMap, z = zu M_92 it (.inr (0, [.int ty, .long bc, .int dg, .int hm, .int pl, .int kind, .int fl, .int (ow + (fe ty.toNatClampNeg)), .int (-1), va_rf fi])) := ⟨_, rfl⟩
            replace hM : zM A G M_97 H := by rw [eM_98]; exact hM
            have he_99 : M_97 it = some (.inr (0, [.int ty, .long bc, .int dg, .int hm, .int pl, .int kind, .int fl, .int (ow + (fe ty.toNatClampNeg)), .int (-1), va_rf fi])) := by rw [eM_98]; exact zu_s _ _ _
            have he_100 := (show M_97 h0 = M_92 h0 by rw [eM_98]; exact zu_n (zne he_95 he_94 (by simp))).trans he_95
            have he_101 := (show M_97 fee = M_92 fee by rw [eM_98]; exact zu_n (zne he_96 he_94 (by simp))).trans he_96
            exact z_vret S hr hlocks hM hS ⟨rfl, by simp only [eM_98, eM_93, eM_86, zu_u]; simp [zCo, zTy, c_1, c_56, c_72, c_90, c_91]⟩ (Nat.le_of_ble_eq_true rfl) (Nat.le_of_ble_eq_true rfl) dX2_carryOut_81
          · exact absurd (c_1.symm.trans c_91) (by decide)
        · exact absurd (c_1.symm.trans c_90) (by decide)
