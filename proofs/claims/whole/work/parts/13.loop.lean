set_option maxHeartbeats 4000000 in
set_option maxRecDepth 100000 in
theorem c_X2_check (l : Launch) (A : Nat → Prop) (G : zG) (M : zMap) (h0 : Nat) (number : Int64) (digits : Int32) : zMet l yX2_check cX2_check 9 (some .int) { frames := 1, cells := 0, slots := 0, locals := 40 } [.ref h0, .long number, .int digits] A G M (fun r M1 => r = some (.int (zchk number digits)) ∧ M1 = M) := by
  refine zMet.of (by decide) (Nat.le_of_ble_eq_true rfl) ?_
  intro p e s m args below meth c ls S hr hlocks hnm hK hM hA hS hl
  have hl : lv_has ls 9 [(0, .ref h0), (1, .long number), (3, .int digits)] := hl
  have hx := S.1
  have hb := S.2.1
  have hown := S.2.2.2.1
  have hts := S.2.2.2.2
  have hr : meth.sig.returnType = some .int := hr
  refine lv_lload_n hx hb dX2_check_0 rfl (lv_at hl 1 rfl) ?_
  refine lv_lconst (v := 0) hx hb dX2_check_1 (by decide) ?_
  refine W.lcmp hx hb dX2_check_2 ?_
  refine lv_if_lt (tgt := 17) hx hb dX2_check_3 (by decide) (fun c_1 => ?_) (fun c_1 => ?_)
  · rw [lg_cmp_lt] at c_1
    refine lv_iconst (v := -1) hx hb dX2_check_17 (by decide) ?_
    exact z_iret S hr hlocks hM hS ⟨by unfold zchk; rw [if_pos (Or.inl c_1)], rfl⟩ (Nat.le_of_ble_eq_true rfl) (Nat.le_of_ble_eq_true rfl) dX2_check_18
  · rw [lg_cmp_lt] at c_1
    have hc0 := c_1
    refine lv_iload_n hx hb dX2_check_6 rfl (lv_at hl 2 rfl) ?_
    refine lv_iconst (v := 1) hx hb dX2_check_7 (by decide) ?_
    refine lv_icmp_lt (tgt := 17) hx hb dX2_check_8 (by decide) (fun c_2 => ?_) (fun c_2 => ?_)
    · refine lv_iconst (v := -1) hx hb dX2_check_17 (by decide) ?_
      exact z_iret S hr hlocks hM hS ⟨by unfold zchk; rw [if_pos (Or.inr (Or.inl c_2))], rfl⟩ (Nat.le_of_ble_eq_true rfl) (Nat.le_of_ble_eq_true rfl) dX2_check_18
    · refine lv_iload_n hx hb dX2_check_11 rfl (lv_at hl 2 rfl) ?_
      refine lv_bipush (v := 12) hx hb dX2_check_12 (by decide) ?_
      refine lv_icmp_le (tgt := 19) hx hb dX2_check_14 (by decide) (fun c_3 => ?_) (fun c_3 => ?_)
      · refine lv_lload_n hx hb dX2_check_19 rfl (lv_at hl 1 rfl) ?_
        refine lv_lstore (lv' := [(4, .long number), (0, .ref h0), (1, .long number), (3, .int digits)]) hx hb dX2_check_20 hl (by decide) rfl (fun ls hl => ?_)
        refine lv_iconst (v := 0) hx hb dX2_check_22 (by decide) ?_
        refine lv_istore (lv' := [(6, .int 0), (4, .long number), (0, .ref h0), (1, .long number), (3, .int digits)]) hx hb dX2_check_23 hl (by decide) rfl (fun ls hl => ?_)
        refine lv_iconst (v := 0) hx hb dX2_check_25 (by decide) ?_
        refine lv_istore (lv' := [(7, .int 0), (6, .int 0), (4, .long number), (0, .ref h0), (1, .long number), (3, .int digits)]) hx hb dX2_check_26 hl (by decide) rfl (fun ls hl => ?_)
        obtain ⟨K, hK1, hK2, rfl⟩ := z112 c_2 c_3
        refine z_loop (fun (k : Nat) ls H' locs' => k ≤ K ∧ lv_has ls 9 [(7, .int (nI k)), (6, .int (zcS number k)), (4, .long (zcR number k)), (0, .ref h0), (1, .long number), (3, .int (nI K))] ∧ zM A G M H' ∧ va_S A s.heap H' locs') (fun k => K - k) 0 ⟨Nat.zero_le _, hl, hM, hS⟩ ?_
        rintro k ls H locs ⟨hk, hl, hM, hS⟩ ih
        refine lv_iload hx hb dX2_check_28 (lv_at hl 0 rfl) ?_
        refine lv_iload_n hx hb dX2_check_30 rfl (lv_at hl 5 rfl) ?_
        refine lv_icmp_ge (tgt := 79) hx hb dX2_check_31 (by decide) (fun c_4 => ?_) (fun c_4 => ?_)
        · have hkK : k = K := by have := (nI_leI (by omega) (by omega)).mp c_4; omega
          subst hkK
          refine lv_lload hx hb dX2_check_79 (lv_at hl 2 rfl) ?_
          refine lv_lconst (v := 0) hx hb dX2_check_81 (by decide) ?_
          refine W.lcmp hx hb dX2_check_82 ?_
          refine lv_if_eq (tgt := 88) hx hb dX2_check_83 (by decide) (fun c_5 => ?_) (fun c_5 => ?_)
          · rw [lg_cmp_eq] at c_5
            refine lv_bipush (v := 10) hx hb dX2_check_88 (by decide) ?_
            refine lv_iload hx hb dX2_check_90 (lv_at hl 1 rfl) ?_
            refine lv_bipush (v := 10) hx hb dX2_check_92 (by decide) ?_
            refine lv_irem hx hb dX2_check_94 (by decide) ?_
            refine lv_isub hx hb dX2_check_95 ?_
            refine lv_bipush (v := 10) hx hb dX2_check_96 (by decide) ?_
            refine lv_irem hx hb dX2_check_98 (by decide) ?_
            exact z_iret S hr hlocks hM hS ⟨by rw [zchk_in hc0 hK1 hK2, if_pos c_5], rfl⟩ (Nat.le_of_ble_eq_true rfl) (Nat.le_of_ble_eq_true rfl) dX2_check_99
          · rw [lg_cmp_eq] at c_5
            refine lv_iconst (v := -1) hx hb dX2_check_86 (by decide) ?_
            exact z_iret S hr hlocks hM hS ⟨by rw [zchk_in hc0 hK1 hK2, if_neg c_5], rfl⟩ (Nat.le_of_ble_eq_true rfl) (Nat.le_of_ble_eq_true rfl) dX2_check_87
        · have hkK : k < K := Nat.lt_of_not_le (fun q => c_4 (nI_le q (by omega)))
          refine lv_lload hx hb dX2_check_34 (lv_at hl 2 rfl) ?_
          refine lv_ldc2 (v := 10) hx hb hown (hts _ kw_41) dX2_check_36 ?_
          refine lv_lrem hx hb dX2_check_39 (by decide) ?_
          refine lv_l2i (v := ((zcR number k) - (zcR number k) / 10 * 10).toInt32) hx hb dX2_check_40 rfl ?_
          refine lv_istore (lv' := [(8, .int (((zcR number k) - (zcR number k) / 10 * 10).toInt32)), (7, .int (nI k)), (6, .int (zcS number k)), (4, .long (zcR number k)), (0, .ref h0), (1, .long number), (3, .int (nI K))]) hx hb dX2_check_41 hl (by decide) rfl (fun ls hl => ?_)
          refine lv_iload hx hb dX2_check_43 (lv_at hl 2 rfl) ?_
          refine lv_iload hx hb dX2_check_45 (lv_at hl 1 rfl) ?_
          refine lv_iconst (v := 2) hx hb dX2_check_47 (by decide) ?_
          refine lv_irem hx hb dX2_check_48 (by decide) ?_
          refine lv_if_ne (tgt := 60) hx hb dX2_check_49 (by decide) (fun c_6 => ?_) (fun c_6 => ?_)
          · rw [zpar (by omega)] at c_6
            have hpar := c_6
            refine lv_iload hx hb dX2_check_60 (lv_at hl 0 rfl) ?_
            refine lv_iadd hx hb dX2_check_62 ?_
            refine lv_istore (lv' := [(6, .int ((zcS number k) + (((zcR number k) - (zcR number k) / 10 * 10).toInt32))), (8, .int (((zcR number k) - (zcR number k) / 10 * 10).toInt32)), (7, .int (nI k)), (4, .long (zcR number k)), (0, .ref h0), (1, .long number), (3, .int (nI K))]) hx hb dX2_check_63 hl (by decide) rfl (fun ls hl => ?_)
            refine lv_lload hx hb dX2_check_65 (lv_at hl 3 rfl) ?_
            refine lv_ldc2 (v := 10) hx hb hown (hts _ kw_41) dX2_check_67 ?_
            refine lv_ldiv hx hb dX2_check_70 (by decide) ?_
            refine lv_lstore (lv' := [(4, .long ((zcR number k) / 10)), (6, .int ((zcS number k) + (((zcR number k) - (zcR number k) / 10 * 10).toInt32))), (8, .int (((zcR number k) - (zcR number k) / 10 * 10).toInt32)), (7, .int (nI k)), (0, .ref h0), (1, .long number), (3, .int (nI K))]) hx hb dX2_check_71 hl (by decide) rfl (fun ls hl => ?_)
            refine lv_iinc (v := (nI k) + 1) (lv' := [(7, .int ((nI k) + 1)), (4, .long ((zcR number k) / 10)), (6, .int ((zcS number k) + (((zcR number k) - (zcR number k) / 10 * 10).toInt32))), (8, .int (((zcR number k) - (zcR number k) / 10 * 10).toInt32)), (0, .ref h0), (1, .long number), (3, .int (nI K))]) hx hb dX2_check_73 hl (k := 3) rfl rfl (by decide) rfl (fun ls hl => ?_)
            refine lv_goto (tgt := 28) hx hb dX2_check_76 (by decide) ?_
            exact ih (k + 1) ls _ _ ⟨by omega, by
              have h7 := lv_sub hl [0, 2, 1, 4, 5, 6] rfl
              rw [← nI_1, zcR, zcS, if_neg hpar]
              exact h7, hM, hS⟩ (by omega)
          · rw [zpar (by omega)] at c_6
            have hpar := c_6
            refine lv_iload hx hb dX2_check_52 (lv_at hl 0 rfl) ?_
            refine z_callS (As := [.int (((zcR number k) - (zcR number k) / 10 * 10).toInt32)]) (rest := [.int (zcS number k)]) S (c_X2_doubled l A G M (((zcR number k) - (zcR number k) / 10 * 10).toInt32)) ok_X2_doubled kw_42 kw_43 ⟨Nat.le_of_ble_eq_true rfl, Nat.le_of_ble_eq_true rfl⟩ hK hM hS hA rfl hl.1 rfl (Nat.le_of_ble_eq_true rfl) dX2_check_54 ⟨Nat.le_of_ble_eq_true rfl, Nat.le_of_ble_eq_true rfl⟩ (fun r_9 M_7 H locs hp_8 hM hS => ?_)
            obtain ⟨rfl, hM9⟩ := hp_8
            rw [hM9] at hM
            refine W.eq (g2 := F0 m 57 ls [.int (zdb (((zcR number k) - (zcR number k) / 10 * 10).toInt32)), .int (zcS number k)]) rfl ?_
            refine lv_goto (tgt := 62) hx hb dX2_check_57 (by decide) ?_
            refine lv_iadd hx hb dX2_check_62 ?_
            refine lv_istore (lv' := [(6, .int ((zcS number k) + (zdb (((zcR number k) - (zcR number k) / 10 * 10).toInt32)))), (8, .int (((zcR number k) - (zcR number k) / 10 * 10).toInt32)), (7, .int (nI k)), (4, .long (zcR number k)), (0, .ref h0), (1, .long number), (3, .int (nI K))]) hx hb dX2_check_63 hl (by decide) rfl (fun ls hl => ?_)
            refine lv_lload hx hb dX2_check_65 (lv_at hl 3 rfl) ?_
            refine lv_ldc2 (v := 10) hx hb hown (hts _ kw_41) dX2_check_67 ?_
            refine lv_ldiv hx hb dX2_check_70 (by decide) ?_
            refine lv_lstore (lv' := [(4, .long ((zcR number k) / 10)), (6, .int ((zcS number k) + (zdb (((zcR number k) - (zcR number k) / 10 * 10).toInt32)))), (8, .int (((zcR number k) - (zcR number k) / 10 * 10).toInt32)), (7, .int (nI k)), (0, .ref h0), (1, .long number), (3, .int (nI K))]) hx hb dX2_check_71 hl (by decide) rfl (fun ls hl => ?_)
            refine lv_iinc (v := (nI k) + 1) (lv' := [(7, .int ((nI k) + 1)), (4, .long ((zcR number k) / 10)), (6, .int ((zcS number k) + (zdb (((zcR number k) - (zcR number k) / 10 * 10).toInt32)))), (8, .int (((zcR number k) - (zcR number k) / 10 * 10).toInt32)), (0, .ref h0), (1, .long number), (3, .int (nI K))]) hx hb dX2_check_73 hl (k := 3) rfl rfl (by decide) rfl (fun ls hl => ?_)
            refine lv_goto (tgt := 28) hx hb dX2_check_76 (by decide) ?_
            exact ih (k + 1) ls _ _ ⟨by omega, by
              have h7 := lv_sub hl [0, 2, 1, 4, 5, 6] rfl
              rw [← nI_1, zcR, zcS, if_pos hpar]
              exact h7, hM, hS⟩ (by omega)
      · refine lv_iconst (v := -1) hx hb dX2_check_17 (by decide) ?_
        exact z_iret S hr hlocks hM hS ⟨by unfold zchk; rw [if_pos (Or.inr (Or.inr (Int32.not_le.mp c_3)))], rfl⟩ (Nat.le_of_ble_eq_true rfl) (Nat.le_of_ble_eq_true rfl) dX2_check_18
set_option maxHeartbeats 4000000 in
set_option maxRecDepth 100000 in
theorem c_X2_isBarcode (l : Launch) (A : Nat → Prop) (G : zG) (M : zMap) (h0 cps : Nat) (n : Int32) (den fee : Nat) (gd : Int64) (ec : Int32) (b : Int64) (dg : Int32) (h : M h0 = some (oI cps n den fee gd ec)) : zMet l yX2_isBarcode cX2_isBarcode 4 (some .boolean) { frames := 2, cells := 0, slots := 0, locals := 80 } [.ref h0, .long b, .int dg] A G M (fun r M1 => r = some (.int (zb (zBc b dg))) ∧ M1 = M) := by
  refine zMet.of (by decide) (Nat.le_of_ble_eq_true rfl) ?_
  intro p e s m args below meth c ls S hr hlocks hnm hK hM hA hS hl
  have hl : lv_has ls 4 [(0, .ref h0), (1, .long b), (3, .int dg)] := hl
  have hx := S.1
  have hb := S.2.1
  have hown := S.2.2.2.1
  have hts := S.2.2.2.2
  have hr : meth.sig.returnType = some .boolean := hr
  refine lv_lload_n hx hb dX2_isBarcode_0 rfl (lv_at hl 1 rfl) ?_
  refine lv_lconst (v := 0) hx hb dX2_isBarcode_1 (by decide) ?_
  refine W.lcmp hx hb dX2_isBarcode_2 ?_
  refine lv_if_lt (tgt := 29) hx hb dX2_isBarcode_3 (by decide) (fun c_1 => ?_) (fun c_1 => ?_)
  · rw [lg_cmp_lt] at c_1
    refine lv_iconst (v := 0) hx hb dX2_isBarcode_29 (by decide) ?_
    exact z_zret S hr hlocks (by decide) hM hS ⟨by rw [zb_f (fun q => q.1 c_1)], rfl⟩ (Nat.le_of_ble_eq_true rfl) (Nat.le_of_ble_eq_true rfl) dX2_isBarcode_30
  · rw [lg_cmp_lt] at c_1
    refine lv_aload_n hx hb dX2_isBarcode_6 rfl (lv_at hl 0 rfl) ?_
    refine lv_lload_n hx hb dX2_isBarcode_7 rfl (lv_at hl 1 rfl) ?_
    refine lv_ldc2 (v := 10) hx hb hown (hts _ kw_41) dX2_isBarcode_8 ?_
    refine lv_ldiv hx hb dX2_isBarcode_11 (by decide) ?_
    refine lv_iload_n hx hb dX2_isBarcode_12 rfl (lv_at hl 2 rfl) ?_
    refine z_callV (As := [.long (b / 10), .int dg]) (rest := []) S (c_X2_check l A G M h0 (b / 10) dg) ok_X2_check kw_59 kw_38 kw_39 ⟨Nat.le_of_ble_eq_true rfl, Nat.le_of_ble_eq_true rfl⟩ hK hM hS hA h rfl rfl hl.1 rfl (Nat.le_of_ble_eq_true rfl) dX2_isBarcode_13 ⟨Nat.le_of_ble_eq_true rfl, Nat.le_of_ble_eq_true rfl⟩ (fun r_4 M_2 H locs hp_3 hM hS => ?_)
    obtain ⟨rfl, hM9⟩ := hp_3
    rw [hM9] at hM
    refine W.eq (g2 := F0 m 16 ls [.int (zchk (b / 10) dg)]) rfl ?_
    refine lv_lload_n hx hb dX2_isBarcode_16 rfl (lv_at hl 1 rfl) ?_
    refine lv_ldc2 (v := 10) hx hb hown (hts _ kw_41) dX2_isBarcode_17 ?_
    refine lv_lrem hx hb dX2_isBarcode_20 (by decide) ?_
    refine lv_l2i (v := (b - b / 10 * 10).toInt32) hx hb dX2_isBarcode_21 rfl ?_
    refine lv_icmp_ne (tgt := 29) hx hb dX2_isBarcode_22 (by decide) (fun c_5 => ?_) (fun c_5 => ?_)
    · refine lv_iconst (v := 0) hx hb dX2_isBarcode_29 (by decide) ?_
      exact z_zret S hr hlocks (by decide) hM hS ⟨by rw [zb_f (fun q => c_5 q.2)], rfl⟩ (Nat.le_of_ble_eq_true rfl) (Nat.le_of_ble_eq_true rfl) dX2_isBarcode_30
    · refine lv_iconst (v := 1) hx hb dX2_isBarcode_25 (by decide) ?_
      refine lv_goto (tgt := 30) hx hb dX2_isBarcode_26 (by decide) ?_
      exact z_zret S hr hlocks (by decide) hM hS ⟨by rw [zb_t ⟨c_1, c_5⟩], rfl⟩ (Nat.le_of_ble_eq_true rfl) (Nat.le_of_ble_eq_true rfl) dX2_isBarcode_30
set_option maxHeartbeats 4000000 in
set_option maxRecDepth 100000 in
theorem c_X2_isTaken (l : Launch) (A : Nat → Prop) (G : zG) (M : zMap) (h0 cps den fee N : Nat) (ca : Nat → Nat) (cv : Nat → zCV) (ch : Nat → List (Nat × zEV)) (dn fe : Nat → Int32) (gd : Int64) (ec : Nat) (b : Int64) (dg : Int32) (hI : zI G M h0 cps den fee N ca cv ch dn fe gd ec) : zMet l yX2_isTaken cX2_isTaken 6 (some .boolean) { frames := 1, cells := 0, slots := 0, locals := 40 } [.ref h0, .long b, .int dg] A G M (fun r M1 => r = some (.int (zb (zTk N cv b dg))) ∧ M1 = M) := by
  refine zMet.of (by decide) (Nat.le_of_ble_eq_true rfl) ?_
  intro p e s m args below meth c ls S hr hlocks hnm hK hM hA hS hl
  have hl : lv_has ls 6 [(0, .ref h0), (1, .long b), (3, .int dg)] := hl
  have hx := S.1
  have hb := S.2.1
  have hown := S.2.2.2.1
  have hts := S.2.2.2.2
  have hr : meth.sig.returnType = some .boolean := hr
  obtain ⟨h, hc, hd, hf, hdf, hN, hcp, hsep⟩ := id hI
  refine lv_iconst (v := 1) hx hb dX2_isTaken_0 (by decide) ?_
  refine lv_istore (lv' := [(4, .int 1), (0, .ref h0), (1, .long b), (3, .int dg)]) hx hb dX2_isTaken_1 hl (by decide) rfl (fun ls hl => ?_)
  refine z_loop (fun (t : Nat) ls H' locs' => t ≤ N ∧ lv_has ls 6 [(4, .int (nI (t + 1))), (0, .ref h0), (1, .long b), (3, .int dg)] ∧ (∀ i, i < t → ¬ ((cv i).2.1 = b ∧ (cv i).2.2.1 = dg)) ∧ zM A G M H' ∧ va_S A s.heap H' locs') (fun t => N - t) 0 ⟨Nat.zero_le _, hl, fun i hi => absurd hi (Nat.not_lt_zero i), hM, hS⟩ ?_
  rintro t ls H locs ⟨htN0, hl, hno, hM, hS⟩ ih
  refine lv_iload hx hb dX2_isTaken_3 (lv_at hl 0 rfl) ?_
  refine lv_aload_n hx hb dX2_isTaken_5 rfl (lv_at hl 1 rfl) ?_
  refine z_get (v := .int (nI N)) S kX2 hK hM h 1 (by decide) kw_17 rfl dX2_isTaken_6 ?_
  refine lv_icmp_gt (tgt := 52) hx hb dX2_isTaken_9 (by decide) (fun c_1 => ?_) (fun c_1 => ?_)
  · have htN : t = N := by have := (nI_ltI (by omega) (by omega)).mp c_1; omega
    refine lv_iconst (v := 0) hx hb dX2_isTaken_52 (by decide) ?_
    exact z_zret S hr hlocks (by decide) hM hS ⟨by rw [zb_f (fun q => by obtain ⟨i, hi, hm⟩ := q; exact hno i (by omega) hm)], rfl⟩ (Nat.le_of_ble_eq_true rfl) (Nat.le_of_ble_eq_true rfl) dX2_isTaken_53
  · have ht : t < N := Nat.lt_of_not_le (fun q => c_1 ((nI_ltI (by omega) (by omega)).mpr (by omega)))
    refine lv_aload_n hx hb dX2_isTaken_12 rfl (lv_at hl 1 rfl) ?_
    refine lv_iload hx hb dX2_isTaken_13 (lv_at hl 0 rfl) ?_
    refine z_callV (As := [.int (nI (t + 1))]) (rest := []) S (c_X2_find l A G M h0 cps (nI N) den fee gd (nI ec) (zF N ca) (nI (t + 1)) h hc) ok_X2_find kw_64 kw_66 ks_2 ⟨Nat.le_of_ble_eq_true rfl, Nat.le_of_ble_eq_true rfl⟩ hK hM hS hA h rfl rfl hl.1 rfl (Nat.le_of_ble_eq_true rfl) dX2_isTaken_15 ⟨Nat.le_of_ble_eq_true rfl, Nat.le_of_ble_eq_true rfl⟩ (fun r_4 M_2 H locs hp_3 hM hS => ?_)
    obtain ⟨rfl, hM9⟩ := hp_3
    rw [hM9] at hM
    rw [zFi_eq hN, zIx_of hN ht]
    refine W.eq (g2 := F0 m 18 ls [.ref (ca t)]) rfl ?_
    have hct := (hcp t ht).1
    refine lv_astore (lv' := [(5, .ref (ca t)), (4, .int (nI (t + 1))), (0, .ref h0), (1, .long b), (3, .int dg)]) hx hb dX2_isTaken_18 hl (by decide) rfl (fun ls hl => ?_)
    refine lv_aload hx hb dX2_isTaken_20 (lv_at hl 0 rfl) ?_
    refine lv_ifnull hx hb dX2_isTaken_22 ?_
    refine lv_aload hx hb dX2_isTaken_25 (lv_at hl 0 rfl) ?_
    refine z_getN (v := .long ((cv t).2.1)) S kX0 hK hM hct 1 (by decide) kw_80 rfl dX2_isTaken_27 ?_
    refine lv_lload_n hx hb dX2_isTaken_30 rfl (lv_at hl 3 rfl) ?_
    refine W.lcmp hx hb dX2_isTaken_31 ?_
    refine lv_if_ne (tgt := 46) hx hb dX2_isTaken_32 (by decide) (fun c_5 => ?_) (fun c_5 => ?_)
    · rw [lg_cmp_eq] at c_5
      refine lv_iinc (v := (nI (t + 1)) + 1) (lv' := [(4, .int ((nI (t + 1)) + 1)), (5, .ref (ca t)), (0, .ref h0), (1, .long b), (3, .int dg)]) hx hb dX2_isTaken_46 hl (k := 1) rfl rfl (by decide) rfl (fun ls hl => ?_)
      refine lv_goto (tgt := 3) hx hb dX2_isTaken_49 (by decide) ?_
      exact ih (t + 1) ls _ _ ⟨by omega, by
        have h7 := lv_sub hl [0, 2, 3, 4] rfl
        rw [← nI_1 (t + 1)]
        exact h7, fun i hi hm => by
          rcases Nat.lt_succ_iff_lt_or_eq.mp hi with h6 | h6
          · exact hno i h6 hm
          · subst h6; exact c_5 hm.1, hM, hS⟩ (by omega)
    · rw [lg_cmp_eq] at c_5
      refine lv_aload hx hb dX2_isTaken_35 (lv_at hl 0 rfl) ?_
      refine z_getN (v := .int ((cv t).2.2.1)) S kX0 hK hM hct 2 (by decide) kw_82 rfl dX2_isTaken_37 ?_
      refine lv_iload_n hx hb dX2_isTaken_40 rfl (lv_at hl 4 rfl) ?_
      refine lv_icmp_ne (tgt := 46) hx hb dX2_isTaken_41 (by decide) (fun c_6 => ?_) (fun c_6 => ?_)
      · refine lv_iinc (v := (nI (t + 1)) + 1) (lv' := [(4, .int ((nI (t + 1)) + 1)), (5, .ref (ca t)), (0, .ref h0), (1, .long b), (3, .int dg)]) hx hb dX2_isTaken_46 hl (k := 1) rfl rfl (by decide) rfl (fun ls hl => ?_)
        refine lv_goto (tgt := 3) hx hb dX2_isTaken_49 (by decide) ?_
        exact ih (t + 1) ls _ _ ⟨by omega, by
          have h7 := lv_sub hl [0, 2, 3, 4] rfl
          rw [← nI_1 (t + 1)]
          exact h7, fun i hi hm => by
            rcases Nat.lt_succ_iff_lt_or_eq.mp hi with h6 | h6
            · exact hno i h6 hm
            · subst h6; exact c_6 hm.2, hM, hS⟩ (by omega)
      · refine lv_iconst (v := 1) hx hb dX2_isTaken_44 (by decide) ?_
        exact z_zret S hr hlocks (by decide) hM hS ⟨by rw [zb_t ⟨t, ht, c_5, c_6⟩], rfl⟩ (Nat.le_of_ble_eq_true rfl) (Nat.le_of_ble_eq_true rfl) dX2_isTaken_45
set_option maxHeartbeats 4000000 in
set_option maxRecDepth 100000 in
theorem c_X2_count (l : Launch) (A : Nat → Prop) (G : zG) (M : zMap) (h0 cps den fee N : Nat) (ca : Nat → Nat) (cv : Nat → zCV) (ch : Nat → List (Nat × zEV)) (dn fe : Nat → Int32) (gd : Int64) (ec : Nat) (sta hom : Int32) (hI : zI G M h0 cps den fee N ca cv ch dn fe gd ec) : zMet l yX2_count cX2_count 6 (some .int) { frames := 1, cells := 0, slots := 0, locals := 40 } [.ref h0, .int sta, .int hom] A G M (fun r M1 => r = some (.int (zCt cv sta hom N)) ∧ M1 = M) := by
  refine zMet.of (by decide) (Nat.le_of_ble_eq_true rfl) ?_
  intro p e s m args below meth c ls S hr hlocks hnm hK hM hA hS hl
  have hl : lv_has ls 6 [(0, .ref h0), (1, .int sta), (2, .int hom)] := hl
  have hx := S.1
  have hb := S.2.1
  have hown := S.2.2.2.1
  have hts := S.2.2.2.2
  have hr : meth.sig.returnType = some .int := hr
  obtain ⟨h, hc, hd, hf, hdf, hN, hcp, hsep⟩ := id hI
  refine lv_iconst (v := 0) hx hb dX2_count_0 (by decide) ?_
  refine lv_istore_n (lv' := [(3, .int 0), (0, .ref h0), (1, .int sta), (2, .int hom)]) hx hb dX2_count_1 rfl hl (by decide) rfl (fun ls hl => ?_)
  refine lv_iconst (v := 1) hx hb dX2_count_2 (by decide) ?_
  refine lv_istore (lv' := [(4, .int 1), (3, .int 0), (0, .ref h0), (1, .int sta), (2, .int hom)]) hx hb dX2_count_3 hl (by decide) rfl (fun ls hl => ?_)
  refine z_loop (fun (t : Nat) ls H' locs' => t ≤ N ∧ lv_has ls 6 [(3, .int (zCt cv sta hom t)), (4, .int (nI (t + 1))), (0, .ref h0), (1, .int sta), (2, .int hom)] ∧ zM A G M H' ∧ va_S A s.heap H' locs') (fun t => N - t) 0 ⟨Nat.zero_le _, lv_sub hl [1, 0, 2, 3, 4] rfl, hM, hS⟩ ?_
  rintro t ls H locs ⟨htN0, hl, hM, hS⟩ ih
  refine lv_iload hx hb dX2_count_5 (lv_at hl 1 rfl) ?_
  refine lv_aload_n hx hb dX2_count_7 rfl (lv_at hl 2 rfl) ?_
  refine z_get (v := .int (nI N)) S kX2 hK hM h 1 (by decide) kw_17 rfl dX2_count_8 ?_
  refine lv_icmp_gt (tgt := 59) hx hb dX2_count_11 (by decide) (fun c_1 => ?_) (fun c_1 => ?_)
  · have htN : t = N := by have := (nI_ltI (by omega) (by omega)).mp c_1; omega
    refine lv_iload_n hx hb dX2_count_59 rfl (lv_at hl 0 rfl) ?_
    exact z_iret S hr hlocks hM hS ⟨by rw [htN], rfl⟩ (Nat.le_of_ble_eq_true rfl) (Nat.le_of_ble_eq_true rfl) dX2_count_60
  · have ht : t < N := Nat.lt_of_not_le (fun q => c_1 ((nI_ltI (by omega) (by omega)).mpr (by omega)))
    refine lv_aload_n hx hb dX2_count_14 rfl (lv_at hl 2 rfl) ?_
    refine lv_iload hx hb dX2_count_15 (lv_at hl 1 rfl) ?_
    refine z_callV (As := [.int (nI (t + 1))]) (rest := []) S (c_X2_find l A G M h0 cps (nI N) den fee gd (nI ec) (zF N ca) (nI (t + 1)) h hc) ok_X2_find kw_64 kw_66 ks_2 ⟨Nat.le_of_ble_eq_true rfl, Nat.le_of_ble_eq_true rfl⟩ hK hM hS hA h rfl rfl hl.1 rfl (Nat.le_of_ble_eq_true rfl) dX2_count_17 ⟨Nat.le_of_ble_eq_true rfl, Nat.le_of_ble_eq_true rfl⟩ (fun r_4 M_2 H locs hp_3 hM hS => ?_)
    obtain ⟨rfl, hM9⟩ := hp_3
    rw [hM9] at hM
    rw [zFi_eq hN, zIx_of hN ht]
    refine W.eq (g2 := F0 m 20 ls [.ref (ca t)]) rfl ?_
    have hct := (hcp t ht).1
    refine lv_astore (lv' := [(5, .ref (ca t)), (3, .int (zCt cv sta hom t)), (4, .int (nI (t + 1))), (0, .ref h0), (1, .int sta), (2, .int hom)]) hx hb dX2_count_20 hl (by decide) rfl (fun ls hl => ?_)
    refine lv_aload hx hb dX2_count_22 (lv_at hl 0 rfl) ?_
    refine lv_ifnull hx hb dX2_count_24 ?_
    refine lv_aload hx hb dX2_count_27 (lv_at hl 0 rfl) ?_
    refine z_getN (v := .int ((cv t).2.2.2.2.2.1)) S kX0 hK hM hct 5 (by decide) kw_88 rfl dX2_count_29 ?_
    refine lv_iload_n hx hb dX2_count_32 rfl (lv_at hl 4 rfl) ?_
    refine lv_icmp_ne (tgt := 53) hx hb dX2_count_33 (by decide) (fun c_5 => ?_) (fun c_5 => ?_)
    · refine lv_iinc (v := (nI (t + 1)) + 1) (lv' := [(4, .int ((nI (t + 1)) + 1)), (5, .ref (ca t)), (3, .int (zCt cv sta hom t)), (0, .ref h0), (1, .int sta), (2, .int hom)]) hx hb dX2_count_53 hl (k := 2) rfl rfl (by decide) rfl (fun ls hl => ?_)
      refine lv_goto (tgt := 5) hx hb dX2_count_56 (by decide) ?_
      exact ih (t + 1) ls _ _ ⟨by omega, by
        have h7 := lv_sub hl [2, 0, 3, 4, 5] rfl
        rw [← nI_1 (t + 1), zCt, if_neg (fun q => c_5 q.1), Int32.add_zero]
        exact h7, hM, hS⟩ (by omega)
    · refine lv_iload_n hx hb dX2_count_36 rfl (lv_at hl 5 rfl) ?_
      refine lv_iconst (v := -1) hx hb dX2_count_37 (by decide) ?_
      refine lv_icmp_eq (tgt := 50) hx hb dX2_count_38 (by decide) (fun c_6 => ?_) (fun c_6 => ?_)
      · refine lv_iinc (v := (zCt cv sta hom t) + 1) (lv' := [(3, .int ((zCt cv sta hom t) + 1)), (5, .ref (ca t)), (4, .int (nI (t + 1))), (0, .ref h0), (1, .int sta), (2, .int hom)]) hx hb dX2_count_50 hl (k := 1) rfl rfl (by decide) rfl (fun ls hl => ?_)
        refine lv_iinc (v := (nI (t + 1)) + 1) (lv' := [(4, .int ((nI (t + 1)) + 1)), (3, .int ((zCt cv sta hom t) + 1)), (5, .ref (ca t)), (0, .ref h0), (1, .int sta), (2, .int hom)]) hx hb dX2_count_53 hl (k := 2) rfl rfl (by decide) rfl (fun ls hl => ?_)
        refine lv_goto (tgt := 5) hx hb dX2_count_56 (by decide) ?_
        exact ih (t + 1) ls _ _ ⟨by omega, by
          have h7 := lv_sub hl [1, 0, 3, 4, 5] rfl
          rw [← nI_1 (t + 1), zCt, if_pos ⟨c_5, Or.inl c_6⟩]
          exact h7, hM, hS⟩ (by omega)
      · refine lv_aload hx hb dX2_count_41 (lv_at hl 0 rfl) ?_
        refine z_getN (v := .int ((cv t).2.2.2.1)) S kX0 hK hM hct 3 (by decide) kw_84 rfl dX2_count_43 ?_
        refine lv_iload_n hx hb dX2_count_46 rfl (lv_at hl 5 rfl) ?_
        refine lv_icmp_ne (tgt := 53) hx hb dX2_count_47 (by decide) (fun c_7 => ?_) (fun c_7 => ?_)
        · refine lv_iinc (v := (nI (t + 1)) + 1) (lv' := [(4, .int ((nI (t + 1)) + 1)), (5, .ref (ca t)), (3, .int (zCt cv sta hom t)), (0, .ref h0), (1, .int sta), (2, .int hom)]) hx hb dX2_count_53 hl (k := 2) rfl rfl (by decide) rfl (fun ls hl => ?_)
          refine lv_goto (tgt := 5) hx hb dX2_count_56 (by decide) ?_
          exact ih (t + 1) ls _ _ ⟨by omega, by
            have h7 := lv_sub hl [2, 0, 3, 4, 5] rfl
            rw [← nI_1 (t + 1), zCt, if_neg (fun q => q.2.elim c_6 c_7), Int32.add_zero]
            exact h7, hM, hS⟩ (by omega)
        · refine lv_iinc (v := (zCt cv sta hom t) + 1) (lv' := [(3, .int ((zCt cv sta hom t) + 1)), (5, .ref (ca t)), (4, .int (nI (t + 1))), (0, .ref h0), (1, .int sta), (2, .int hom)]) hx hb dX2_count_50 hl (k := 1) rfl rfl (by decide) rfl (fun ls hl => ?_)
          refine lv_iinc (v := (nI (t + 1)) + 1) (lv' := [(4, .int ((nI (t + 1)) + 1)), (3, .int ((zCt cv sta hom t) + 1)), (5, .ref (ca t)), (0, .ref h0), (1, .int sta), (2, .int hom)]) hx hb dX2_count_53 hl (k := 2) rfl rfl (by decide) rfl (fun ls hl => ?_)
          refine lv_goto (tgt := 5) hx hb dX2_count_56 (by decide) ?_
          exact ih (t + 1) ls _ _ ⟨by omega, by
            have h7 := lv_sub hl [1, 0, 3, 4, 5] rfl
            rw [← nI_1 (t + 1), zCt, if_pos ⟨c_5, Or.inr c_7⟩]
            exact h7, hM, hS⟩ (by omega)
set_option maxHeartbeats 4000000 in
set_option maxRecDepth 100000 in
theorem c_X2_history (l : Launch) (A : Nat → Prop) (G : zG) (M : zMap) (h0 cps den fee N : Nat) (ca : Nat → Nat) (cv : Nat → zCV) (ch : Nat → List (Nat × zEV)) (dn fe : Nat → Int32) (gd : Int64) (ec : Nat) (k i what : Int32) (hI : zI G M h0 cps den fee N ca cv ch dn fe gd ec) : zMet l yX2_history cX2_history 7 (some .int) { frames := 1, cells := 0, slots := 0, locals := 40 } [.ref h0, .int k, .int i, .int what] A G M (fun r M1 => r = some (.int (zsel N k (-1) (fun j => zHi (ch j) i what))) ∧ M1 = M) := by
  refine zMet.of (by decide) (Nat.le_of_ble_eq_true rfl) ?_
  intro p e s m args below meth c ls S hr hlocks hnm hK hM hA hS hl
  have hl : lv_has ls 7 [(0, .ref h0), (1, .int k), (2, .int i), (3, .int what)] := hl
  have hx := S.1
  have hb := S.2.1
  have hown := S.2.2.2.1
  have hts := S.2.2.2.2
  have hr : meth.sig.returnType = some .int := hr
  obtain ⟨h, hc, hd, hf, hdf, hN, hcp, hsep⟩ := id hI
  refine lv_aload_n hx hb dX2_history_0 rfl (lv_at hl 0 rfl) ?_
  refine lv_iload_n hx hb dX2_history_1 rfl (lv_at hl 1 rfl) ?_
  refine z_callV (As := [.int k]) (rest := []) S (c_X2_find l A G M h0 cps (nI N) den fee gd (nI ec) (zF N ca) k h hc) ok_X2_find kw_64 kw_66 ks_2 ⟨Nat.le_of_ble_eq_true rfl, Nat.le_of_ble_eq_true rfl⟩ hK hM hS hA h rfl rfl hl.1 rfl (Nat.le_of_ble_eq_true rfl) dX2_history_2 ⟨Nat.le_of_ble_eq_true rfl, Nat.le_of_ble_eq_true rfl⟩ (fun r_3 M_1 H locs hp_2 hM hS => ?_)
  obtain ⟨rfl, hM9⟩ := hp_2
  rw [hM9] at hM
  rw [zFi_eq hN]
  refine W.eq (g2 := F0 m 5 ls [va_rf ((zIx N k).map ca)]) rfl ?_
  rcases hz : zIx N k with _ | j
  · refine W.eq (g2 := F0 m 5 ls [.null]) rfl ?_
    refine lv_astoreN (lv' := [(4, .null), (0, .ref h0), (1, .int k), (2, .int i), (3, .int what)]) hx hb dX2_history_5 hl (by decide) rfl (fun ls hl => ?_)
    refine lv_aloadN hx hb dX2_history_7 (lv_at hl 0 rfl) ?_
    refine lv_ifnullN (tgt := 25) hx hb dX2_history_9 (by decide) ?_
    refine lv_iconst (v := -1) hx hb dX2_history_25 (by decide) ?_
    exact z_iret S hr hlocks hM hS ⟨by unfold zsel; rw [hz], rfl⟩ (Nat.le_of_ble_eq_true rfl) (Nat.le_of_ble_eq_true rfl) dX2_history_26
  · refine W.eq (g2 := F0 m 5 ls [.ref (ca j)]) rfl ?_
    have hj := (zIx_some hN hz).1
    have hcj := (hcp j hj).1
    refine lv_astore (lv' := [(4, .ref (ca j)), (0, .ref h0), (1, .int k), (2, .int i), (3, .int what)]) hx hb dX2_history_5 hl (by decide) rfl (fun ls hl => ?_)
    refine lv_aload hx hb dX2_history_7 (lv_at hl 0 rfl) ?_
    refine lv_ifnull hx hb dX2_history_9 ?_
    refine lv_iload_n hx hb dX2_history_12 rfl (lv_at hl 3 rfl) ?_
    refine lv_if_lt (tgt := 25) hx hb dX2_history_13 (by decide) (fun c_4 => ?_) (fun c_4 => ?_)
    · refine lv_iconst (v := -1) hx hb dX2_history_25 (by decide) ?_
      exact z_iret S hr hlocks hM hS ⟨by rw [zsel_s hz]; unfold zHi; rw [if_pos c_4], rfl⟩ (Nat.le_of_ble_eq_true rfl) (Nat.le_of_ble_eq_true rfl) dX2_history_26
    · refine lv_iload_n hx hb dX2_history_16 rfl (lv_at hl 4 rfl) ?_
      refine lv_if_lt (tgt := 25) hx hb dX2_history_17 (by decide) (fun c_5 => ?_) (fun c_5 => ?_)
      · refine lv_iconst (v := -1) hx hb dX2_history_25 (by decide) ?_
        exact z_iret S hr hlocks hM hS ⟨by rw [zsel_s hz]; unfold zHi; rw [if_neg c_4, if_pos c_5], rfl⟩ (Nat.le_of_ble_eq_true rfl) (Nat.le_of_ble_eq_true rfl) dX2_history_26
      · refine lv_iload_n hx hb dX2_history_20 rfl (lv_at hl 4 rfl) ?_
        refine lv_iconst (v := 1) hx hb dX2_history_21 (by decide) ?_
        refine lv_icmp_le (tgt := 27) hx hb dX2_history_22 (by decide) (fun c_6 => ?_) (fun c_6 => ?_)
        · refine lv_aload hx hb dX2_history_27 (lv_at hl 0 rfl) ?_
          refine z_getN (v := va_rf (zHd (ch j))) S kX0 hK hM hcj 9 (by decide) kw_96 rfl dX2_history_29 ?_
          refine z_astoreq (lv' := [(5, va_rf (zHd (ch j))), (4, .ref (ca j)), (0, .ref h0), (1, .int k), (2, .int i), (3, .int what)]) hx hb dX2_history_32 hl (by decide) rfl (fun ls hl => ?_)
          refine lv_iconst (v := 0) hx hb dX2_history_34 (by decide) ?_
          refine lv_istore (lv' := [(6, .int 0), (5, va_rf (zHd (ch j))), (4, .ref (ca j)), (0, .ref h0), (1, .int k), (2, .int i), (3, .int what)]) hx hb dX2_history_35 hl (by decide) (by simp [z_cat1]) (fun ls hl => ?_)
          obtain ⟨K, hK31, rfl⟩ := nI_of c_4
          refine z_loop (fun (t : Nat) ls H' locs' => t ≤ K ∧ lv_has ls 7 [(6, .int (nI t)), (5, va_rf (zHd ((ch j).drop t))), (4, .ref (ca j)), (0, .ref h0), (1, .int k), (2, .int (nI K)), (3, .int what)] ∧ zM A G M H' ∧ va_S A s.heap H' locs') (fun t => K - t) 0 ⟨Nat.zero_le _, hl, hM, hS⟩ ?_
          rintro t ls H locs ⟨htK, hl, hM, hS⟩ ih
          rcases hdr : (ch j).drop t with _ | ⟨x, R⟩
          · rw [hdr] at hl
            have hl : lv_has ls 7 [(6, .int (nI t)), (5, .null), (4, .ref (ca j)), (0, .ref h0), (1, .int k), (2, .int (nI K)), (3, .int what)] := hl
            refine lv_iload hx hb dX2_history_37 (lv_at hl 0 rfl) ?_
            refine lv_iload_n hx hb dX2_history_39 rfl (lv_at hl 5 rfl) ?_
            refine lv_icmp_ge (tgt := 61) hx hb dX2_history_40 (by decide) (fun c_7 => ?_) (fun c_7 => ?_)
            · have htK2 : t = K := by have := (nI_leI (by omega) (by omega)).mp c_7; omega
              refine lv_aloadN hx hb dX2_history_61 (lv_at hl 1 rfl) ?_
              refine lv_ifnonnullN hx hb dX2_history_63 ?_
              refine lv_iconst (v := -1) hx hb dX2_history_66 (by decide) ?_
              exact z_iret S hr hlocks hM hS ⟨by rw [zsel_s hz]; rw [zHi_in (L := ch j) hK31 c_5 c_6]; rw [List.getElem?_eq_none (by have h6 := List.drop_eq_nil_iff.mp hdr; omega)], rfl⟩ (Nat.le_of_ble_eq_true rfl) (Nat.le_of_ble_eq_true rfl) dX2_history_67
            · have hti : t + 1 ≤ K := Nat.lt_of_not_le (fun q => c_7 (nI_le q (by omega)))
              refine lv_aloadN hx hb dX2_history_43 (lv_at hl 1 rfl) ?_
              refine lv_ifnullN (tgt := 61) hx hb dX2_history_45 (by decide) ?_
              refine lv_aloadN hx hb dX2_history_61 (lv_at hl 1 rfl) ?_
              refine lv_ifnonnullN hx hb dX2_history_63 ?_
              refine lv_iconst (v := -1) hx hb dX2_history_66 (by decide) ?_
              exact z_iret S hr hlocks hM hS ⟨by rw [zsel_s hz]; rw [zHi_in (L := ch j) hK31 c_5 c_6]; rw [List.getElem?_eq_none (by have h6 := List.drop_eq_nil_iff.mp hdr; omega)], rfl⟩ (Nat.le_of_ble_eq_true rfl) (Nat.le_of_ble_eq_true rfl) dX2_history_67
          · rw [hdr] at hl
            have hl : lv_has ls 7 [(6, .int (nI t)), (5, .ref x.1), (4, .ref (ca j)), (0, .ref h0), (1, .int k), (2, .int (nI K)), (3, .int what)] := hl
            have hxe : M x.1 = some (oE x.2.1 x.2.2.1 x.2.2.2 (zHd R)) := by
              have h9 := (hcp j hj).2.1
              rw [← List.take_append_drop t (ch j), hdr] at h9
              exact h9.mid.1
            refine lv_iload hx hb dX2_history_37 (lv_at hl 0 rfl) ?_
            refine lv_iload_n hx hb dX2_history_39 rfl (lv_at hl 5 rfl) ?_
            refine lv_icmp_ge (tgt := 61) hx hb dX2_history_40 (by decide) (fun c_8 => ?_) (fun c_8 => ?_)
            · have htK2 : t = K := by have := (nI_leI (by omega) (by omega)).mp c_8; omega
              refine lv_aload hx hb dX2_history_61 (lv_at hl 1 rfl) ?_
              refine lv_ifnonnull (tgt := 68) hx hb dX2_history_63 (by decide) ?_
              refine lv_iload_n hx hb dX2_history_68 rfl (lv_at hl 6 rfl) ?_
              refine lv_if_ne (tgt := 78) hx hb dX2_history_69 (by decide) (fun c_9 => ?_) (fun c_9 => ?_)
              · refine lv_aload hx hb dX2_history_78 (lv_at hl 1 rfl) ?_
                refine z_getN (v := .int x.2.2.2) S kX1 hK hM hxe 2 (by decide) kw_160 rfl dX2_history_80 ?_
                refine lv_if_eq (tgt := 90) hx hb dX2_history_83 (by decide) (fun c_10 => ?_) (fun c_10 => ?_)
                · refine lv_iconst (v := 0) hx hb dX2_history_90 (by decide) ?_
                  exact z_iret S hr hlocks hM hS ⟨by rw [zsel_s hz]; rw [zHi_in (L := ch j) hK31 c_5 c_6]; rw [← htK2, zdrop0 hdr]; exact congrArg some (congrArg Value.int (((if_neg c_9).trans (zb_f (fun q => q c_10))).symm)), rfl⟩ (Nat.le_of_ble_eq_true rfl) (Nat.le_of_ble_eq_true rfl) dX2_history_91
                · refine lv_iconst (v := 1) hx hb dX2_history_86 (by decide) ?_
                  refine lv_goto (tgt := 91) hx hb dX2_history_87 (by decide) ?_
                  exact z_iret S hr hlocks hM hS ⟨by rw [zsel_s hz]; rw [zHi_in (L := ch j) hK31 c_5 c_6]; rw [← htK2, zdrop0 hdr]; exact congrArg some (congrArg Value.int (((if_neg c_9).trans (zb_t c_10)).symm)), rfl⟩ (Nat.le_of_ble_eq_true rfl) (Nat.le_of_ble_eq_true rfl) dX2_history_91
              · refine lv_aload hx hb dX2_history_72 (lv_at hl 1 rfl) ?_
                refine z_getN (v := .int x.2.2.1) S kX1 hK hM hxe 1 (by decide) kw_158 rfl dX2_history_74 ?_
                exact z_iret S hr hlocks hM hS ⟨by rw [zsel_s hz]; rw [zHi_in (L := ch j) hK31 c_5 c_6]; rw [← htK2, zdrop0 hdr]; exact congrArg some (congrArg Value.int (if_pos c_9).symm), rfl⟩ (Nat.le_of_ble_eq_true rfl) (Nat.le_of_ble_eq_true rfl) dX2_history_77
            · have hti : t + 1 ≤ K := Nat.lt_of_not_le (fun q => c_8 (nI_le q (by omega)))
              refine lv_aload hx hb dX2_history_43 (lv_at hl 1 rfl) ?_
              refine lv_ifnull hx hb dX2_history_45 ?_
              refine lv_aload hx hb dX2_history_48 (lv_at hl 1 rfl) ?_
              refine z_getN (v := va_rf (zHd R)) S kX1 hK hM hxe 3 (by decide) kw_162 rfl dX2_history_50 ?_
              refine z_astoreq (lv' := [(5, va_rf (zHd R)), (6, .int (nI t)), (4, .ref (ca j)), (0, .ref h0), (1, .int k), (2, .int (nI K)), (3, .int what)]) hx hb dX2_history_53 hl (by decide) rfl (fun ls hl => ?_)
              refine lv_iinc (v := (nI t) + 1) (lv' := [(6, .int ((nI t) + 1)), (5, va_rf (zHd R)), (4, .ref (ca j)), (0, .ref h0), (1, .int k), (2, .int (nI K)), (3, .int what)]) hx hb dX2_history_55 hl (k := 1) rfl rfl (by decide) (by simp [z_cat1]) (fun ls hl => ?_)
              refine lv_goto (tgt := 37) hx hb dX2_history_58 (by decide) ?_
              exact ih (t + 1) ls _ _ ⟨hti, by
                have h7 := lv_sub hl [0, 1, 2, 3, 4, 5, 6] rfl
                rw [← nI_1 t, zdrop1 hdr]
                exact h7, hM, hS⟩ (by omega)
        · refine lv_iconst (v := -1) hx hb dX2_history_25 (by decide) ?_
          exact z_iret S hr hlocks hM hS ⟨by rw [zsel_s hz]; unfold zHi; rw [if_neg c_4, if_neg c_5, if_pos (Int32.not_le.mp c_6)], rfl⟩ (Nat.le_of_ble_eq_true rfl) (Nat.le_of_ble_eq_true rfl) dX2_history_26
