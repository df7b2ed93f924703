set_option maxHeartbeats 4000000 in
set_option maxRecDepth 100000 in
theorem c_X3_ten (l : Launch) (A : Nat → Prop) (G : zG) (M : zMap) (K : Nat) (hK31 : K < 2 ^ 31) : zMet l yX3_ten cX3_ten 4 (some .long) { frames := 0, cells := 0, slots := 0, locals := 0 } [.int (nI K)] A G M (fun r M1 => r = some (.long (zten K)) ∧ M1 = M) := by
  refine zMet.of (by decide) (Nat.le_of_ble_eq_true rfl) ?_
  intro p e s m args below meth c ls S hr hlocks hnm hK hM hA hS hl
  have hl : lv_has ls 4 [(0, .int (nI K))] := hl
  have hx := S.1
  have hb := S.2.1
  have hown := S.2.2.2.1
  have hts := S.2.2.2.2
  have hr : meth.sig.returnType = some .long := hr
  refine lv_lconst (v := 1) hx hb dX3_ten_0 (by decide) ?_
  refine lv_lstore_n (lv' := [(1, .long 1), (0, .int (nI K))]) hx hb dX3_ten_1 rfl hl (by decide) rfl (fun ls hl => ?_)
  refine lv_iconst (v := 0) hx hb dX3_ten_2 (by decide) ?_
  refine lv_istore_n (lv' := [(3, .int 0), (1, .long 1), (0, .int (nI K))]) hx hb dX3_ten_3 rfl hl (by decide) rfl (fun ls hl => ?_)
  refine z_loop (fun (k : Nat) ls H' locs' => k ≤ K ∧ lv_has ls 4 [(3, .int (nI k)), (1, .long (zten k)), (0, .int (nI K))] ∧ zM A G M H' ∧ va_S A s.heap H' locs') (fun k => K - k) 0 ⟨Nat.zero_le _, hl, hM, hS⟩ ?_
  rintro k ls H locs ⟨hk, hl, hM, hS⟩ ih
  refine lv_iload_n hx hb dX3_ten_4 rfl (lv_at hl 0 rfl) ?_
  refine lv_iload_n hx hb dX3_ten_5 rfl (lv_at hl 2 rfl) ?_
  refine lv_icmp_ge (tgt := 21) hx hb dX3_ten_6 (by decide) (fun c_1 => ?_) (fun c_1 => ?_)
  · have hkK : k = K := by have := (nI_leI (by omega) (by omega)).mp c_1; omega
    subst hkK
    refine lv_lload_n hx hb dX3_ten_21 rfl (lv_at hl 1 rfl) ?_
    exact z_lret S hr hlocks hM hS ⟨rfl, rfl⟩ (Nat.le_of_ble_eq_true rfl) (Nat.le_of_ble_eq_true rfl) dX3_ten_22
  · have hkK : k < K := Nat.lt_of_not_le (fun q => c_1 (nI_le q (by omega)))
    refine lv_ldc2 (v := 10) hx hb hown (hts _ kw_286) dX3_ten_9 ?_
    refine lv_lload_n hx hb dX3_ten_12 rfl (lv_at hl 1 rfl) ?_
    refine lv_lmul hx hb dX3_ten_13 ?_
    refine lv_lstore_n (lv' := [(1, .long (10 * (zten k))), (3, .int (nI k)), (0, .int (nI K))]) hx hb dX3_ten_14 rfl hl (by decide) rfl (fun ls hl => ?_)
    refine lv_iinc (v := (nI k) + 1) (lv' := [(3, .int ((nI k) + 1)), (1, .long (10 * (zten k))), (0, .int (nI K))]) hx hb dX3_ten_15 hl (k := 1) rfl rfl (by decide) rfl (fun ls hl => ?_)
    refine lv_goto (tgt := 4) hx hb dX3_ten_18 (by decide) ?_
    exact ih (k + 1) ls _ _ ⟨hkK, by
      have h7 := lv_sub hl [0, 1, 2] rfl
      rw [← nI_1, zten]
      exact h7, hM, hS⟩ (by omega)
set_option maxHeartbeats 4000000 in
set_option maxRecDepth 100000 in
theorem c_X3_sign (l : Launch) (A : Nat → Prop) (G : zG) (M : zMap) (a : Nat) (ha : a < 2 ^ 63) : zMet l yX3_sign cX3_sign 8 (some .int) { frames := 0, cells := 0, slots := 0, locals := 0 } [.long (lN a)] A G M (fun r M1 => ∃ K0, a / 10 ^ K0 = 0 ∧ r = some (.int (zrm (10 - zrm (zsS (lN a) K0) 10) 10)) ∧ M1 = M) := by
  refine zMet.of (by decide) (Nat.le_of_ble_eq_true rfl) ?_
  intro p e s m args below meth c ls S hr hlocks hnm hK hM hA hS hl
  have hl : lv_has ls 8 [(0, .long (lN a))] := hl
  have hx := S.1
  have hb := S.2.1
  have hown := S.2.2.2.1
  have hts := S.2.2.2.2
  have hr : meth.sig.returnType = some .int := hr
  refine lv_iconst (v := 0) hx hb dX3_sign_0 (by decide) ?_
  refine lv_istore_n (lv' := [(2, .int 0), (0, .long (lN a))]) hx hb dX3_sign_1 rfl hl (by decide) rfl (fun ls hl => ?_)
  refine lv_iconst (v := 1) hx hb dX3_sign_2 (by decide) ?_
  refine lv_istore_n (lv' := [(3, .int 1), (2, .int 0), (0, .long (lN a))]) hx hb dX3_sign_3 rfl hl (by decide) rfl (fun ls hl => ?_)
  refine lv_lload_n hx hb dX3_sign_4 rfl (lv_at hl 2 rfl) ?_
  refine lv_lstore (lv' := [(4, .long (lN a)), (3, .int 1), (2, .int 0), (0, .long (lN a))]) hx hb dX3_sign_5 hl (by decide) rfl (fun ls hl => ?_)
  refine z_loop (fun (k : Nat) ls H' locs' => lv_has ls 8 [(4, .long (zcR (lN a) k)), (3, .int (zb (k % 2 = 0))), (2, .int (zsS (lN a) k)), (0, .long (lN a))] ∧ zM A G M H' ∧ va_S A s.heap H' locs') (fun k => a / 10 ^ k) 0 ⟨hl, hM, hS⟩ ?_
  rintro k ls H locs ⟨hl, hM, hS⟩ ih
  refine lv_lload hx hb dX3_sign_7 (lv_at hl 0 rfl) ?_
  refine lv_lconst (v := 0) hx hb dX3_sign_9 (by decide) ?_
  refine W.lcmp hx hb dX3_sign_10 ?_
  refine lv_if_le (tgt := 79) hx hb dX3_sign_11 (by decide) (fun c_1 => ?_) (fun c_1 => ?_)
  · rw [lg_cmp_le] at c_1
    have hak : a / 10 ^ k < 2 ^ 63 := Nat.lt_of_le_of_lt (Nat.div_le_self _ _) ha
    rw [zcR_eq ha, show (0 : Int64) = lN 0 from rfl, pk_lLE hak (by decide)] at c_1
    refine lv_bipush (v := 10) hx hb dX3_sign_79 (by decide) ?_
    refine lv_iload_n hx hb dX3_sign_81 rfl (lv_at hl 2 rfl) ?_
    refine lv_bipush (v := 10) hx hb dX3_sign_82 (by decide) ?_
    refine lv_irem hx hb dX3_sign_84 (by decide) ?_
    refine lv_isub hx hb dX3_sign_85 ?_
    refine lv_bipush (v := 10) hx hb dX3_sign_86 (by decide) ?_
    refine lv_irem hx hb dX3_sign_88 (by decide) ?_
    exact z_iret S hr hlocks hM hS ⟨k, Nat.le_zero.mp c_1, rfl, rfl⟩ (Nat.le_of_ble_eq_true rfl) (Nat.le_of_ble_eq_true rfl) dX3_sign_89
  · rw [lg_cmp_le] at c_1
    have hak : a / 10 ^ k < 2 ^ 63 := Nat.lt_of_le_of_lt (Nat.div_le_self _ _) ha
    rw [zcR_eq ha, show (0 : Int64) = lN 0 from rfl, pk_lLE hak (by decide)] at c_1
    have hdec : a / 10 ^ (k + 1) < a / 10 ^ k := by rw [Nat.pow_succ, ← Nat.div_div_eq_div_mul]; omega
    refine lv_lload hx hb dX3_sign_14 (lv_at hl 0 rfl) ?_
    refine lv_ldc2 (v := 10) hx hb hown (hts _ kw_286) dX3_sign_16 ?_
    refine lv_lrem hx hb dX3_sign_19 (by decide) ?_
    refine lv_l2i (v := ((zcR (lN a) k) - (zcR (lN a) k) / 10 * 10).toInt32) hx hb dX3_sign_20 rfl ?_
    refine lv_istore (lv' := [(6, .int (((zcR (lN a) k) - (zcR (lN a) k) / 10 * 10).toInt32)), (4, .long (zcR (lN a) k)), (3, .int (zb (k % 2 = 0))), (2, .int (zsS (lN a) k)), (0, .long (lN a))]) hx hb dX3_sign_21 hl (by decide) rfl (fun ls hl => ?_)
    refine lv_iload_n hx hb dX3_sign_23 rfl (lv_at hl 2 rfl) ?_
    refine lv_if_eq (tgt := 34) hx hb dX3_sign_24 (by decide) (fun c_2 => ?_) (fun c_2 => ?_)
    · rw [zb_0] at c_2
      have hpar := c_2
      refine lv_iload hx hb dX3_sign_34 (lv_at hl 0 rfl) ?_
      refine lv_istore (lv' := [(7, .int (((zcR (lN a) k) - (zcR (lN a) k) / 10 * 10).toInt32)), (6, .int (((zcR (lN a) k) - (zcR (lN a) k) / 10 * 10).toInt32)), (4, .long (zcR (lN a) k)), (3, .int (zb (k % 2 = 0))), (2, .int (zsS (lN a) k)), (0, .long (lN a))]) hx hb dX3_sign_36 hl (by decide) rfl (fun ls hl => ?_)
      refine lv_iload_n hx hb dX3_sign_38 rfl (lv_at hl 4 rfl) ?_
      refine lv_iload hx hb dX3_sign_39 (lv_at hl 0 rfl) ?_
      refine lv_bipush (v := 9) hx hb dX3_sign_41 (by decide) ?_
      refine lv_icmp_le (tgt := 54) hx hb dX3_sign_43 (by decide) (fun c_3 => ?_) (fun c_3 => ?_)
      · refine lv_iload hx hb dX3_sign_54 (lv_at hl 0 rfl) ?_
        refine lv_iadd hx hb dX3_sign_56 ?_
        refine lv_istore_n (lv' := [(2, .int ((zsS (lN a) k) + (((zcR (lN a) k) - (zcR (lN a) k) / 10 * 10).toInt32))), (7, .int (((zcR (lN a) k) - (zcR (lN a) k) / 10 * 10).toInt32)), (6, .int (((zcR (lN a) k) - (zcR (lN a) k) / 10 * 10).toInt32)), (4, .long (zcR (lN a) k)), (3, .int (zb (k % 2 = 0))), (0, .long (lN a))]) hx hb dX3_sign_57 rfl hl (by decide) rfl (fun ls hl => ?_)
        refine lv_iload_n hx hb dX3_sign_58 rfl (lv_at hl 4 rfl) ?_
        refine lv_if_ne (tgt := 66) hx hb dX3_sign_59 (by decide) (fun c_4 => ?_) (fun c_4 => ?_)
        · rw [zb_0n] at c_4
          exact absurd c_4 c_2
        · rw [zb_0] at c_4
          refine lv_iconst (v := 1) hx hb dX3_sign_62 (by decide) ?_
          refine lv_goto (tgt := 67) hx hb dX3_sign_63 (by decide) ?_
          refine lv_istore_n (lv' := [(3, .int 1), (2, .int ((zsS (lN a) k) + (((zcR (lN a) k) - (zcR (lN a) k) / 10 * 10).toInt32))), (7, .int (((zcR (lN a) k) - (zcR (lN a) k) / 10 * 10).toInt32)), (6, .int (((zcR (lN a) k) - (zcR (lN a) k) / 10 * 10).toInt32)), (4, .long (zcR (lN a) k)), (0, .long (lN a))]) hx hb dX3_sign_67 rfl hl (by decide) rfl (fun ls hl => ?_)
          refine lv_lload hx hb dX3_sign_68 (lv_at hl 4 rfl) ?_
          refine lv_ldc2 (v := 10) hx hb hown (hts _ kw_286) dX3_sign_70 ?_
          refine lv_ldiv hx hb dX3_sign_73 (by decide) ?_
          refine lv_lstore (lv' := [(4, .long ((zcR (lN a) k) / 10)), (3, .int 1), (2, .int ((zsS (lN a) k) + (((zcR (lN a) k) - (zcR (lN a) k) / 10 * 10).toInt32))), (7, .int (((zcR (lN a) k) - (zcR (lN a) k) / 10 * 10).toInt32)), (6, .int (((zcR (lN a) k) - (zcR (lN a) k) / 10 * 10).toInt32)), (0, .long (lN a))]) hx hb dX3_sign_74 hl (by decide) rfl (fun ls hl => ?_)
          refine lv_goto (tgt := 7) hx hb dX3_sign_76 (by decide) ?_
          exact ih (k + 1) ls _ _ ⟨by
            have h7 := lv_sub hl [0, 1, 2, 5] rfl
            rw [zcR, zsS, zsv, zcd, if_neg hpar, if_pos c_3, zb_t (by omega)]
            exact h7, hM, hS⟩ hdec
      · refine lv_iload hx hb dX3_sign_46 (lv_at hl 0 rfl) ?_
        refine lv_bipush (v := 9) hx hb dX3_sign_48 (by decide) ?_
        refine lv_isub hx hb dX3_sign_50 ?_
        refine lv_goto (tgt := 56) hx hb dX3_sign_51 (by decide) ?_
        refine lv_iadd hx hb dX3_sign_56 ?_
        refine lv_istore_n (lv' := [(2, .int ((zsS (lN a) k) + ((((zcR (lN a) k) - (zcR (lN a) k) / 10 * 10).toInt32) - 9))), (7, .int (((zcR (lN a) k) - (zcR (lN a) k) / 10 * 10).toInt32)), (6, .int (((zcR (lN a) k) - (zcR (lN a) k) / 10 * 10).toInt32)), (4, .long (zcR (lN a) k)), (3, .int (zb (k % 2 = 0))), (0, .long (lN a))]) hx hb dX3_sign_57 rfl hl (by decide) rfl (fun ls hl => ?_)
        refine lv_iload_n hx hb dX3_sign_58 rfl (lv_at hl 4 rfl) ?_
        refine lv_if_ne (tgt := 66) hx hb dX3_sign_59 (by decide) (fun c_5 => ?_) (fun c_5 => ?_)
        · rw [zb_0n] at c_5
          exact absurd c_5 c_2
        · rw [zb_0] at c_5
          refine lv_iconst (v := 1) hx hb dX3_sign_62 (by decide) ?_
          refine lv_goto (tgt := 67) hx hb dX3_sign_63 (by decide) ?_
          refine lv_istore_n (lv' := [(3, .int 1), (2, .int ((zsS (lN a) k) + ((((zcR (lN a) k) - (zcR (lN a) k) / 10 * 10).toInt32) - 9))), (7, .int (((zcR (lN a) k) - (zcR (lN a) k) / 10 * 10).toInt32)), (6, .int (((zcR (lN a) k) - (zcR (lN a) k) / 10 * 10).toInt32)), (4, .long (zcR (lN a) k)), (0, .long (lN a))]) hx hb dX3_sign_67 rfl hl (by decide) rfl (fun ls hl => ?_)
          refine lv_lload hx hb dX3_sign_68 (lv_at hl 4 rfl) ?_
          refine lv_ldc2 (v := 10) hx hb hown (hts _ kw_286) dX3_sign_70 ?_
          refine lv_ldiv hx hb dX3_sign_73 (by decide) ?_
          refine lv_lstore (lv' := [(4, .long ((zcR (lN a) k) / 10)), (3, .int 1), (2, .int ((zsS (lN a) k) + ((((zcR (lN a) k) - (zcR (lN a) k) / 10 * 10).toInt32) - 9))), (7, .int (((zcR (lN a) k) - (zcR (lN a) k) / 10 * 10).toInt32)), (6, .int (((zcR (lN a) k) - (zcR (lN a) k) / 10 * 10).toInt32)), (0, .long (lN a))]) hx hb dX3_sign_74 hl (by decide) rfl (fun ls hl => ?_)
          refine lv_goto (tgt := 7) hx hb dX3_sign_76 (by decide) ?_
          exact ih (k + 1) ls _ _ ⟨by
            have h7 := lv_sub hl [0, 1, 2, 5] rfl
            rw [zcR, zsS, zsv, zcd, if_neg hpar, if_neg c_3, zb_t (by omega)]
            exact h7, hM, hS⟩ hdec
    · rw [zb_0n] at c_2
      have hpar := c_2
      refine lv_iconst (v := 2) hx hb dX3_sign_27 (by decide) ?_
      refine lv_iload hx hb dX3_sign_28 (lv_at hl 0 rfl) ?_
      refine lv_imul hx hb dX3_sign_30 ?_
      refine lv_goto (tgt := 36) hx hb dX3_sign_31 (by decide) ?_
      refine lv_istore (lv' := [(7, .int (2 * (((zcR (lN a) k) - (zcR (lN a) k) / 10 * 10).toInt32))), (6, .int (((zcR (lN a) k) - (zcR (lN a) k) / 10 * 10).toInt32)), (4, .long (zcR (lN a) k)), (3, .int (zb (k % 2 = 0))), (2, .int (zsS (lN a) k)), (0, .long (lN a))]) hx hb dX3_sign_36 hl (by decide) rfl (fun ls hl => ?_)
      refine lv_iload_n hx hb dX3_sign_38 rfl (lv_at hl 4 rfl) ?_
      refine lv_iload hx hb dX3_sign_39 (lv_at hl 0 rfl) ?_
      refine lv_bipush (v := 9) hx hb dX3_sign_41 (by decide) ?_
      refine lv_icmp_le (tgt := 54) hx hb dX3_sign_43 (by decide) (fun c_6 => ?_) (fun c_6 => ?_)
      · refine lv_iload hx hb dX3_sign_54 (lv_at hl 0 rfl) ?_
        refine lv_iadd hx hb dX3_sign_56 ?_
        refine lv_istore_n (lv' := [(2, .int ((zsS (lN a) k) + (2 * (((zcR (lN a) k) - (zcR (lN a) k) / 10 * 10).toInt32)))), (7, .int (2 * (((zcR (lN a) k) - (zcR (lN a) k) / 10 * 10).toInt32))), (6, .int (((zcR (lN a) k) - (zcR (lN a) k) / 10 * 10).toInt32)), (4, .long (zcR (lN a) k)), (3, .int (zb (k % 2 = 0))), (0, .long (lN a))]) hx hb dX3_sign_57 rfl hl (by decide) rfl (fun ls hl => ?_)
        refine lv_iload_n hx hb dX3_sign_58 rfl (lv_at hl 4 rfl) ?_
        refine lv_if_ne (tgt := 66) hx hb dX3_sign_59 (by decide) (fun c_7 => ?_) (fun c_7 => ?_)
        · rw [zb_0n] at c_7
          refine lv_iconst (v := 0) hx hb dX3_sign_66 (by decide) ?_
          refine lv_istore_n (lv' := [(3, .int 0), (2, .int ((zsS (lN a) k) + (2 * (((zcR (lN a) k) - (zcR (lN a) k) / 10 * 10).toInt32)))), (7, .int (2 * (((zcR (lN a) k) - (zcR (lN a) k) / 10 * 10).toInt32))), (6, .int (((zcR (lN a) k) - (zcR (lN a) k) / 10 * 10).toInt32)), (4, .long (zcR (lN a) k)), (0, .long (lN a))]) hx hb dX3_sign_67 rfl hl (by decide) rfl (fun ls hl => ?_)
          refine lv_lload hx hb dX3_sign_68 (lv_at hl 4 rfl) ?_
          refine lv_ldc2 (v := 10) hx hb hown (hts _ kw_286) dX3_sign_70 ?_
          refine lv_ldiv hx hb dX3_sign_73 (by decide) ?_
          refine lv_lstore (lv' := [(4, .long ((zcR (lN a) k) / 10)), (3, .int 0), (2, .int ((zsS (lN a) k) + (2 * (((zcR (lN a) k) - (zcR (lN a) k) / 10 * 10).toInt32)))), (7, .int (2 * (((zcR (lN a) k) - (zcR (lN a) k) / 10 * 10).toInt32))), (6, .int (((zcR (lN a) k) - (zcR (lN a) k) / 10 * 10).toInt32)), (0, .long (lN a))]) hx hb dX3_sign_74 hl (by decide) rfl (fun ls hl => ?_)
          refine lv_goto (tgt := 7) hx hb dX3_sign_76 (by decide) ?_
          exact ih (k + 1) ls _ _ ⟨by
            have h7 := lv_sub hl [0, 1, 2, 5] rfl
            rw [zcR, zsS, zsv, zcd, if_pos hpar, if_pos c_6, zb_f (by omega)]
            exact h7, hM, hS⟩ hdec
        · rw [zb_0] at c_7
          exact absurd c_2 c_7
      · refine lv_iload hx hb dX3_sign_46 (lv_at hl 0 rfl) ?_
        refine lv_bipush (v := 9) hx hb dX3_sign_48 (by decide) ?_
        refine lv_isub hx hb dX3_sign_50 ?_
        refine lv_goto (tgt := 56) hx hb dX3_sign_51 (by decide) ?_
        refine lv_iadd hx hb dX3_sign_56 ?_
        refine lv_istore_n (lv' := [(2, .int ((zsS (lN a) k) + ((2 * (((zcR (lN a) k) - (zcR (lN a) k) / 10 * 10).toInt32)) - 9))), (7, .int (2 * (((zcR (lN a) k) - (zcR (lN a) k) / 10 * 10).toInt32))), (6, .int (((zcR (lN a) k) - (zcR (lN a) k) / 10 * 10).toInt32)), (4, .long (zcR (lN a) k)), (3, .int (zb (k % 2 = 0))), (0, .long (lN a))]) hx hb dX3_sign_57 rfl hl (by decide) rfl (fun ls hl => ?_)
        refine lv_iload_n hx hb dX3_sign_58 rfl (lv_at hl 4 rfl) ?_
        refine lv_if_ne (tgt := 66) hx hb dX3_sign_59 (by decide) (fun c_8 => ?_) (fun c_8 => ?_)
        · rw [zb_0n] at c_8
          refine lv_iconst (v := 0) hx hb dX3_sign_66 (by decide) ?_
          refine lv_istore_n (lv' := [(3, .int 0), (2, .int ((zsS (lN a) k) + ((2 * (((zcR (lN a) k) - (zcR (lN a) k) / 10 * 10).toInt32)) - 9))), (7, .int (2 * (((zcR (lN a) k) - (zcR (lN a) k) / 10 * 10).toInt32))), (6, .int (((zcR (lN a) k) - (zcR (lN a) k) / 10 * 10).toInt32)), (4, .long (zcR (lN a) k)), (0, .long (lN a))]) hx hb dX3_sign_67 rfl hl (by decide) rfl (fun ls hl => ?_)
          refine lv_lload hx hb dX3_sign_68 (lv_at hl 4 rfl) ?_
          refine lv_ldc2 (v := 10) hx hb hown (hts _ kw_286) dX3_sign_70 ?_
          refine lv_ldiv hx hb dX3_sign_73 (by decide) ?_
          refine lv_lstore (lv' := [(4, .long ((zcR (lN a) k) / 10)), (3, .int 0), (2, .int ((zsS (lN a) k) + ((2 * (((zcR (lN a) k) - (zcR (lN a) k) / 10 * 10).toInt32)) - 9))), (7, .int (2 * (((zcR (lN a) k) - (zcR (lN a) k) / 10 * 10).toInt32))), (6, .int (((zcR (lN a) k) - (zcR (lN a) k) / 10 * 10).toInt32)), (0, .long (lN a))]) hx hb dX3_sign_74 hl (by decide) rfl (fun ls hl => ?_)
          refine lv_goto (tgt := 7) hx hb dX3_sign_76 (by decide) ?_
          exact ih (k + 1) ls _ _ ⟨by
            have h7 := lv_sub hl [0, 1, 2, 5] rfl
            rw [zcR, zsS, zsv, zcd, if_pos hpar, if_neg c_6, zb_f (by omega)]
            exact h7, hM, hS⟩ hdec
        · rw [zb_0] at c_8
          exact absurd c_2 c_8
set_option maxHeartbeats 4000000 in
set_option maxRecDepth 100000 in
theorem c_X3_last (l : Launch) (A : Nat → Prop) (G : zG) (M : zMap) (m0 : Nat) (ar : Nat → Nat) (th : Int32) (co ac : Nat) (gr : Int64) (F : Nat → Nat → Int32) (L : Nat → Nat → Int64) (cp : Int32) (day : Int64) (hJ : zJ G M m0 ar th (nI co) (nI ac) gr F L) (hco : co ≤ 80) (hac : ac < 5000) : zMet l yX3_last cX3_last 5 (some .int) { frames := 0, cells := 0, slots := 0, locals := 0 } [.ref m0, .int cp, .long day] A G M (fun r M1 => r = some (.int (nI (zlm (F 11) (L 14) cp day ac) - 1)) ∧ M1 = M) := by
  refine zMet.of (by decide) (Nat.le_of_ble_eq_true rfl) ?_
  intro p e s m args below meth c ls S hr hlocks hnm hK hM hA hS hl
  have hl : lv_has ls 5 [(0, .ref m0), (1, .int cp), (2, .long day)] := hl
  have hx := S.1
  have hb := S.2.1
  have hown := S.2.2.2.1
  have hts := S.2.2.2.2
  have hr : meth.sig.returnType = some .int := hr
  refine lv_aload_n hx hb dX3_last_0 rfl (lv_at hl 0 rfl) ?_
  refine z_get (v := .int (nI ac)) S kX3 hK hM hJ.1 13 (by decide) kw_233 rfl dX3_last_1 ?_
  refine lv_iconst (v := 1) hx hb dX3_last_4 (by decide) ?_
  refine lv_isub hx hb dX3_last_5 ?_
  refine lv_istore (lv' := [(4, .int ((nI ac) - 1)), (0, .ref m0), (1, .int cp), (2, .long day)]) hx hb dX3_last_6 hl (by decide) rfl (fun ls hl => ?_)
  refine z_loop (fun (t : Nat) ls H' locs' => t ≤ ac ∧ zlm (F 11) (L 14) cp day ac = zlm (F 11) (L 14) cp day t ∧ lv_has ls 5 [(4, .int (nI t - 1)), (0, .ref m0), (1, .int cp), (2, .long day)] ∧ zM A G M H' ∧ va_S A s.heap H' locs') (fun t => t) ac ⟨Nat.le_refl _, rfl, hl, hM, hS⟩ ?_
  rintro t ls H locs ⟨hta, hmt, hl, hM, hS⟩ ih
  rcases t with _ | t
  · have hl : lv_has ls 5 [(4, .int (-1)), (0, .ref m0), (1, .int cp), (2, .long day)] := hl
    refine lv_iload hx hb dX3_last_8 (lv_at hl 0 rfl) ?_
    refine lv_if_lt (tgt := 42) hx hb dX3_last_10 (by decide) (fun c_1 => ?_) (fun c_1 => absurd c_1 (by decide))
    refine lv_iload hx hb dX3_last_42 (lv_at hl 0 rfl) ?_
    exact z_iret S hr hlocks hM hS ⟨by rw [hmt]; rfl, rfl⟩ (Nat.le_of_ble_eq_true rfl) (Nat.le_of_ble_eq_true rfl) dX3_last_44
  · rw [nI_pred] at hl
    have hct : (nI t).toNatClampNeg = t := nI_clamp (by omega)
    refine lv_iload hx hb dX3_last_8 (lv_at hl 0 rfl) ?_
    refine lv_if_lt (tgt := 42) hx hb dX3_last_10 (by decide) (fun c_2 => ?_) (fun c_2 => ?_)
    · exact absurd c_2 (nI_pos (by omega))
    · refine lv_aload_n hx hb dX3_last_13 rfl (lv_at hl 1 rfl) ?_
      refine z_get (v := .ref (ar 11)) S kX3 hK hM hJ.1 14 (by decide) kw_234 rfl dX3_last_14 ?_
      refine lv_iload hx hb dX3_last_17 (lv_at hl 0 rfl) ?_
      refine z_iald S hK hM 0 (show M (ar 11) = some (.inl (G.2.2 0, 5000, .inl (F 11))) from hJ.2.1 11 (by decide)) rfl (zvp5 hta hac) dX3_last_19 ?_
      rw [hct]
      refine lv_iload_n hx hb dX3_last_20 rfl (lv_at hl 2 rfl) ?_
      refine lv_icmp_ne (tgt := 36) hx hb dX3_last_21 (by decide) (fun c_3 => ?_) (fun c_3 => ?_)
      · refine lv_iinc (v := (nI t) + (-1)) (lv' := [(4, .int ((nI t) + (-1))), (0, .ref m0), (1, .int cp), (2, .long day)]) hx hb dX3_last_36 hl (k := 0) rfl rfl (by decide) rfl (fun ls hl => ?_)
        refine lv_goto (tgt := 8) hx hb dX3_last_39 (by decide) ?_
        exact ih t ls _ _ ⟨by omega, by rw [hmt, zlm, if_neg (fun q => c_3 q.1)], by
          have h7 := lv_sub hl [0, 1, 2, 3] rfl
          rw [zsub1] at h7
          exact h7, hM, hS⟩ (by omega)
      · refine lv_aload_n hx hb dX3_last_24 rfl (lv_at hl 1 rfl) ?_
        refine z_get (v := .ref (ar 14)) S kX3 hK hM hJ.1 17 (by decide) kw_237 rfl dX3_last_25 ?_
        refine lv_iload hx hb dX3_last_28 (lv_at hl 0 rfl) ?_
        refine z_lald S hK hM 3 (show M (ar 14) = some (.inl (G.2.2 3, 5000, .inr (.inl (L 14)))) from hJ.2.1 14 (by decide)) rfl (zvp5 hta hac) dX3_last_30 ?_
        rw [hct]
        refine lv_lload_n hx hb dX3_last_31 rfl (lv_at hl 3 rfl) ?_
        refine W.lcmp hx hb dX3_last_32 ?_
        refine lv_if_le (tgt := 42) hx hb dX3_last_33 (by decide) (fun c_4 => ?_) (fun c_4 => ?_)
        · rw [lg_cmp_le] at c_4
          refine lv_iload hx hb dX3_last_42 (lv_at hl 0 rfl) ?_
          exact z_iret S hr hlocks hM hS ⟨by rw [hmt, zlm, if_pos ⟨c_3, c_4⟩, nI_pred], rfl⟩ (Nat.le_of_ble_eq_true rfl) (Nat.le_of_ble_eq_true rfl) dX3_last_44
        · rw [lg_cmp_le] at c_4
          refine lv_iinc (v := (nI t) + (-1)) (lv' := [(4, .int ((nI t) + (-1))), (0, .ref m0), (1, .int cp), (2, .long day)]) hx hb dX3_last_36 hl (k := 0) rfl rfl (by decide) rfl (fun ls hl => ?_)
          refine lv_goto (tgt := 8) hx hb dX3_last_39 (by decide) ?_
          exact ih t ls _ _ ⟨by omega, by rw [hmt, zlm, if_neg (fun q => c_4 q.2)], by
            have h7 := lv_sub hl [0, 1, 2, 3] rfl
            rw [zsub1] at h7
            exact h7, hM, hS⟩ (by omega)
