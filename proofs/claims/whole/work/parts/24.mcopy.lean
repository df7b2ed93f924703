set_option maxHeartbeats 4000000 in
set_option maxRecDepth 100000 in
theorem c_X3_copy (l : Launch) (A : Nat → Prop) (G : zG) (M : zMap) (m0 : Nat) (ar : Nat → Nat) (th : Int32) (co ac : Nat) (gr : Int64) (F : Nat → Nat → Int32) (L : Nat → Nat → Int64) (ty : Int32) (bc : Int64) (dg hm : Int32) (hJ : zJ G M m0 ar th (nI co) (nI ac) gr F L) (hco : co ≤ 80) : zMet l yX3_copy cX3_copy 7 (some .int) { frames := 1, cells := 0, slots := 0, locals := 40 } [.ref m0, .int ty, .long bc, .int dg, .int hm] A G M (fun r M1 => r = some (.int (zCpr co (cvm F L) (F 9) ty bc dg hm)) ∧ ((¬ (zCk co (cvm F L) ty bc dg hm ∧ zRi (F 9) hm ty) ∧ zJ G M1 m0 ar 0 (nI co) (nI ac) gr F L) ∨ ((zCk co (cvm F L) ty bc dg hm ∧ zRi (F 9) hm ty) ∧ zJ G M1 m0 ar 0 (nI (co + 1)) (nI ac) gr (zNF F co ty dg hm) (zuf L 1 (vp_updL (L 1) (co + 1) bc))))) := by
  refine zMet.of (by decide) (Nat.le_of_ble_eq_true rfl) ?_
  intro p e s m args below meth c ls S hr hlocks hnm hK hM hA hS hl
  have hl : lv_has ls 7 [(0, .ref m0), (1, .int ty), (2, .long bc), (4, .int dg), (5, .int hm)] := hl
  have hx := S.1
  have hb := S.2.1
  have hown := S.2.2.2.1
  have hts := S.2.2.2.2
  have hr : meth.sig.returnType = some .int := hr
  refine lv_aload_n hx hb dX3_copy_0 rfl (lv_at hl 0 rfl) ?_
  refine lv_iconst (v := 0) hx hb dX3_copy_1 (by decide) ?_
  refine z_put S kX3 hK hM hS hJ.1 0 (by decide) kw_220 rfl rfl rfl (Nat.le_of_ble_eq_true rfl) dX3_copy_2 (fun H locs hM hS => ?_)
  obtain ⟨M_1, eM_2⟩ : ∃ z : zMap, z = zu M m0 (oM 0 (nI co) ar (nI ac) gr) := ⟨_, rfl⟩
  replace hM : zM A G M_1 H := by rw [eM_2]; exact hM
  have hJ_3 : zJ G M_1 m0 ar 0 (nI co) (nI ac) gr F L := by rw [eM_2]; exact hJ.setO _ _ _ _
  refine lv_iload_n hx hb dX3_copy_5 rfl (lv_at hl 1 rfl) ?_
  refine lv_if_lt (tgt := 75) hx hb dX3_copy_6 (by decide) (fun c_4 => ?_) (fun c_4 => ?_)
  · refine lv_iconst (v := -1) hx hb dX3_copy_75 (by decide) ?_
    exact z_iret S hr hlocks hM hS ⟨by unfold zCpr; rw [if_neg (fun q => q.1.1.1 c_4)], Or.inl ⟨fun q => (fun q => q.1.1.1 c_4) q.1, hJ_3⟩⟩ (Nat.le_of_ble_eq_true rfl) (Nat.le_of_ble_eq_true rfl) dX3_copy_76
  · refine lv_iload_n hx hb dX3_copy_9 rfl (lv_at hl 1 rfl) ?_
    refine lv_iconst (v := 5) hx hb dX3_copy_10 (by decide) ?_
    refine lv_icmp_gt (tgt := 75) hx hb dX3_copy_11 (by decide) (fun c_5 => ?_) (fun c_5 => ?_)
    · refine lv_iconst (v := -1) hx hb dX3_copy_75 (by decide) ?_
      exact z_iret S hr hlocks hM hS ⟨by unfold zCpr; rw [if_neg (fun q => q.1.1.2 (gt5 c_5))], Or.inl ⟨fun q => (fun q => q.1.1.2 (gt5 c_5)) q.1, hJ_3⟩⟩ (Nat.le_of_ble_eq_true rfl) (Nat.le_of_ble_eq_true rfl) dX3_copy_76
    · refine lv_iload hx hb dX3_copy_14 (lv_at hl 4 rfl) ?_
      refine lv_if_lt (tgt := 75) hx hb dX3_copy_16 (by decide) (fun c_6 => ?_) (fun c_6 => ?_)
      · refine lv_iconst (v := -1) hx hb dX3_copy_75 (by decide) ?_
        exact z_iret S hr hlocks hM hS ⟨by unfold zCpr; rw [if_neg (fun q => q.1.2.1.1 c_6)], Or.inl ⟨fun q => (fun q => q.1.2.1.1 c_6) q.1, hJ_3⟩⟩ (Nat.le_of_ble_eq_true rfl) (Nat.le_of_ble_eq_true rfl) dX3_copy_76
      · refine lv_iload hx hb dX3_copy_19 (lv_at hl 4 rfl) ?_
        refine lv_bipush (v := 9) hx hb dX3_copy_21 (by decide) ?_
        refine lv_icmp_gt (tgt := 75) hx hb dX3_copy_23 (by decide) (fun c_7 => ?_) (fun c_7 => ?_)
        · refine lv_iconst (v := -1) hx hb dX3_copy_75 (by decide) ?_
          exact z_iret S hr hlocks hM hS ⟨by unfold zCpr; rw [if_neg (fun q => q.1.2.1.2 (gt9 c_7))], Or.inl ⟨fun q => (fun q => q.1.2.1.2 (gt9 c_7)) q.1, hJ_3⟩⟩ (Nat.le_of_ble_eq_true rfl) (Nat.le_of_ble_eq_true rfl) dX3_copy_76
        · refine lv_iload hx hb dX3_copy_26 (lv_at hl 3 rfl) ?_
          refine lv_iconst (v := 1) hx hb dX3_copy_28 (by decide) ?_
          refine lv_icmp_lt (tgt := 75) hx hb dX3_copy_29 (by decide) (fun c_8 => ?_) (fun c_8 => ?_)
          · refine lv_iconst (v := -1) hx hb dX3_copy_75 (by decide) ?_
            exact z_iret S hr hlocks hM hS ⟨by unfold zCpr; rw [if_neg (fun q => zBc_dig (Or.inl c_8) q.2.1)], Or.inl ⟨fun q => (fun q => zBc_dig (Or.inl c_8) q.2.1) q.1, hJ_3⟩⟩ (Nat.le_of_ble_eq_true rfl) (Nat.le_of_ble_eq_true rfl) dX3_copy_76
          · refine lv_iload hx hb dX3_copy_32 (lv_at hl 3 rfl) ?_
            refine lv_bipush (v := 12) hx hb dX3_copy_34 (by decide) ?_
            refine lv_icmp_gt (tgt := 75) hx hb dX3_copy_36 (by decide) (fun c_9 => ?_) (fun c_9 => ?_)
            · refine lv_iconst (v := -1) hx hb dX3_copy_75 (by decide) ?_
              exact z_iret S hr hlocks hM hS ⟨by unfold zCpr; rw [if_neg (fun q => zBc_dig (Or.inr c_9) q.2.1)], Or.inl ⟨fun q => (fun q => zBc_dig (Or.inr c_9) q.2.1) q.1, hJ_3⟩⟩ (Nat.le_of_ble_eq_true rfl) (Nat.le_of_ble_eq_true rfl) dX3_copy_76
            · refine lv_lload_n hx hb dX3_copy_39 rfl (lv_at hl 2 rfl) ?_
              refine lv_lconst (v := 0) hx hb dX3_copy_40 (by decide) ?_
              refine W.lcmp hx hb dX3_copy_41 ?_
              refine lv_if_lt (tgt := 75) hx hb dX3_copy_42 (by decide) (fun c_10 => ?_) (fun c_10 => ?_)
              · rw [lg_cmp_lt] at c_10
                refine lv_iconst (v := -1) hx hb dX3_copy_75 (by decide) ?_
                exact z_iret S hr hlocks hM hS ⟨by unfold zCpr; rw [if_neg (fun q => q.2.1.1 c_10)], Or.inl ⟨fun q => (fun q => q.2.1.1 c_10) q.1, hJ_3⟩⟩ (Nat.le_of_ble_eq_true rfl) (Nat.le_of_ble_eq_true rfl) dX3_copy_76
              · rw [lg_cmp_lt] at c_10
                obtain ⟨K, hK1, hK2, rfl⟩ := z112 c_8 (Int32.not_lt.mp c_9)
                obtain ⟨a, ha, rfl⟩ := pk_lOf c_10
                have ha10 : a / 10 < 2 ^ 63 := Nat.lt_of_le_of_lt (Nat.div_le_self _ _) ha
                refine lv_lload_n hx hb dX3_copy_45 rfl (lv_at hl 2 rfl) ?_
                refine lv_iload hx hb dX3_copy_46 (lv_at hl 3 rfl) ?_
                refine lv_iconst (v := 1) hx hb dX3_copy_48 (by decide) ?_
                refine lv_iadd hx hb dX3_copy_49 ?_
                rw [nI_1]
                refine z_callS (As := [.int (nI (K + 1))]) (rest := [.long (lN a)]) S (c_X3_ten l A G M_1 (K + 1) (by omega)) ok_X3_ten kw_283 kw_284 ⟨Nat.le_of_ble_eq_true rfl, Nat.le_of_ble_eq_true rfl⟩ hK hM hS hA rfl hl.1 rfl (Nat.le_of_ble_eq_true rfl) dX3_copy_50 ⟨Nat.le_of_ble_eq_true rfl, Nat.le_of_ble_eq_true rfl⟩ (fun r_13 M_11 H locs hp_12 hM hS => ?_)
                obtain ⟨rfl, hM9⟩ := hp_12
                rw [hM9] at hM
                refine W.eq (g2 := F0 m 53 ls [.long (zten (K + 1)), .long (lN a)]) rfl ?_
                refine W.lcmp hx hb dX3_copy_53 ?_
                refine lv_if_ge (tgt := 75) hx hb dX3_copy_54 (by decide) (fun c_14 => ?_) (fun c_14 => ?_)
                · rw [lg_cmp_ge] at c_14
                  refine lv_iconst (v := -1) hx hb dX3_copy_75 (by decide) ?_
                  exact z_iret S hr hlocks hM hS ⟨by unfold zCpr; rw [if_neg (fun q => zBc_big ha hK1 hK2 c_14 q.2.1)], Or.inl ⟨fun q => (fun q => zBc_big ha hK1 hK2 c_14 q.2.1) q.1, hJ_3⟩⟩ (Nat.le_of_ble_eq_true rfl) (Nat.le_of_ble_eq_true rfl) dX3_copy_76
                · rw [lg_cmp_ge] at c_14
                  refine lv_lload_n hx hb dX3_copy_57 rfl (lv_at hl 2 rfl) ?_
                  refine lv_ldc2 (v := 10) hx hb hown (hts _ kw_286) dX3_copy_58 ?_
                  refine lv_ldiv hx hb dX3_copy_61 (by decide) ?_
                  rw [zdiv10 ha]
                  refine z_callS (As := [.long (lN (a / 10))]) (rest := []) S (c_X3_sign l A G M_1 (a / 10) ha10) ok_X3_sign kw_287 kw_288 ⟨Nat.le_of_ble_eq_true rfl, Nat.le_of_ble_eq_true rfl⟩ hK hM hS hA rfl hl.1 rfl (Nat.le_of_ble_eq_true rfl) dX3_copy_62 ⟨Nat.le_of_ble_eq_true rfl, Nat.le_of_ble_eq_true rfl⟩ (fun r_17 M_15 H locs hp_16 hM hS => ?_)
                  obtain ⟨K0, hK0, rfl, hM9⟩ := hp_16
                  rw [hM9] at hM
                  refine W.eq (g2 := F0 m 65 ls [.int (zrm (10 - zrm (zsS (lN (a / 10)) K0) 10) 10)]) rfl ?_
                  refine lv_i2l (v := (zrm (10 - zrm (zsS (lN (a / 10)) K0) 10) 10).toInt64) hx hb dX3_copy_65 rfl ?_
                  refine lv_lload_n hx hb dX3_copy_66 rfl (lv_at hl 2 rfl) ?_
                  refine lv_ldc2 (v := 10) hx hb hown (hts _ kw_286) dX3_copy_67 ?_
                  refine lv_lrem hx hb dX3_copy_70 (by decide) ?_
                  refine W.lcmp hx hb dX3_copy_71 ?_
                  refine lv_if_eq (tgt := 77) hx hb dX3_copy_72 (by decide) (fun c_18 => ?_) (fun c_18 => ?_)
                  · rw [lg_cmp_eq] at c_18
                    refine lv_iconst (v := 1) hx hb dX3_copy_77 (by decide) ?_
                    refine lv_istore (lv' := [(6, .int 1), (0, .ref m0), (1, .int ty), (2, .long (lN a)), (4, .int (nI K)), (5, .int hm)]) hx hb dX3_copy_78 hl (by decide) rfl (fun ls hl => ?_)
                    refine z_loop (fun (t : Nat) ls H' locs' => t ≤ co ∧ lv_has ls 7 [(6, .int (nI (t + 1))), (0, .ref m0), (1, .int ty), (2, .long (lN a)), (4, .int (nI K)), (5, .int hm)] ∧ (∀ i, i < t → ¬ (L 1 (i + 1) = lN a ∧ F 2 (i + 1) = nI K)) ∧ zM A G M_1 H' ∧ va_S A s.heap H' locs') (fun t => co - t) 0 ⟨Nat.zero_le _, hl, fun i hi => absurd hi (Nat.not_lt_zero i), hM, hS⟩ ?_
                    rintro t ls H locs ⟨htN0, hl, hno, hM, hS⟩ ih
                    have hct : (nI (t + 1)).toNatClampNeg = t + 1 := nI_clamp (by omega)
                    refine lv_iload hx hb dX3_copy_80 (lv_at hl 0 rfl) ?_
                    refine lv_aload_n hx hb dX3_copy_82 rfl (lv_at hl 1 rfl) ?_
                    refine z_get (v := .int (nI co)) S kX3 hK hM hJ_3.1 1 (by decide) kw_221 rfl dX3_copy_83 ?_
                    refine lv_icmp_gt (tgt := 121) hx hb dX3_copy_86 (by decide) (fun c_19 => ?_) (fun c_19 => ?_)
                    · have htN : t = co := by have := (nI_ltI (by omega) (by omega)).mp c_19; omega
                      refine lv_aload_n hx hb dX3_copy_121 rfl (lv_at hl 1 rfl) ?_
                      refine z_get (v := .int (nI co)) S kX3 hK hM hJ_3.1 1 (by decide) kw_221 rfl dX3_copy_122 ?_
                      refine lv_bipush (v := 80) hx hb dX3_copy_125 (by decide) ?_
                      refine lv_icmp_ne (tgt := 132) hx hb dX3_copy_127 (by decide) (fun c_20 => ?_) (fun c_20 => ?_)
                      · have hc80 : co < 80 := Nat.lt_of_le_of_ne hco (fun q => c_20 (by rw [q]; rfl))
                        have hcc : (nI co + 1).toNatClampNeg = co + 1 := by rw [nI_1]; exact nI_clamp (by omega)
                        have hvc : vp_in (nI co + 1) 81 := by rw [nI_1]; exact vp_in_nI (by omega) (by decide)
                        have hn80 : nI co < (80 : Int32) := nI_lt (a := co) (b := 80) hc80 (by decide)
                        refine lv_aload_n hx hb dX3_copy_132 rfl (lv_at hl 1 rfl) ?_
                        refine z_get (v := .ref (ar 9)) S kX3 hK hM hJ_3.1 11 (by decide) kw_231 rfl dX3_copy_133 ?_
                        refine lv_bipush (v := 6) hx hb dX3_copy_136 (by decide) ?_
                        refine lv_iload hx hb dX3_copy_138 (lv_at hl 5 rfl) ?_
                        refine lv_imul hx hb dX3_copy_140 ?_
                        refine lv_iload_n hx hb dX3_copy_141 rfl (lv_at hl 2 rfl) ?_
                        refine lv_iadd hx hb dX3_copy_142 ?_
                        refine z_zald S hK hM 1 (show M_1 (ar 9) = some (.inl (G.2.2 1, 60, .inl (F 9))) from hJ_3.2.1 9 (by decide)) rfl (zRi_in6 (zPl_9 c_6 c_7) (zTy_g5 c_4 c_5)) dX3_copy_143 ?_
                        refine lv_if_eq (tgt := 150) hx hb dX3_copy_144 (by decide) (fun c_21 => ?_) (fun c_21 => ?_)
                        · refine lv_aload_n hx hb dX3_copy_150 rfl (lv_at hl 1 rfl) ?_
                          refine lv_dup hx hb dX3_copy_151 rfl ?_
                          refine z_get (v := .int (nI co)) S kX3 hK hM hJ_3.1 1 (by decide) kw_221 rfl dX3_copy_152 ?_
                          refine lv_iconst (v := 1) hx hb dX3_copy_155 (by decide) ?_
                          refine lv_iadd hx hb dX3_copy_156 ?_
                          refine z_put S kX3 hK hM hS hJ_3.1 1 (by decide) kw_221 rfl rfl rfl (Nat.le_of_ble_eq_true rfl) dX3_copy_157 (fun H locs hM hS => ?_)
                          obtain ⟨M_22, eM_23⟩ : ∃ z : zMap, z = zu M_1 m0 (oM 0 ((nI co) + 1) ar (nI ac) gr) := ⟨_, rfl⟩
                          replace hM : zM A G M_22 H := by rw [eM_23]; exact hM
                          have hJ_24 : zJ G M_22 m0 ar 0 ((nI co) + 1) (nI ac) gr F L := by rw [eM_23]; exact hJ_3.setO _ _ _ _
                          refine lv_aload_n hx hb dX3_copy_160 rfl (lv_at hl 1 rfl) ?_
                          refine z_get (v := .ref (ar 0)) S kX3 hK hM hJ_24.1 2 (by decide) kw_222 rfl dX3_copy_161 ?_
                          refine lv_aload_n hx hb dX3_copy_164 rfl (lv_at hl 1 rfl) ?_
                          refine z_get (v := .int ((nI co) + 1)) S kX3 hK hM hJ_24.1 1 (by decide) kw_221 rfl dX3_copy_165 ?_
                          refine lv_iload_n hx hb dX3_copy_168 rfl (lv_at hl 2 rfl) ?_
                          refine z_iast S hK hM hS 0 (show M_22 (ar 0) = some (.inl (G.2.2 0, 81, .inl (F 0))) from hJ_24.2.1 0 (by decide)) rfl hvc dX3_copy_169 (fun H locs hM hS => ?_)
                          rw [hcc] at hM
                          obtain ⟨M_25, eM_26⟩ : ∃ z : zMap, z = zu M_22 (ar 0) (.inl ((G.2.2 0), 81, .inl (upd (F 0) (co + 1) ty))) := ⟨_, rfl⟩
                          replace hM : zM A G M_25 H := by rw [eM_26]; exact hM
                          have hJ_27 : zJ G M_25 m0 ar 0 ((nI co) + 1) (nI ac) gr (zuf F 0 (upd (F 0) (co + 1) ty)) L := by rw [eM_26]; exact hJ_24.setI 0 (by decide) rfl _
                          refine lv_aload_n hx hb dX3_copy_170 rfl (lv_at hl 1 rfl) ?_
                          refine z_get (v := .ref (ar 1)) S kX3 hK hM hJ_27.1 3 (by decide) kw_223 rfl dX3_copy_171 ?_
                          refine lv_aload_n hx hb dX3_copy_174 rfl (lv_at hl 1 rfl) ?_
                          refine z_get (v := .int ((nI co) + 1)) S kX3 hK hM hJ_27.1 1 (by decide) kw_221 rfl dX3_copy_175 ?_
                          refine lv_lload_n hx hb dX3_copy_178 rfl (lv_at hl 3 rfl) ?_
                          refine z_last S hK hM hS 3 (show M_25 (ar 1) = some (.inl (G.2.2 3, 81, .inr (.inl (L 1)))) from hJ_27.2.1 1 (by decide)) rfl hvc dX3_copy_179 (fun H locs hM hS => ?_)
                          rw [hcc] at hM
                          obtain ⟨M_28, eM_29⟩ : ∃ z : zMap, z = zu M_25 (ar 1) (.inl ((G.2.2 3), 81, .inr (.inl (vp_updL (L 1) (co + 1) (lN a))))) := ⟨_, rfl⟩
                          replace hM : zM A G M_28 H := by rw [eM_29]; exact hM
                          have hJ_30 : zJ G M_28 m0 ar 0 ((nI co) + 1) (nI ac) gr (zuf F 0 (upd (F 0) (co + 1) ty)) (zuf L 1 (vp_updL (L 1) (co + 1) (lN a))) := by rw [eM_29]; exact hJ_27.setL 1 (by decide) rfl _
                          refine lv_aload_n hx hb dX3_copy_180 rfl (lv_at hl 1 rfl) ?_
                          refine z_get (v := .ref (ar 2)) S kX3 hK hM hJ_30.1 4 (by decide) kw_224 rfl dX3_copy_181 ?_
                          refine lv_aload_n hx hb dX3_copy_184 rfl (lv_at hl 1 rfl) ?_
                          refine z_get (v := .int ((nI co) + 1)) S kX3 hK hM hJ_30.1 1 (by decide) kw_221 rfl dX3_copy_185 ?_
                          refine lv_iload hx hb dX3_copy_188 (lv_at hl 4 rfl) ?_
                          refine z_iast S hK hM hS 0 (show M_28 (ar 2) = some (.inl (G.2.2 0, 81, .inl (F 2))) from hJ_30.2.1 2 (by decide)) rfl hvc dX3_copy_190 (fun H locs hM hS => ?_)
                          rw [hcc] at hM
                          obtain ⟨M_31, eM_32⟩ : ∃ z : zMap, z = zu M_28 (ar 2) (.inl ((G.2.2 0), 81, .inl (upd (F 2) (co + 1) (nI K)))) := ⟨_, rfl⟩
                          replace hM : zM A G M_31 H := by rw [eM_32]; exact hM
                          have hJ_33 : zJ G M_31 m0 ar 0 ((nI co) + 1) (nI ac) gr (zuf (zuf F 0 (upd (F 0) (co + 1) ty)) 2 (upd (F 2) (co + 1) (nI K))) (zuf L 1 (vp_updL (L 1) (co + 1) (lN a))) := by rw [eM_32]; exact hJ_30.setI 2 (by decide) rfl _
                          refine lv_aload_n hx hb dX3_copy_191 rfl (lv_at hl 1 rfl) ?_
                          refine z_get (v := .ref (ar 3)) S kX3 hK hM hJ_33.1 5 (by decide) kw_225 rfl dX3_copy_192 ?_
                          refine lv_aload_n hx hb dX3_copy_195 rfl (lv_at hl 1 rfl) ?_
                          refine z_get (v := .int ((nI co) + 1)) S kX3 hK hM hJ_33.1 1 (by decide) kw_221 rfl dX3_copy_196 ?_
                          refine lv_iload hx hb dX3_copy_199 (lv_at hl 5 rfl) ?_
                          refine z_iast S hK hM hS 0 (show M_31 (ar 3) = some (.inl (G.2.2 0, 81, .inl (F 3))) from hJ_33.2.1 3 (by decide)) rfl hvc dX3_copy_201 (fun H locs hM hS => ?_)
                          rw [hcc] at hM
                          obtain ⟨M_34, eM_35⟩ : ∃ z : zMap, z = zu M_31 (ar 3) (.inl ((G.2.2 0), 81, .inl (upd (F 3) (co + 1) hm))) := ⟨_, rfl⟩
                          replace hM : zM A G M_34 H := by rw [eM_35]; exact hM
                          have hJ_36 : zJ G M_34 m0 ar 0 ((nI co) + 1) (nI ac) gr (zuf (zuf (zuf F 0 (upd (F 0) (co + 1) ty)) 2 (upd (F 2) (co + 1) (nI K))) 3 (upd (F 3) (co + 1) hm)) (zuf L 1 (vp_updL (L 1) (co + 1) (lN a))) := by rw [eM_35]; exact hJ_33.setI 3 (by decide) rfl _
                          refine lv_aload_n hx hb dX3_copy_202 rfl (lv_at hl 1 rfl) ?_
                          refine z_get (v := .ref (ar 4)) S kX3 hK hM hJ_36.1 6 (by decide) kw_226 rfl dX3_copy_203 ?_
                          refine lv_aload_n hx hb dX3_copy_206 rfl (lv_at hl 1 rfl) ?_
                          refine z_get (v := .int ((nI co) + 1)) S kX3 hK hM hJ_36.1 1 (by decide) kw_221 rfl dX3_copy_207 ?_
                          refine lv_iload hx hb dX3_copy_210 (lv_at hl 5 rfl) ?_
                          refine z_iast S hK hM hS 0 (show M_34 (ar 4) = some (.inl (G.2.2 0, 81, .inl (F 4))) from hJ_36.2.1 4 (by decide)) rfl hvc dX3_copy_212 (fun H locs hM hS => ?_)
                          rw [hcc] at hM
                          obtain ⟨M_37, eM_38⟩ : ∃ z : zMap, z = zu M_34 (ar 4) (.inl ((G.2.2 0), 81, .inl (upd (F 4) (co + 1) hm))) := ⟨_, rfl⟩
                          replace hM : zM A G M_37 H := by rw [eM_38]; exact hM
                          have hJ_39 : zJ G M_37 m0 ar 0 ((nI co) + 1) (nI ac) gr (zuf (zuf (zuf (zuf F 0 (upd (F 0) (co + 1) ty)) 2 (upd (F 2) (co + 1) (nI K))) 3 (upd (F 3) (co + 1) hm)) 4 (upd (F 4) (co + 1) hm)) (zuf L 1 (vp_updL (L 1) (co + 1) (lN a))) := by rw [eM_38]; exact hJ_36.setI 4 (by decide) rfl _
                          refine lv_aload_n hx hb dX3_copy_213 rfl (lv_at hl 1 rfl) ?_
                          refine z_get (v := .ref (ar 5)) S kX3 hK hM hJ_39.1 7 (by decide) kw_227 rfl dX3_copy_214 ?_
                          refine lv_aload_n hx hb dX3_copy_217 rfl (lv_at hl 1 rfl) ?_
                          refine z_get (v := .int ((nI co) + 1)) S kX3 hK hM hJ_39.1 1 (by decide) kw_221 rfl dX3_copy_218 ?_
                          refine lv_iconst (v := 3) hx hb dX3_copy_221 (by decide) ?_
                          refine z_iast S hK hM hS 0 (show M_37 (ar 5) = some (.inl (G.2.2 0, 81, .inl (F 5))) from hJ_39.2.1 5 (by decide)) rfl hvc dX3_copy_222 (fun H locs hM hS => ?_)
                          rw [hcc] at hM
                          obtain ⟨M_40, eM_41⟩ : ∃ z : zMap, z = zu M_37 (ar 5) (.inl ((G.2.2 0), 81, .inl (upd (F 5) (co + 1) 3))) := ⟨_, rfl⟩
                          replace hM : zM A G M_40 H := by rw [eM_41]; exact hM
                          have hJ_42 : zJ G M_40 m0 ar 0 ((nI co) + 1) (nI ac) gr (zuf (zuf (zuf (zuf (zuf F 0 (upd (F 0) (co + 1) ty)) 2 (upd (F 2) (co + 1) (nI K))) 3 (upd (F 3) (co + 1) hm)) 4 (upd (F 4) (co + 1) hm)) 5 (upd (F 5) (co + 1) 3)) (zuf L 1 (vp_updL (L 1) (co + 1) (lN a))) := by rw [eM_41]; exact hJ_39.setI 5 (by decide) rfl _
                          refine lv_aload_n hx hb dX3_copy_223 rfl (lv_at hl 1 rfl) ?_
                          refine z_get (v := .ref (ar 7)) S kX3 hK hM hJ_42.1 9 (by decide) kw_229 rfl dX3_copy_224 ?_
                          refine lv_aload_n hx hb dX3_copy_227 rfl (lv_at hl 1 rfl) ?_
                          refine z_get (v := .int ((nI co) + 1)) S kX3 hK hM hJ_42.1 1 (by decide) kw_221 rfl dX3_copy_228 ?_
                          refine lv_iconst (v := -1) hx hb dX3_copy_231 (by decide) ?_
                          refine z_iast S hK hM hS 0 (show M_40 (ar 7) = some (.inl (G.2.2 0, 81, .inl (F 7))) from hJ_42.2.1 7 (by decide)) rfl hvc dX3_copy_232 (fun H locs hM hS => ?_)
                          rw [hcc] at hM
                          obtain ⟨M_43, eM_44⟩ : ∃ z : zMap, z = zu M_40 (ar 7) (.inl ((G.2.2 0), 81, .inl (upd (F 7) (co + 1) (-1)))) := ⟨_, rfl⟩
                          replace hM : zM A G M_43 H := by rw [eM_44]; exact hM
                          have hJ_45 : zJ G M_43 m0 ar 0 ((nI co) + 1) (nI ac) gr (zuf (zuf (zuf (zuf (zuf (zuf F 0 (upd (F 0) (co + 1) ty)) 2 (upd (F 2) (co + 1) (nI K))) 3 (upd (F 3) (co + 1) hm)) 4 (upd (F 4) (co + 1) hm)) 5 (upd (F 5) (co + 1) 3)) 7 (upd (F 7) (co + 1) (-1))) (zuf L 1 (vp_updL (L 1) (co + 1) (lN a))) := by rw [eM_44]; exact hJ_42.setI 7 (by decide) rfl _
                          refine lv_aload_n hx hb dX3_copy_233 rfl (lv_at hl 1 rfl) ?_
                          refine z_get (v := .int ((nI co) + 1)) S kX3 hK hM hJ_45.1 1 (by decide) kw_221 rfl dX3_copy_234 ?_
                          exact z_iret S hr hlocks hM hS ⟨by unfold zCpr; rw [if_pos ⟨⟨zTy_g5 c_4 c_5, zPl_9 c_6 c_7, hn80⟩, (zBc_sg ha hK1 hK2 c_14 hK0).mp c_18, fun q => by obtain ⟨i, hi, hm⟩ := q; exact hno i (by omega) hm⟩, if_pos ⟨zPl_9 c_6 c_7, zTy_g5 c_4 c_5, by rw [zix6]; exact c_21⟩, nI_1], Or.inr ⟨⟨⟨⟨zTy_g5 c_4 c_5, zPl_9 c_6 c_7, hn80⟩, (zBc_sg ha hK1 hK2 c_14 hK0).mp c_18, fun q => by obtain ⟨i, hi, hm⟩ := q; exact hno i (by omega) hm⟩, ⟨zPl_9 c_6 c_7, zTy_g5 c_4 c_5, by rw [zix6]; exact c_21⟩⟩, by have h8 := hJ_45; rw [nI_1] at h8; exact h8⟩⟩ (Nat.le_of_ble_eq_true rfl) (Nat.le_of_ble_eq_true rfl) dX3_copy_237
                        · refine lv_bipush (v := -3) hx hb dX3_copy_147 (by decide) ?_
                          exact z_iret S hr hlocks hM hS ⟨by unfold zCpr; rw [if_pos ⟨⟨zTy_g5 c_4 c_5, zPl_9 c_6 c_7, hn80⟩, (zBc_sg ha hK1 hK2 c_14 hK0).mp c_18, fun q => by obtain ⟨i, hi, hm⟩ := q; exact hno i (by omega) hm⟩, if_neg (fun q => c_21 (by have h8 := q.2.2; rw [zix6] at h8; exact h8))], Or.inl ⟨fun q => c_21 (by have h8 := q.2.2.2; rw [zix6] at h8; exact h8), hJ_3⟩⟩ (Nat.le_of_ble_eq_true rfl) (Nat.le_of_ble_eq_true rfl) dX3_copy_149
                      · refine lv_iconst (v := -1) hx hb dX3_copy_130 (by decide) ?_
                        exact z_iret S hr hlocks hM hS ⟨by unfold zCpr; rw [if_neg (fun q => absurd (show nI co = 80 from c_20) (fun z => by have h8 := q.1.2.2; rw [z] at h8; exact absurd h8 (by decide)))], Or.inl ⟨fun q => (fun q => absurd (show nI co = 80 from c_20) (fun z => by have h8 := q.1.2.2; rw [z] at h8; exact absurd h8 (by decide))) q.1, hJ_3⟩⟩ (Nat.le_of_ble_eq_true rfl) (Nat.le_of_ble_eq_true rfl) dX3_copy_131
                    · have ht : t < co := Nat.lt_of_not_le (fun q => c_19 ((nI_ltI (by omega) (by omega)).mpr (by omega)))
                      refine lv_aload_n hx hb dX3_copy_89 rfl (lv_at hl 1 rfl) ?_
                      refine z_get (v := .ref (ar 1)) S kX3 hK hM hJ_3.1 3 (by decide) kw_223 rfl dX3_copy_90 ?_
                      refine lv_iload hx hb dX3_copy_93 (lv_at hl 0 rfl) ?_
                      refine z_lald S hK hM 3 (show M_1 (ar 1) = some (.inl (G.2.2 3, 81, .inr (.inl (L 1)))) from hJ_3.2.1 1 (by decide)) rfl (zvp81 ht hco) dX3_copy_95 ?_
                      rw [hct]
                      refine lv_lload_n hx hb dX3_copy_96 rfl (lv_at hl 3 rfl) ?_
                      refine W.lcmp hx hb dX3_copy_97 ?_
                      refine lv_if_ne (tgt := 115) hx hb dX3_copy_98 (by decide) (fun c_46 => ?_) (fun c_46 => ?_)
                      · rw [lg_cmp_eq] at c_46
                        refine lv_iinc (v := (nI (t + 1)) + 1) (lv' := [(6, .int ((nI (t + 1)) + 1)), (0, .ref m0), (1, .int ty), (2, .long (lN a)), (4, .int (nI K)), (5, .int hm)]) hx hb dX3_copy_115 hl (k := 0) rfl rfl (by decide) rfl (fun ls hl => ?_)
                        refine lv_goto (tgt := 80) hx hb dX3_copy_118 (by decide) ?_
                        exact ih (t + 1) ls _ _ ⟨by omega, by
                          have h7 := lv_sub hl [0, 1, 2, 3, 4, 5] rfl
                          rw [nI_1] at h7
                          exact h7, fun i hi hm => by
                            rcases Nat.lt_succ_iff_lt_or_eq.mp hi with h6 | h6
                            · exact hno i h6 hm
                            · subst h6; exact c_46 hm.1, hM, hS⟩ (by omega)
                      · rw [lg_cmp_eq] at c_46
                        refine lv_aload_n hx hb dX3_copy_101 rfl (lv_at hl 1 rfl) ?_
                        refine z_get (v := .ref (ar 2)) S kX3 hK hM hJ_3.1 4 (by decide) kw_224 rfl dX3_copy_102 ?_
                        refine lv_iload hx hb dX3_copy_105 (lv_at hl 0 rfl) ?_
                        refine z_iald S hK hM 0 (show M_1 (ar 2) = some (.inl (G.2.2 0, 81, .inl (F 2))) from hJ_3.2.1 2 (by decide)) rfl (zvp81 ht hco) dX3_copy_107 ?_
                        rw [hct]
                        refine lv_iload hx hb dX3_copy_108 (lv_at hl 4 rfl) ?_
                        refine lv_icmp_ne (tgt := 115) hx hb dX3_copy_110 (by decide) (fun c_47 => ?_) (fun c_47 => ?_)
                        · refine lv_iinc (v := (nI (t + 1)) + 1) (lv' := [(6, .int ((nI (t + 1)) + 1)), (0, .ref m0), (1, .int ty), (2, .long (lN a)), (4, .int (nI K)), (5, .int hm)]) hx hb dX3_copy_115 hl (k := 0) rfl rfl (by decide) rfl (fun ls hl => ?_)
                          refine lv_goto (tgt := 80) hx hb dX3_copy_118 (by decide) ?_
                          exact ih (t + 1) ls _ _ ⟨by omega, by
                            have h7 := lv_sub hl [0, 1, 2, 3, 4, 5] rfl
                            rw [nI_1] at h7
                            exact h7, fun i hi hm => by
                              rcases Nat.lt_succ_iff_lt_or_eq.mp hi with h6 | h6
                              · exact hno i h6 hm
                              · subst h6; exact c_47 hm.2, hM, hS⟩ (by omega)
                        · refine lv_iconst (v := -1) hx hb dX3_copy_113 (by decide) ?_
                          exact z_iret S hr hlocks hM hS ⟨by unfold zCpr; rw [if_neg (fun q => q.2.2 ⟨t, ht, c_46, c_47⟩)], Or.inl ⟨fun q => (fun q => q.2.2 ⟨t, ht, c_46, c_47⟩) q.1, hJ_3⟩⟩ (Nat.le_of_ble_eq_true rfl) (Nat.le_of_ble_eq_true rfl) dX3_copy_114
                  · rw [lg_cmp_eq] at c_18
                    refine lv_iconst (v := -1) hx hb dX3_copy_75 (by decide) ?_
                    exact z_iret S hr hlocks hM hS ⟨by unfold zCpr; rw [if_neg (fun q => c_18 ((zBc_sg ha hK1 hK2 c_14 hK0).mpr q.2.1))], Or.inl ⟨fun q => (fun q => c_18 ((zBc_sg ha hK1 hK2 c_14 hK0).mpr q.2.1)) q.1, hJ_3⟩⟩ (Nat.le_of_ble_eq_true rfl) (Nat.le_of_ble_eq_true rfl) dX3_copy_76
