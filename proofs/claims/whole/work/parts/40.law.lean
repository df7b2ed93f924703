set_option maxHeartbeats 4000000 in
set_option maxRecDepth 100000 in
theorem lc_0 {p : Program} {l : Launch} {e : Env} {s : State} {m : MethodId} {below : List Frame} {meth : Method} {c : Code} {G : zG} {b Ln : Nat} {xs : Nat → Int32} (S : CallFix p m c code 4 s #[Value.ref b] zB R_law) (hX : va_X b Ln xs s s.heap) (hbl : b < s.heap.size) (hK : zK G s) {t : Nat} (ht : t < 512) {M1 M2 : zMap} {h0 m0 : Nat} {H : Heap} {locs : List Loc} {ls : Array Slot} {i : Int32} (hi0 : vp_in i Ln) (hi1 : vp_in (i + 1) Ln) (hi2 : vp_in (i + 2) Ln) (hi3 : vp_in (i + 3) Ln) (hi4 : vp_in (i + 4) Ln) (hi5 : vp_in (i + 5) Ln) (hS : va_S (fun q => s.heap.size ≤ q) s.heap H locs) (hM1 : zM (zA s.heap.size M2) G M1 H) (hM2 : zM (zA s.heap.size M1) G M2 H) (hR : zSim G M1 M2 h0 m0 t) (hl : lv_has ls 4 [(3, .int i), (2, .ref m0), (1, .ref h0), (0, .ref b)]) {Q : State → Prop}
    (kk : ∀ (M1' M2' : zMap) (H' : Heap) (locs' : List Loc), va_S (fun q => s.heap.size ≤ q) s.heap H' locs' → zM (zA s.heap.size M2') G M1' H' → zM (zA s.heap.size M1') G M2' H' → zSim G M1' M2' h0 m0 (t + 1) → W p l e room_1 s m #[Value.ref b] below meth c H' locs' (20 + (t + 1)) (20966 + 10 * (t + 1)) Q (F0 m 711 ls [])) :
    W p l e room_1 s m #[Value.ref b] below meth c H locs (20 + t) (20966 + 10 * t) Q (F0 m 100 ls []) := by
  have hx := S.1
  have hb := S.2.1
  have hown := S.2.2.2.1
  have hts := S.2.2.2.2
  have hbA : ¬ (fun q : Nat => s.heap.size ≤ q) b := Nat.not_le.mpr hbl
  obtain ⟨cps, den, fee, N, ca, ch, ar, th, ac, gr, F, L, hI, hJ, hsm⟩ := hR
  have hN := hI.2.2.2.2.2.1
  have hact : ac ≤ t := hsm.1
  refine lv_aload_n hx hb dL_law_100 rfl (lv_at hl 2 rfl) ?_
  refine lv_aload_n hx hb dL_law_101 rfl (lv_at hl 3 rfl) ?_
  refine lv_iload_n hx hb dL_law_102 rfl (lv_at hl 0 rfl) ?_
  refine lv_iconst (v := 1) hx hb dL_law_103 (by decide) ?_
  refine lv_iadd hx hb dL_law_104 ?_
  refine va_sld hx hb hX hbl hbA hS hi1 dL_law_105 ?_
  refine lv_i2l (v := (xs (i + 1).toNatClampNeg).toInt64) hx hb dL_law_106 rfl ?_
  refine lv_bipush (v := 32) hx hb dL_law_107 (by decide) ?_
  refine lv_lshl (v := ((xs (i + 1).toNatClampNeg).toInt64) <<< ((32 : Int32).toInt64 &&& 63)) hx hb dL_law_109 rfl ?_
  refine lv_aload_n hx hb dL_law_110 rfl (lv_at hl 3 rfl) ?_
  refine lv_iload_n hx hb dL_law_111 rfl (lv_at hl 0 rfl) ?_
  refine lv_iconst (v := 2) hx hb dL_law_112 (by decide) ?_
  refine lv_iadd hx hb dL_law_113 ?_
  refine va_sld hx hb hX hbl hbA hS hi2 dL_law_114 ?_
  refine lv_i2l (v := (xs (i + 2).toNatClampNeg).toInt64) hx hb dL_law_115 rfl ?_
  refine lv_ldc2 (v := 4294967295) hx hb hown (hts _ kw_355) dL_law_116 ?_
  refine lv_land hx hb dL_law_119 ?_
  refine lv_lor hx hb dL_law_120 ?_
  refine lv_aload_n hx hb dL_law_121 rfl (lv_at hl 3 rfl) ?_
  refine lv_iload_n hx hb dL_law_122 rfl (lv_at hl 0 rfl) ?_
  refine lv_iconst (v := 3) hx hb dL_law_123 (by decide) ?_
  refine lv_iadd hx hb dL_law_124 ?_
  refine va_sld hx hb hX hbl hbA hS hi3 dL_law_125 ?_
  refine zl_call (As := [.long ((((xs (i + 1).toNatClampNeg).toInt64) <<< ((32 : Int32).toInt64 &&& 63)) ||| (((xs (i + 2).toNatClampNeg).toInt64) &&& 4294967295)), .int (xs (i + 3).toNatClampNeg)]) (rest := []) S (c_X2_check l (zA s.heap.size M2) G M1 h0 ((((xs (i + 1).toNatClampNeg).toInt64) <<< ((32 : Int32).toInt64 &&& 63)) ||| (((xs (i + 2).toNatClampNeg).toInt64) &&& 4294967295)) (xs (i + 3).toNatClampNeg)) ok_X2_check kw_37 kw_38 kw_39 ⟨Nat.le_of_ble_eq_true rfl, Nat.le_of_ble_eq_true rfl⟩ hK hM1 hM2 hS hI.1 rfl rfl hl.1 rfl (Nat.le_of_ble_eq_true rfl) dL_law_126 ⟨by show 20 + t + 0 ≤ 600000; omega, by show 20966 + 10 * t + 0 ≤ 7302250; omega⟩ (fun r1 M1n H locs hp1 hM1 hM2 hS => ?_)
  obtain ⟨rfl, hM9⟩ := hp1
  rw [hM9] at hM1 hM2
  refine W.eq (g2 := F0 m 129 ls [.int (zchk ((((xs (i + 1).toNatClampNeg).toInt64) <<< ((32 : Int32).toInt64 &&& 63)) ||| (((xs (i + 2).toNatClampNeg).toInt64) &&& 4294967295)) (xs (i + 3).toNatClampNeg))]) rfl ?_
  refine lv_aload_n hx hb dL_law_129 rfl (lv_at hl 1 rfl) ?_
  refine lv_aload_n hx hb dL_law_130 rfl (lv_at hl 3 rfl) ?_
  refine lv_iload_n hx hb dL_law_131 rfl (lv_at hl 0 rfl) ?_
  refine lv_iconst (v := 1) hx hb dL_law_132 (by decide) ?_
  refine lv_iadd hx hb dL_law_133 ?_
  refine va_sld hx hb hX hbl hbA hS hi1 dL_law_134 ?_
  refine lv_i2l (v := (xs (i + 1).toNatClampNeg).toInt64) hx hb dL_law_135 rfl ?_
  refine lv_bipush (v := 32) hx hb dL_law_136 (by decide) ?_
  refine lv_lshl (v := ((xs (i + 1).toNatClampNeg).toInt64) <<< ((32 : Int32).toInt64 &&& 63)) hx hb dL_law_138 rfl ?_
  refine lv_aload_n hx hb dL_law_139 rfl (lv_at hl 3 rfl) ?_
  refine lv_iload_n hx hb dL_law_140 rfl (lv_at hl 0 rfl) ?_
  refine lv_iconst (v := 2) hx hb dL_law_141 (by decide) ?_
  refine lv_iadd hx hb dL_law_142 ?_
  refine va_sld hx hb hX hbl hbA hS hi2 dL_law_143 ?_
  refine lv_i2l (v := (xs (i + 2).toNatClampNeg).toInt64) hx hb dL_law_144 rfl ?_
  refine lv_ldc2 (v := 4294967295) hx hb hown (hts _ kw_355) dL_law_145 ?_
  refine lv_land hx hb dL_law_148 ?_
  refine lv_lor hx hb dL_law_149 ?_
  refine lv_aload_n hx hb dL_law_150 rfl (lv_at hl 3 rfl) ?_
  refine lv_iload_n hx hb dL_law_151 rfl (lv_at hl 0 rfl) ?_
  refine lv_iconst (v := 3) hx hb dL_law_152 (by decide) ?_
  refine lv_iadd hx hb dL_law_153 ?_
  refine va_sld hx hb hX hbl hbA hS hi3 dL_law_154 ?_
  refine zl_call (As := [.long ((((xs (i + 1).toNatClampNeg).toInt64) <<< ((32 : Int32).toInt64 &&& 63)) ||| (((xs (i + 2).toNatClampNeg).toInt64) &&& 4294967295)), .int (xs (i + 3).toNatClampNeg)]) (rest := [.int (zchk ((((xs (i + 1).toNatClampNeg).toInt64) <<< ((32 : Int32).toInt64 &&& 63)) ||| (((xs (i + 2).toNatClampNeg).toInt64) &&& 4294967295)) (xs (i + 3).toNatClampNeg))]) S (c_X3_check l (zA s.heap.size M1) G M2 m0 ar th N ac gr F L ((((xs (i + 1).toNatClampNeg).toInt64) <<< ((32 : Int32).toInt64 &&& 63)) ||| (((xs (i + 2).toNatClampNeg).toInt64) &&& 4294967295)) (xs (i + 3).toNatClampNeg) hJ hN) ok_X3_check kw_279 kw_280 kw_281 ⟨Nat.le_of_ble_eq_true rfl, Nat.le_of_ble_eq_true rfl⟩ hK hM2 hM1 hS hJ.1 rfl rfl hl.1 rfl (Nat.le_of_ble_eq_true rfl) dL_law_155 ⟨by show 20 + t + 0 + 0 ≤ 600000; omega, by show 20966 + 10 * t + 0 + 0 ≤ 7302250; omega⟩ (fun r2 M2n H locs hp2 hM2 hM1 hS => ?_)
  obtain ⟨rfl, hJ1⟩ := hp2
  refine W.eq (g2 := F0 m 158 ls [.int (zchk ((((xs (i + 1).toNatClampNeg).toInt64) <<< ((32 : Int32).toInt64 &&& 63)) ||| (((xs (i + 2).toNatClampNeg).toInt64) &&& 4294967295)) (xs (i + 3).toNatClampNeg)), .int (zchk ((((xs (i + 1).toNatClampNeg).toInt64) <<< ((32 : Int32).toInt64 &&& 63)) ||| (((xs (i + 2).toNatClampNeg).toInt64) &&& 4294967295)) (xs (i + 3).toNatClampNeg))]) rfl ?_
  refine lv_icmp_eq (tgt := 711) hx hb dL_law_158 (by decide) (fun _ => ?_) (fun q => absurd rfl q)
  exact W.widen (by show 20 + t + 0 + 0 ≤ 20 + (t + 1); omega) (by show 20966 + 10 * t + 0 + 0 ≤ 20966 + 10 * (t + 1); omega) (kk M1 M2n H locs hS hM1 hM2 (sm_same hI hJ1 hsm))
set_option maxHeartbeats 4000000 in
set_option maxRecDepth 100000 in
theorem lc_1 {p : Program} {l : Launch} {e : Env} {s : State} {m : MethodId} {below : List Frame} {meth : Method} {c : Code} {G : zG} {b Ln : Nat} {xs : Nat → Int32} (S : CallFix p m c code 4 s #[Value.ref b] zB R_law) (hX : va_X b Ln xs s s.heap) (hbl : b < s.heap.size) (hK : zK G s) {t : Nat} (ht : t < 512) {M1 M2 : zMap} {h0 m0 : Nat} {H : Heap} {locs : List Loc} {ls : Array Slot} {i : Int32} (hi0 : vp_in i Ln) (hi1 : vp_in (i + 1) Ln) (hi2 : vp_in (i + 2) Ln) (hi3 : vp_in (i + 3) Ln) (hi4 : vp_in (i + 4) Ln) (hi5 : vp_in (i + 5) Ln) (hS : va_S (fun q => s.heap.size ≤ q) s.heap H locs) (hM1 : zM (zA s.heap.size M2) G M1 H) (hM2 : zM (zA s.heap.size M1) G M2 H) (hR : zSim G M1 M2 h0 m0 t) (hl : lv_has ls 4 [(3, .int i), (2, .ref m0), (1, .ref h0), (0, .ref b)]) {Q : State → Prop}
    (kk : ∀ (M1' M2' : zMap) (H' : Heap) (locs' : List Loc), va_S (fun q => s.heap.size ≤ q) s.heap H' locs' → zM (zA s.heap.size M2') G M1' H' → zM (zA s.heap.size M1') G M2' H' → zSim G M1' M2' h0 m0 (t + 1) → W p l e room_1 s m #[Value.ref b] below meth c H' locs' (20 + (t + 1)) (20966 + 10 * (t + 1)) Q (F0 m 711 ls [])) :
    W p l e room_1 s m #[Value.ref b] below meth c H locs (20 + t) (20966 + 10 * t) Q (F0 m 163 ls []) := by
  have hx := S.1
  have hb := S.2.1
  have hown := S.2.2.2.1
  have hts := S.2.2.2.2
  have hbA : ¬ (fun q : Nat => s.heap.size ≤ q) b := Nat.not_le.mpr hbl
  obtain ⟨cps, den, fee, N, ca, ch, ar, th, ac, gr, F, L, hI, hJ, hsm⟩ := hR
  have hN := hI.2.2.2.2.2.1
  have hact : ac ≤ t := hsm.1
  refine lv_aload_n hx hb dL_law_163 rfl (lv_at hl 2 rfl) ?_
  refine lv_aload_n hx hb dL_law_164 rfl (lv_at hl 3 rfl) ?_
  refine lv_iload_n hx hb dL_law_165 rfl (lv_at hl 0 rfl) ?_
  refine lv_iconst (v := 1) hx hb dL_law_166 (by decide) ?_
  refine lv_iadd hx hb dL_law_167 ?_
  refine va_sld hx hb hX hbl hbA hS hi1 dL_law_168 ?_
  refine lv_aload_n hx hb dL_law_169 rfl (lv_at hl 3 rfl) ?_
  refine lv_iload_n hx hb dL_law_170 rfl (lv_at hl 0 rfl) ?_
  refine lv_iconst (v := 2) hx hb dL_law_171 (by decide) ?_
  refine lv_iadd hx hb dL_law_172 ?_
  refine va_sld hx hb hX hbl hbA hS hi2 dL_law_173 ?_
  refine lv_i2l (v := (xs (i + 2).toNatClampNeg).toInt64) hx hb dL_law_174 rfl ?_
  refine lv_bipush (v := 32) hx hb dL_law_175 (by decide) ?_
  refine lv_lshl (v := ((xs (i + 2).toNatClampNeg).toInt64) <<< ((32 : Int32).toInt64 &&& 63)) hx hb dL_law_177 rfl ?_
  refine lv_aload_n hx hb dL_law_178 rfl (lv_at hl 3 rfl) ?_
  refine lv_iload_n hx hb dL_law_179 rfl (lv_at hl 0 rfl) ?_
  refine lv_iconst (v := 3) hx hb dL_law_180 (by decide) ?_
  refine lv_iadd hx hb dL_law_181 ?_
  refine va_sld hx hb hX hbl hbA hS hi3 dL_law_182 ?_
  refine lv_i2l (v := (xs (i + 3).toNatClampNeg).toInt64) hx hb dL_law_183 rfl ?_
  refine lv_ldc2 (v := 4294967295) hx hb hown (hts _ kw_355) dL_law_184 ?_
  refine lv_land hx hb dL_law_187 ?_
  refine lv_lor hx hb dL_law_188 ?_
  refine lv_aload_n hx hb dL_law_189 rfl (lv_at hl 3 rfl) ?_
  refine lv_iload_n hx hb dL_law_190 rfl (lv_at hl 0 rfl) ?_
  refine lv_iconst (v := 4) hx hb dL_law_191 (by decide) ?_
  refine lv_iadd hx hb dL_law_192 ?_
  refine va_sld hx hb hX hbl hbA hS hi4 dL_law_193 ?_
  refine lv_aload_n hx hb dL_law_194 rfl (lv_at hl 3 rfl) ?_
  refine lv_iload_n hx hb dL_law_195 rfl (lv_at hl 0 rfl) ?_
  refine lv_iconst (v := 5) hx hb dL_law_196 (by decide) ?_
  refine lv_iadd hx hb dL_law_197 ?_
  refine va_sld hx hb hX hbl hbA hS hi5 dL_law_198 ?_
  refine zl_call (As := [.int (xs (i + 1).toNatClampNeg), .long ((((xs (i + 2).toNatClampNeg).toInt64) <<< ((32 : Int32).toInt64 &&& 63)) ||| (((xs (i + 3).toNatClampNeg).toInt64) &&& 4294967295)), .int (xs (i + 4).toNatClampNeg), .int (xs (i + 5).toNatClampNeg)]) (rest := []) S (c_X2_copy l (zA s.heap.size M2) G M1 h0 cps den fee N ca (cvm F L) ch (F 9) (F 10) gr ac (xs (i + 1).toNatClampNeg) ((((xs (i + 2).toNatClampNeg).toInt64) <<< ((32 : Int32).toInt64 &&& 63)) ||| (((xs (i + 3).toNatClampNeg).toInt64) &&& 4294967295)) (xs (i + 4).toNatClampNeg) (xs (i + 5).toNatClampNeg) hI) ok_X2_copy kw_45 kw_46 kw_47 ⟨Nat.le_of_ble_eq_true rfl, Nat.le_of_ble_eq_true rfl⟩ hK hM1 hM2 hS hI.1 rfl rfl hl.1 rfl (Nat.le_of_ble_eq_true rfl) dL_law_199 ⟨by show 20 + t + 1 ≤ 600000; omega, by show 20966 + 10 * t + 10 ≤ 7302250; omega⟩ (fun r1 M1n H locs hp1 hM1 hM2 hS => ?_)
  obtain ⟨rfl, hI1⟩ := hp1
  refine W.eq (g2 := F0 m 202 ls [.int (zCpr N (cvm F L) (F 9) (xs (i + 1).toNatClampNeg) ((((xs (i + 2).toNatClampNeg).toInt64) <<< ((32 : Int32).toInt64 &&& 63)) ||| (((xs (i + 3).toNatClampNeg).toInt64) &&& 4294967295)) (xs (i + 4).toNatClampNeg) (xs (i + 5).toNatClampNeg))]) rfl ?_
  refine lv_aload_n hx hb dL_law_202 rfl (lv_at hl 1 rfl) ?_
  refine lv_aload_n hx hb dL_law_203 rfl (lv_at hl 3 rfl) ?_
  refine lv_iload_n hx hb dL_law_204 rfl (lv_at hl 0 rfl) ?_
  refine lv_iconst (v := 1) hx hb dL_law_205 (by decide) ?_
  refine lv_iadd hx hb dL_law_206 ?_
  refine va_sld hx hb hX hbl hbA hS hi1 dL_law_207 ?_
  refine lv_aload_n hx hb dL_law_208 rfl (lv_at hl 3 rfl) ?_
  refine lv_iload_n hx hb dL_law_209 rfl (lv_at hl 0 rfl) ?_
  refine lv_iconst (v := 2) hx hb dL_law_210 (by decide) ?_
  refine lv_iadd hx hb dL_law_211 ?_
  refine va_sld hx hb hX hbl hbA hS hi2 dL_law_212 ?_
  refine lv_i2l (v := (xs (i + 2).toNatClampNeg).toInt64) hx hb dL_law_213 rfl ?_
  refine lv_bipush (v := 32) hx hb dL_law_214 (by decide) ?_
  refine lv_lshl (v := ((xs (i + 2).toNatClampNeg).toInt64) <<< ((32 : Int32).toInt64 &&& 63)) hx hb dL_law_216 rfl ?_
  refine lv_aload_n hx hb dL_law_217 rfl (lv_at hl 3 rfl) ?_
  refine lv_iload_n hx hb dL_law_218 rfl (lv_at hl 0 rfl) ?_
  refine lv_iconst (v := 3) hx hb dL_law_219 (by decide) ?_
  refine lv_iadd hx hb dL_law_220 ?_
  refine va_sld hx hb hX hbl hbA hS hi3 dL_law_221 ?_
  refine lv_i2l (v := (xs (i + 3).toNatClampNeg).toInt64) hx hb dL_law_222 rfl ?_
  refine lv_ldc2 (v := 4294967295) hx hb hown (hts _ kw_355) dL_law_223 ?_
  refine lv_land hx hb dL_law_226 ?_
  refine lv_lor hx hb dL_law_227 ?_
  refine lv_aload_n hx hb dL_law_228 rfl (lv_at hl 3 rfl) ?_
  refine lv_iload_n hx hb dL_law_229 rfl (lv_at hl 0 rfl) ?_
  refine lv_iconst (v := 4) hx hb dL_law_230 (by decide) ?_
  refine lv_iadd hx hb dL_law_231 ?_
  refine va_sld hx hb hX hbl hbA hS hi4 dL_law_232 ?_
  refine lv_aload_n hx hb dL_law_233 rfl (lv_at hl 3 rfl) ?_
  refine lv_iload_n hx hb dL_law_234 rfl (lv_at hl 0 rfl) ?_
  refine lv_iconst (v := 5) hx hb dL_law_235 (by decide) ?_
  refine lv_iadd hx hb dL_law_236 ?_
  refine va_sld hx hb hX hbl hbA hS hi5 dL_law_237 ?_
  refine zl_call (As := [.int (xs (i + 1).toNatClampNeg), .long ((((xs (i + 2).toNatClampNeg).toInt64) <<< ((32 : Int32).toInt64 &&& 63)) ||| (((xs (i + 3).toNatClampNeg).toInt64) &&& 4294967295)), .int (xs (i + 4).toNatClampNeg), .int (xs (i + 5).toNatClampNeg)]) (rest := [.int (zCpr N (cvm F L) (F 9) (xs (i + 1).toNatClampNeg) ((((xs (i + 2).toNatClampNeg).toInt64) <<< ((32 : Int32).toInt64 &&& 63)) ||| (((xs (i + 3).toNatClampNeg).toInt64) &&& 4294967295)) (xs (i + 4).toNatClampNeg) (xs (i + 5).toNatClampNeg))]) S (c_X3_copy l (zA s.heap.size M1n) G M2 m0 ar th N ac gr F L (xs (i + 1).toNatClampNeg) ((((xs (i + 2).toNatClampNeg).toInt64) <<< ((32 : Int32).toInt64 &&& 63)) ||| (((xs (i + 3).toNatClampNeg).toInt64) &&& 4294967295)) (xs (i + 4).toNatClampNeg) (xs (i + 5).toNatClampNeg) hJ hN) ok_X3_copy kw_290 kw_291 kw_292 ⟨Nat.le_of_ble_eq_true rfl, Nat.le_of_ble_eq_true rfl⟩ hK hM2 hM1 hS hJ.1 rfl rfl hl.1 rfl (Nat.le_of_ble_eq_true rfl) dL_law_238 ⟨by show 20 + t + 1 + 0 ≤ 600000; omega, by show 20966 + 10 * t + 10 + 0 ≤ 7302250; omega⟩ (fun r2 M2n H locs hp2 hM2 hM1 hS => ?_)
  obtain ⟨rfl, hJ1⟩ := hp2
  refine W.eq (g2 := F0 m 241 ls [.int (zCpr N (cvm F L) (F 9) (xs (i + 1).toNatClampNeg) ((((xs (i + 2).toNatClampNeg).toInt64) <<< ((32 : Int32).toInt64 &&& 63)) ||| (((xs (i + 3).toNatClampNeg).toInt64) &&& 4294967295)) (xs (i + 4).toNatClampNeg) (xs (i + 5).toNatClampNeg)), .int (zCpr N (cvm F L) (F 9) (xs (i + 1).toNatClampNeg) ((((xs (i + 2).toNatClampNeg).toInt64) <<< ((32 : Int32).toInt64 &&& 63)) ||| (((xs (i + 3).toNatClampNeg).toInt64) &&& 4294967295)) (xs (i + 4).toNatClampNeg) (xs (i + 5).toNatClampNeg))]) rfl ?_
  refine lv_icmp_eq (tgt := 711) hx hb dL_law_241 (by decide) (fun _ => ?_) (fun q => absurd rfl q)
  exact W.widen (by show 20 + t + 1 + 0 ≤ 20 + (t + 1); omega) (by show 20966 + 10 * t + 10 + 0 ≤ 20966 + 10 * (t + 1); omega) (kk M1n M2n H locs hS hM1 hM2 (sm_copy2 hI1 hJ1 hsm))
set_option maxHeartbeats 4000000 in
set_option maxRecDepth 100000 in
theorem lc_2 {p : Program} {l : Launch} {e : Env} {s : State} {m : MethodId} {below : List Frame} {meth : Method} {c : Code} {G : zG} {b Ln : Nat} {xs : Nat → Int32} (S : CallFix p m c code 4 s #[Value.ref b] zB R_law) (hX : va_X b Ln xs s s.heap) (hbl : b < s.heap.size) (hK : zK G s) {t : Nat} (ht : t < 512) {M1 M2 : zMap} {h0 m0 : Nat} {H : Heap} {locs : List Loc} {ls : Array Slot} {i : Int32} (hi0 : vp_in i Ln) (hi1 : vp_in (i + 1) Ln) (hi2 : vp_in (i + 2) Ln) (hi3 : vp_in (i + 3) Ln) (hi4 : vp_in (i + 4) Ln) (hi5 : vp_in (i + 5) Ln) (hS : va_S (fun q => s.heap.size ≤ q) s.heap H locs) (hM1 : zM (zA s.heap.size M2) G M1 H) (hM2 : zM (zA s.heap.size M1) G M2 H) (hR : zSim G M1 M2 h0 m0 t) (hl : lv_has ls 4 [(3, .int i), (2, .ref m0), (1, .ref h0), (0, .ref b)]) {Q : State → Prop}
    (kk : ∀ (M1' M2' : zMap) (H' : Heap) (locs' : List Loc), va_S (fun q => s.heap.size ≤ q) s.heap H' locs' → zM (zA s.heap.size M2') G M1' H' → zM (zA s.heap.size M1') G M2' H' → zSim G M1' M2' h0 m0 (t + 1) → W p l e room_1 s m #[Value.ref b] below meth c H' locs' (20 + (t + 1)) (20966 + 10 * (t + 1)) Q (F0 m 711 ls [])) :
    W p l e room_1 s m #[Value.ref b] below meth c H locs (20 + t) (20966 + 10 * t) Q (F0 m 246 ls []) := by
  have hx := S.1
  have hb := S.2.1
  have hown := S.2.2.2.1
  have hts := S.2.2.2.2
  have hbA : ¬ (fun q : Nat => s.heap.size ≤ q) b := Nat.not_le.mpr hbl
  obtain ⟨cps, den, fee, N, ca, ch, ar, th, ac, gr, F, L, hI, hJ, hsm⟩ := hR
  have hN := hI.2.2.2.2.2.1
  have hact : ac ≤ t := hsm.1
  refine lv_aload_n hx hb dL_law_246 rfl (lv_at hl 2 rfl) ?_
  refine lv_aload_n hx hb dL_law_247 rfl (lv_at hl 3 rfl) ?_
  refine lv_iload_n hx hb dL_law_248 rfl (lv_at hl 0 rfl) ?_
  refine lv_iconst (v := 1) hx hb dL_law_249 (by decide) ?_
  refine lv_iadd hx hb dL_law_250 ?_
  refine va_sld hx hb hX hbl hbA hS hi1 dL_law_251 ?_
  refine lv_aload_n hx hb dL_law_252 rfl (lv_at hl 3 rfl) ?_
  refine lv_iload_n hx hb dL_law_253 rfl (lv_at hl 0 rfl) ?_
  refine lv_iconst (v := 2) hx hb dL_law_254 (by decide) ?_
  refine lv_iadd hx hb dL_law_255 ?_
  refine va_sld hx hb hX hbl hbA hS hi2 dL_law_256 ?_
  refine lv_aload_n hx hb dL_law_257 rfl (lv_at hl 3 rfl) ?_
  refine lv_iload_n hx hb dL_law_258 rfl (lv_at hl 0 rfl) ?_
  refine lv_iconst (v := 3) hx hb dL_law_259 (by decide) ?_
  refine lv_iadd hx hb dL_law_260 ?_
  refine va_sld hx hb hX hbl hbA hS hi3 dL_law_261 ?_
  refine lv_if_eq (tgt := 269) hx hb dL_law_262 (by decide) (fun c_1 => ?_) (fun c_1 => ?_)
  · refine lv_iconst (v := 0) hx hb dL_law_269 (by decide) ?_
    refine zl_call (As := [.int (xs (i + 1).toNatClampNeg), .int (xs (i + 2).toNatClampNeg), .int 0]) (rest := []) S (c_X2_right l (zA s.heap.size M2) G M1 h0 cps den fee N ca (cvm F L) ch (F 9) (F 10) gr ac (xs (i + 1).toNatClampNeg) (xs (i + 2).toNatClampNeg) 0 hI) ok_X2_right kw_118 kw_119 kw_120 ⟨Nat.le_of_ble_eq_true rfl, Nat.le_of_ble_eq_true rfl⟩ hK hM1 hM2 hS hI.1 rfl rfl hl.1 rfl (Nat.le_of_ble_eq_true rfl) dL_law_270 ⟨by show 20 + t + 0 ≤ 600000; omega, by show 20966 + 10 * t + 0 ≤ 7302250; omega⟩ (fun r1 M1n H locs hp1 hM1 hM2 hS => ?_)
    obtain ⟨rfl, hI1⟩ := hp1
    refine W.eq (g2 := F0 m 273 ls [.int (zb (zRi (F 9) (xs (i + 1).toNatClampNeg) (xs (i + 2).toNatClampNeg)))]) rfl ?_
    refine lv_aload_n hx hb dL_law_273 rfl (lv_at hl 1 rfl) ?_
    refine lv_aload_n hx hb dL_law_274 rfl (lv_at hl 3 rfl) ?_
    refine lv_iload_n hx hb dL_law_275 rfl (lv_at hl 0 rfl) ?_
    refine lv_iconst (v := 1) hx hb dL_law_276 (by decide) ?_
    refine lv_iadd hx hb dL_law_277 ?_
    refine va_sld hx hb hX hbl hbA hS hi1 dL_law_278 ?_
    refine lv_aload_n hx hb dL_law_279 rfl (lv_at hl 3 rfl) ?_
    refine lv_iload_n hx hb dL_law_280 rfl (lv_at hl 0 rfl) ?_
    refine lv_iconst (v := 2) hx hb dL_law_281 (by decide) ?_
    refine lv_iadd hx hb dL_law_282 ?_
    refine va_sld hx hb hX hbl hbA hS hi2 dL_law_283 ?_
    refine lv_aload_n hx hb dL_law_284 rfl (lv_at hl 3 rfl) ?_
    refine lv_iload_n hx hb dL_law_285 rfl (lv_at hl 0 rfl) ?_
    refine lv_iconst (v := 3) hx hb dL_law_286 (by decide) ?_
    refine lv_iadd hx hb dL_law_287 ?_
    refine va_sld hx hb hX hbl hbA hS hi3 dL_law_288 ?_
    refine lv_if_eq (tgt := 296) hx hb dL_law_289 (by decide) (fun c_2 => ?_) (fun c_2 => ?_)
    · refine lv_iconst (v := 0) hx hb dL_law_296 (by decide) ?_
      refine zl_call (As := [.int (xs (i + 1).toNatClampNeg), .int (xs (i + 2).toNatClampNeg), .int 0]) (rest := [.int (zb (zRi (F 9) (xs (i + 1).toNatClampNeg) (xs (i + 2).toNatClampNeg)))]) S (c_X3_right l (zA s.heap.size M1n) G M2 m0 ar th N ac gr F L (xs (i + 1).toNatClampNeg) (xs (i + 2).toNatClampNeg) 0 hJ hN) ok_X3_right kw_294 kw_295 kw_296 ⟨Nat.le_of_ble_eq_true rfl, Nat.le_of_ble_eq_true rfl⟩ hK hM2 hM1 hS hJ.1 rfl rfl hl.1 rfl (Nat.le_of_ble_eq_true rfl) dL_law_297 ⟨by show 20 + t + 0 + 0 ≤ 600000; omega, by show 20966 + 10 * t + 0 + 0 ≤ 7302250; omega⟩ (fun r2 M2n H locs hp2 hM2 hM1 hS => ?_)
      obtain ⟨rfl, hJ1⟩ := hp2
      refine W.eq (g2 := F0 m 300 ls [.int (zb (zRi (F 9) (xs (i + 1).toNatClampNeg) (xs (i + 2).toNatClampNeg))), .int (zb (zRi (F 9) (xs (i + 1).toNatClampNeg) (xs (i + 2).toNatClampNeg)))]) rfl ?_
      refine lv_icmp_eq (tgt := 711) hx hb dL_law_300 (by decide) (fun _ => ?_) (fun q => absurd rfl q)
      exact W.widen (by show 20 + t + 0 + 0 ≤ 20 + (t + 1); omega) (by show 20966 + 10 * t + 0 + 0 ≤ 20966 + 10 * (t + 1); omega) (kk M1n M2n H locs hS hM1 hM2 (sm_right hI1 hJ1 hsm))
    · exact absurd c_1 c_2
  · refine lv_iconst (v := 1) hx hb dL_law_265 (by decide) ?_
    refine lv_goto (tgt := 270) hx hb dL_law_266 (by decide) ?_
    refine zl_call (As := [.int (xs (i + 1).toNatClampNeg), .int (xs (i + 2).toNatClampNeg), .int 1]) (rest := []) S (c_X2_right l (zA s.heap.size M2) G M1 h0 cps den fee N ca (cvm F L) ch (F 9) (F 10) gr ac (xs (i + 1).toNatClampNeg) (xs (i + 2).toNatClampNeg) 1 hI) ok_X2_right kw_118 kw_119 kw_120 ⟨Nat.le_of_ble_eq_true rfl, Nat.le_of_ble_eq_true rfl⟩ hK hM1 hM2 hS hI.1 rfl rfl hl.1 rfl (Nat.le_of_ble_eq_true rfl) dL_law_270 ⟨by show 20 + t + 0 ≤ 600000; omega, by show 20966 + 10 * t + 0 ≤ 7302250; omega⟩ (fun r1 M1n H locs hp1 hM1 hM2 hS => ?_)
    obtain ⟨rfl, hI1⟩ := hp1
    refine W.eq (g2 := F0 m 273 ls [.int (zb (zRi (F 9) (xs (i + 1).toNatClampNeg) (xs (i + 2).toNatClampNeg)))]) rfl ?_
    refine lv_aload_n hx hb dL_law_273 rfl (lv_at hl 1 rfl) ?_
    refine lv_aload_n hx hb dL_law_274 rfl (lv_at hl 3 rfl) ?_
    refine lv_iload_n hx hb dL_law_275 rfl (lv_at hl 0 rfl) ?_
    refine lv_iconst (v := 1) hx hb dL_law_276 (by decide) ?_
    refine lv_iadd hx hb dL_law_277 ?_
    refine va_sld hx hb hX hbl hbA hS hi1 dL_law_278 ?_
    refine lv_aload_n hx hb dL_law_279 rfl (lv_at hl 3 rfl) ?_
    refine lv_iload_n hx hb dL_law_280 rfl (lv_at hl 0 rfl) ?_
    refine lv_iconst (v := 2) hx hb dL_law_281 (by decide) ?_
    refine lv_iadd hx hb dL_law_282 ?_
    refine va_sld hx hb hX hbl hbA hS hi2 dL_law_283 ?_
    refine lv_aload_n hx hb dL_law_284 rfl (lv_at hl 3 rfl) ?_
    refine lv_iload_n hx hb dL_law_285 rfl (lv_at hl 0 rfl) ?_
    refine lv_iconst (v := 3) hx hb dL_law_286 (by decide) ?_
    refine lv_iadd hx hb dL_law_287 ?_
    refine va_sld hx hb hX hbl hbA hS hi3 dL_law_288 ?_
    refine lv_if_eq (tgt := 296) hx hb dL_law_289 (by decide) (fun c_3 => ?_) (fun c_3 => ?_)
    · exact absurd c_3 c_1
    · refine lv_iconst (v := 1) hx hb dL_law_292 (by decide) ?_
      refine lv_goto (tgt := 297) hx hb dL_law_293 (by decide) ?_
      refine zl_call (As := [.int (xs (i + 1).toNatClampNeg), .int (xs (i + 2).toNatClampNeg), .int 1]) (rest := [.int (zb (zRi (F 9) (xs (i + 1).toNatClampNeg) (xs (i + 2).toNatClampNeg)))]) S (c_X3_right l (zA s.heap.size M1n) G M2 m0 ar th N ac gr F L (xs (i + 1).toNatClampNeg) (xs (i + 2).toNatClampNeg) 1 hJ hN) ok_X3_right kw_294 kw_295 kw_296 ⟨Nat.le_of_ble_eq_true rfl, Nat.le_of_ble_eq_true rfl⟩ hK hM2 hM1 hS hJ.1 rfl rfl hl.1 rfl (Nat.le_of_ble_eq_true rfl) dL_law_297 ⟨by show 20 + t + 0 + 0 ≤ 600000; omega, by show 20966 + 10 * t + 0 + 0 ≤ 7302250; omega⟩ (fun r2 M2n H locs hp2 hM2 hM1 hS => ?_)
      obtain ⟨rfl, hJ1⟩ := hp2
      refine W.eq (g2 := F0 m 300 ls [.int (zb (zRi (F 9) (xs (i + 1).toNatClampNeg) (xs (i + 2).toNatClampNeg))), .int (zb (zRi (F 9) (xs (i + 1).toNatClampNeg) (xs (i + 2).toNatClampNeg)))]) rfl ?_
      refine lv_icmp_eq (tgt := 711) hx hb dL_law_300 (by decide) (fun _ => ?_) (fun q => absurd rfl q)
      exact W.widen (by show 20 + t + 0 + 0 ≤ 20 + (t + 1); omega) (by show 20966 + 10 * t + 0 + 0 ≤ 20966 + 10 * (t + 1); omega) (kk M1n M2n H locs hS hM1 hM2 (sm_right hI1 hJ1 hsm))
set_option maxHeartbeats 4000000 in
set_option maxRecDepth 100000 in
theorem lc_3 {p : Program} {l : Launch} {e : Env} {s : State} {m : MethodId} {below : List Frame} {meth : Method} {c : Code} {G : zG} {b Ln : Nat} {xs : Nat → Int32} (S : CallFix p m c code 4 s #[Value.ref b] zB R_law) (hX : va_X b Ln xs s s.heap) (hbl : b < s.heap.size) (hK : zK G s) {t : Nat} (ht : t < 512) {M1 M2 : zMap} {h0 m0 : Nat} {H : Heap} {locs : List Loc} {ls : Array Slot} {i : Int32} (hi0 : vp_in i Ln) (hi1 : vp_in (i + 1) Ln) (hi2 : vp_in (i + 2) Ln) (hi3 : vp_in (i + 3) Ln) (hi4 : vp_in (i + 4) Ln) (hi5 : vp_in (i + 5) Ln) (hS : va_S (fun q => s.heap.size ≤ q) s.heap H locs) (hM1 : zM (zA s.heap.size M2) G M1 H) (hM2 : zM (zA s.heap.size M1) G M2 H) (hR : zSim G M1 M2 h0 m0 t) (hl : lv_has ls 4 [(3, .int i), (2, .ref m0), (1, .ref h0), (0, .ref b)]) {Q : State → Prop}
    (kk : ∀ (M1' M2' : zMap) (H' : Heap) (locs' : List Loc), va_S (fun q => s.heap.size ≤ q) s.heap H' locs' → zM (zA s.heap.size M2') G M1' H' → zM (zA s.heap.size M1') G M2' H' → zSim G M1' M2' h0 m0 (t + 1) → W p l e room_1 s m #[Value.ref b] below meth c H' locs' (20 + (t + 1)) (20966 + 10 * (t + 1)) Q (F0 m 711 ls [])) :
    W p l e room_1 s m #[Value.ref b] below meth c H locs (20 + t) (20966 + 10 * t) Q (F0 m 305 ls []) := by
  have hx := S.1
  have hb := S.2.1
  have hown := S.2.2.2.1
  have hts := S.2.2.2.2
  have hbA : ¬ (fun q : Nat => s.heap.size ≤ q) b := Nat.not_le.mpr hbl
  obtain ⟨cps, den, fee, N, ca, ch, ar, th, ac, gr, F, L, hI, hJ, hsm⟩ := hR
  have hN := hI.2.2.2.2.2.1
  have hact : ac ≤ t := hsm.1
  refine lv_aload_n hx hb dL_law_305 rfl (lv_at hl 2 rfl) ?_
  refine lv_aload_n hx hb dL_law_306 rfl (lv_at hl 3 rfl) ?_
  refine lv_iload_n hx hb dL_law_307 rfl (lv_at hl 0 rfl) ?_
  refine lv_iconst (v := 1) hx hb dL_law_308 (by decide) ?_
  refine lv_iadd hx hb dL_law_309 ?_
  refine va_sld hx hb hX hbl hbA hS hi1 dL_law_310 ?_
  refine lv_aload_n hx hb dL_law_311 rfl (lv_at hl 3 rfl) ?_
  refine lv_iload_n hx hb dL_law_312 rfl (lv_at hl 0 rfl) ?_
  refine lv_iconst (v := 2) hx hb dL_law_313 (by decide) ?_
  refine lv_iadd hx hb dL_law_314 ?_
  refine va_sld hx hb hX hbl hbA hS hi2 dL_law_315 ?_
  refine zl_call (As := [.int (xs (i + 1).toNatClampNeg), .int (xs (i + 2).toNatClampNeg)]) (rest := []) S (c_X2_fee l (zA s.heap.size M2) G M1 h0 cps den fee N ca (cvm F L) ch (F 9) (F 10) gr ac (xs (i + 1).toNatClampNeg) (xs (i + 2).toNatClampNeg) hI) ok_X2_fee kw_122 kw_123 kw_124 ⟨Nat.le_of_ble_eq_true rfl, Nat.le_of_ble_eq_true rfl⟩ hK hM1 hM2 hS hI.1 rfl rfl hl.1 rfl (Nat.le_of_ble_eq_true rfl) dL_law_316 ⟨by show 20 + t + 0 ≤ 600000; omega, by show 20966 + 10 * t + 0 ≤ 7302250; omega⟩ (fun r1 M1n H locs hp1 hM1 hM2 hS => ?_)
  obtain ⟨rfl, hI1⟩ := hp1
  refine W.eq (g2 := F0 m 319 ls [.int (zFr (xs (i + 1).toNatClampNeg) (xs (i + 2).toNatClampNeg) (F 10))]) rfl ?_
  refine lv_aload_n hx hb dL_law_319 rfl (lv_at hl 1 rfl) ?_
  refine lv_aload_n hx hb dL_law_320 rfl (lv_at hl 3 rfl) ?_
  refine lv_iload_n hx hb dL_law_321 rfl (lv_at hl 0 rfl) ?_
  refine lv_iconst (v := 1) hx hb dL_law_322 (by decide) ?_
  refine lv_iadd hx hb dL_law_323 ?_
  refine va_sld hx hb hX hbl hbA hS hi1 dL_law_324 ?_
  refine lv_aload_n hx hb dL_law_325 rfl (lv_at hl 3 rfl) ?_
  refine lv_iload_n hx hb dL_law_326 rfl (lv_at hl 0 rfl) ?_
  refine lv_iconst (v := 2) hx hb dL_law_327 (by decide) ?_
  refine lv_iadd hx hb dL_law_328 ?_
  refine va_sld hx hb hX hbl hbA hS hi2 dL_law_329 ?_
  refine zl_call (As := [.int (xs (i + 1).toNatClampNeg), .int (xs (i + 2).toNatClampNeg)]) (rest := [.int (zFr (xs (i + 1).toNatClampNeg) (xs (i + 2).toNatClampNeg) (F 10))]) S (c_X3_fee l (zA s.heap.size M1n) G M2 m0 ar th N ac gr F L (xs (i + 1).toNatClampNeg) (xs (i + 2).toNatClampNeg) hJ hN) ok_X3_fee kw_298 kw_299 kw_300 ⟨Nat.le_of_ble_eq_true rfl, Nat.le_of_ble_eq_true rfl⟩ hK hM2 hM1 hS hJ.1 rfl rfl hl.1 rfl (Nat.le_of_ble_eq_true rfl) dL_law_330 ⟨by show 20 + t + 0 + 0 ≤ 600000; omega, by show 20966 + 10 * t + 0 + 0 ≤ 7302250; omega⟩ (fun r2 M2n H locs hp2 hM2 hM1 hS => ?_)
  obtain ⟨rfl, hJ1⟩ := hp2
  refine W.eq (g2 := F0 m 333 ls [.int (zFr (xs (i + 1).toNatClampNeg) (xs (i + 2).toNatClampNeg) (F 10)), .int (zFr (xs (i + 1).toNatClampNeg) (xs (i + 2).toNatClampNeg) (F 10))]) rfl ?_
  refine lv_icmp_eq (tgt := 711) hx hb dL_law_333 (by decide) (fun _ => ?_) (fun q => absurd rfl q)
  exact W.widen (by show 20 + t + 0 + 0 ≤ 20 + (t + 1); omega) (by show 20966 + 10 * t + 0 + 0 ≤ 20966 + 10 * (t + 1); omega) (kk M1n M2n H locs hS hM1 hM2 (sm_fee hI1 hJ1 hsm))
set_option maxHeartbeats 4000000 in
set_option maxRecDepth 100000 in
theorem lc_4 {p : Program} {l : Launch} {e : Env} {s : State} {m : MethodId} {below : List Frame} {meth : Method} {c : Code} {G : zG} {b Ln : Nat} {xs : Nat → Int32} (S : CallFix p m c code 4 s #[Value.ref b] zB R_law) (hX : va_X b Ln xs s s.heap) (hbl : b < s.heap.size) (hK : zK G s) {t : Nat} (ht : t < 512) {M1 M2 : zMap} {h0 m0 : Nat} {H : Heap} {locs : List Loc} {ls : Array Slot} {i : Int32} (hi0 : vp_in i Ln) (hi1 : vp_in (i + 1) Ln) (hi2 : vp_in (i + 2) Ln) (hi3 : vp_in (i + 3) Ln) (hi4 : vp_in (i + 4) Ln) (hi5 : vp_in (i + 5) Ln) (hS : va_S (fun q => s.heap.size ≤ q) s.heap H locs) (hM1 : zM (zA s.heap.size M2) G M1 H) (hM2 : zM (zA s.heap.size M1) G M2 H) (hR : zSim G M1 M2 h0 m0 t) (hl : lv_has ls 4 [(3, .int i), (2, .ref m0), (1, .ref h0), (0, .ref b)]) {Q : State → Prop}
    (kk : ∀ (M1' M2' : zMap) (H' : Heap) (locs' : List Loc), va_S (fun q => s.heap.size ≤ q) s.heap H' locs' → zM (zA s.heap.size M2') G M1' H' → zM (zA s.heap.size M1') G M2' H' → zSim G M1' M2' h0 m0 (t + 1) → W p l e room_1 s m #[Value.ref b] below meth c H' locs' (20 + (t + 1)) (20966 + 10 * (t + 1)) Q (F0 m 711 ls [])) :
    W p l e room_1 s m #[Value.ref b] below meth c H locs (20 + t) (20966 + 10 * t) Q (F0 m 338 ls []) := by
  have hx := S.1
  have hb := S.2.1
  have hown := S.2.2.2.1
  have hts := S.2.2.2.2
  have hbA : ¬ (fun q : Nat => s.heap.size ≤ q) b := Nat.not_le.mpr hbl
  obtain ⟨cps, den, fee, N, ca, ch, ar, th, ac, gr, F, L, hI, hJ, hsm⟩ := hR
  have hN := hI.2.2.2.2.2.1
  have hact : ac ≤ t := hsm.1
  refine lv_aload_n hx hb dL_law_338 rfl (lv_at hl 2 rfl) ?_
  refine lv_aload_n hx hb dL_law_339 rfl (lv_at hl 3 rfl) ?_
  refine lv_iload_n hx hb dL_law_340 rfl (lv_at hl 0 rfl) ?_
  refine lv_iconst (v := 1) hx hb dL_law_341 (by decide) ?_
  refine lv_iadd hx hb dL_law_342 ?_
  refine va_sld hx hb hX hbl hbA hS hi1 dL_law_343 ?_
  refine lv_aload_n hx hb dL_law_344 rfl (lv_at hl 3 rfl) ?_
  refine lv_iload_n hx hb dL_law_345 rfl (lv_at hl 0 rfl) ?_
  refine lv_iconst (v := 2) hx hb dL_law_346 (by decide) ?_
  refine lv_iadd hx hb dL_law_347 ?_
  refine va_sld hx hb hX hbl hbA hS hi2 dL_law_348 ?_
  refine lv_aload_n hx hb dL_law_349 rfl (lv_at hl 3 rfl) ?_
  refine lv_iload_n hx hb dL_law_350 rfl (lv_at hl 0 rfl) ?_
  refine lv_iconst (v := 3) hx hb dL_law_351 (by decide) ?_
  refine lv_iadd hx hb dL_law_352 ?_
  refine va_sld hx hb hX hbl hbA hS hi3 dL_law_353 ?_
  refine lv_aload_n hx hb dL_law_354 rfl (lv_at hl 3 rfl) ?_
  refine lv_iload_n hx hb dL_law_355 rfl (lv_at hl 0 rfl) ?_
  refine lv_iconst (v := 4) hx hb dL_law_356 (by decide) ?_
  refine lv_iadd hx hb dL_law_357 ?_
  refine va_sld hx hb hX hbl hbA hS hi4 dL_law_358 ?_
  refine lv_i2l (v := (xs (i + 4).toNatClampNeg).toInt64) hx hb dL_law_359 rfl ?_
  refine lv_bipush (v := 32) hx hb dL_law_360 (by decide) ?_
  refine lv_lshl (v := ((xs (i + 4).toNatClampNeg).toInt64) <<< ((32 : Int32).toInt64 &&& 63)) hx hb dL_law_362 rfl ?_
  refine lv_aload_n hx hb dL_law_363 rfl (lv_at hl 3 rfl) ?_
  refine lv_iload_n hx hb dL_law_364 rfl (lv_at hl 0 rfl) ?_
  refine lv_iconst (v := 5) hx hb dL_law_365 (by decide) ?_
  refine lv_iadd hx hb dL_law_366 ?_
  refine va_sld hx hb hX hbl hbA hS hi5 dL_law_367 ?_
  refine lv_i2l (v := (xs (i + 5).toNatClampNeg).toInt64) hx hb dL_law_368 rfl ?_
  refine lv_ldc2 (v := 4294967295) hx hb hown (hts _ kw_355) dL_law_369 ?_
  refine lv_land hx hb dL_law_372 ?_
  refine lv_lor hx hb dL_law_373 ?_
  refine zl_call (As := [.int (xs (i + 1).toNatClampNeg), .int (xs (i + 2).toNatClampNeg), .int (xs (i + 3).toNatClampNeg), .long ((((xs (i + 4).toNatClampNeg).toInt64) <<< ((32 : Int32).toInt64 &&& 63)) ||| (((xs (i + 5).toNatClampNeg).toInt64) &&& 4294967295))]) (rest := []) S (c_X2_act l (zA s.heap.size M2) G M1 h0 cps den fee N ca (cvm F L) ch (F 9) (F 10) gr ac (xs (i + 1).toNatClampNeg) (xs (i + 2).toNatClampNeg) (xs (i + 3).toNatClampNeg) ((((xs (i + 4).toNatClampNeg).toInt64) <<< ((32 : Int32).toInt64 &&& 63)) ||| (((xs (i + 5).toNatClampNeg).toInt64) &&& 4294967295)) hI) ok_X2_act kw_127 kw_128 kw_129 ⟨Nat.le_of_ble_eq_true rfl, Nat.le_of_ble_eq_true rfl⟩ hK hM1 hM2 hS hI.1 rfl rfl hl.1 rfl (Nat.le_of_ble_eq_true rfl) dL_law_374 ⟨by show 20 + t + 1 ≤ 600000; omega, by show 20966 + 10 * t + 4 ≤ 7302250; omega⟩ (fun r1 M1n H locs hp1 hM1 hM2 hS => ?_)
  obtain ⟨x1, rfl⟩ := zAQ_r hp1
  refine W.eq (g2 := F0 m 377 ls [.int x1]) rfl ?_
  refine lv_aload_n hx hb dL_law_377 rfl (lv_at hl 1 rfl) ?_
  refine lv_aload_n hx hb dL_law_378 rfl (lv_at hl 3 rfl) ?_
  refine lv_iload_n hx hb dL_law_379 rfl (lv_at hl 0 rfl) ?_
  refine lv_iconst (v := 1) hx hb dL_law_380 (by decide) ?_
  refine lv_iadd hx hb dL_law_381 ?_
  refine va_sld hx hb hX hbl hbA hS hi1 dL_law_382 ?_
  refine lv_aload_n hx hb dL_law_383 rfl (lv_at hl 3 rfl) ?_
  refine lv_iload_n hx hb dL_law_384 rfl (lv_at hl 0 rfl) ?_
  refine lv_iconst (v := 2) hx hb dL_law_385 (by decide) ?_
  refine lv_iadd hx hb dL_law_386 ?_
  refine va_sld hx hb hX hbl hbA hS hi2 dL_law_387 ?_
  refine lv_aload_n hx hb dL_law_388 rfl (lv_at hl 3 rfl) ?_
  refine lv_iload_n hx hb dL_law_389 rfl (lv_at hl 0 rfl) ?_
  refine lv_iconst (v := 3) hx hb dL_law_390 (by decide) ?_
  refine lv_iadd hx hb dL_law_391 ?_
  refine va_sld hx hb hX hbl hbA hS hi3 dL_law_392 ?_
  refine lv_aload_n hx hb dL_law_393 rfl (lv_at hl 3 rfl) ?_
  refine lv_iload_n hx hb dL_law_394 rfl (lv_at hl 0 rfl) ?_
  refine lv_iconst (v := 4) hx hb dL_law_395 (by decide) ?_
  refine lv_iadd hx hb dL_law_396 ?_
  refine va_sld hx hb hX hbl hbA hS hi4 dL_law_397 ?_
  refine lv_i2l (v := (xs (i + 4).toNatClampNeg).toInt64) hx hb dL_law_398 rfl ?_
  refine lv_bipush (v := 32) hx hb dL_law_399 (by decide) ?_
  refine lv_lshl (v := ((xs (i + 4).toNatClampNeg).toInt64) <<< ((32 : Int32).toInt64 &&& 63)) hx hb dL_law_401 rfl ?_
  refine lv_aload_n hx hb dL_law_402 rfl (lv_at hl 3 rfl) ?_
  refine lv_iload_n hx hb dL_law_403 rfl (lv_at hl 0 rfl) ?_
  refine lv_iconst (v := 5) hx hb dL_law_404 (by decide) ?_
  refine lv_iadd hx hb dL_law_405 ?_
  refine va_sld hx hb hX hbl hbA hS hi5 dL_law_406 ?_
  refine lv_i2l (v := (xs (i + 5).toNatClampNeg).toInt64) hx hb dL_law_407 rfl ?_
  refine lv_ldc2 (v := 4294967295) hx hb hown (hts _ kw_355) dL_law_408 ?_
  refine lv_land hx hb dL_law_411 ?_
  refine lv_lor hx hb dL_law_412 ?_
  refine zl_call (As := [.int (xs (i + 1).toNatClampNeg), .int (xs (i + 2).toNatClampNeg), .int (xs (i + 3).toNatClampNeg), .long ((((xs (i + 4).toNatClampNeg).toInt64) <<< ((32 : Int32).toInt64 &&& 63)) ||| (((xs (i + 5).toNatClampNeg).toInt64) &&& 4294967295))]) (rest := [.int x1]) S (c_X3_act l (zA s.heap.size M1n) G M2 m0 ar th N ac gr F L (xs (i + 1).toNatClampNeg) (xs (i + 2).toNatClampNeg) (xs (i + 3).toNatClampNeg) ((((xs (i + 4).toNatClampNeg).toInt64) <<< ((32 : Int32).toInt64 &&& 63)) ||| (((xs (i + 5).toNatClampNeg).toInt64) &&& 4294967295)) hJ hN (by omega) (by omega) hsm.2.2.2.2.2.1 (fun j hj => ⟨(hsm.2.2.2.1 j hj).1, (hsm.2.2.2.1 j hj).2.1⟩)) ok_X3_act kw_315 kw_316 kw_317 ⟨Nat.le_of_ble_eq_true rfl, Nat.le_of_ble_eq_true rfl⟩ hK hM2 hM1 hS hJ.1 rfl rfl hl.1 rfl (Nat.le_of_ble_eq_true rfl) dL_law_413 ⟨by show 20 + t + 1 + 0 ≤ 600000; omega, by show 20966 + 10 * t + 4 + 0 ≤ 7302250; omega⟩ (fun r2 M2n H locs hp2 hM2 hM1 hS => ?_)
  obtain ⟨x2, ex1, rfl, hsim⟩ := sm_act hN (by omega) hsm hp1 hp2
  cases ex1
  refine W.eq (g2 := F0 m 416 ls [.int x1, .int x1]) rfl ?_
  refine lv_icmp_eq (tgt := 711) hx hb dL_law_416 (by decide) (fun _ => ?_) (fun q => absurd rfl q)
  exact W.widen (by show 20 + t + 1 + 0 ≤ 20 + (t + 1); omega) (by show 20966 + 10 * t + 4 + 0 ≤ 20966 + 10 * (t + 1); omega) (kk M1n M2n H locs hS hM1 hM2 hsim)
set_option maxHeartbeats 4000000 in
set_option maxRecDepth 100000 in
theorem lc_5 {p : Program} {l : Launch} {e : Env} {s : State} {m : MethodId} {below : List Frame} {meth : Method} {c : Code} {G : zG} {b Ln : Nat} {xs : Nat → Int32} (S : CallFix p m c code 4 s #[Value.ref b] zB R_law) (hX : va_X b Ln xs s s.heap) (hbl : b < s.heap.size) (hK : zK G s) {t : Nat} (ht : t < 512) {M1 M2 : zMap} {h0 m0 : Nat} {H : Heap} {locs : List Loc} {ls : Array Slot} {i : Int32} (hi0 : vp_in i Ln) (hi1 : vp_in (i + 1) Ln) (hi2 : vp_in (i + 2) Ln) (hi3 : vp_in (i + 3) Ln) (hi4 : vp_in (i + 4) Ln) (hi5 : vp_in (i + 5) Ln) (hS : va_S (fun q => s.heap.size ≤ q) s.heap H locs) (hM1 : zM (zA s.heap.size M2) G M1 H) (hM2 : zM (zA s.heap.size M1) G M2 H) (hR : zSim G M1 M2 h0 m0 t) (hl : lv_has ls 4 [(3, .int i), (2, .ref m0), (1, .ref h0), (0, .ref b)]) {Q : State → Prop}
    (kk : ∀ (M1' M2' : zMap) (H' : Heap) (locs' : List Loc), va_S (fun q => s.heap.size ≤ q) s.heap H' locs' → zM (zA s.heap.size M2') G M1' H' → zM (zA s.heap.size M1') G M2' H' → zSim G M1' M2' h0 m0 (t + 1) → W p l e room_1 s m #[Value.ref b] below meth c H' locs' (20 + (t + 1)) (20966 + 10 * (t + 1)) Q (F0 m 711 ls [])) :
    W p l e room_1 s m #[Value.ref b] below meth c H locs (20 + t) (20966 + 10 * t) Q (F0 m 421 ls []) := by
  have hx := S.1
  have hb := S.2.1
  have hown := S.2.2.2.1
  have hts := S.2.2.2.2
  have hbA : ¬ (fun q : Nat => s.heap.size ≤ q) b := Nat.not_le.mpr hbl
  obtain ⟨cps, den, fee, N, ca, ch, ar, th, ac, gr, F, L, hI, hJ, hsm⟩ := hR
  have hN := hI.2.2.2.2.2.1
  have hact : ac ≤ t := hsm.1
  refine lv_aload_n hx hb dL_law_421 rfl (lv_at hl 2 rfl) ?_
  refine lv_aload_n hx hb dL_law_422 rfl (lv_at hl 3 rfl) ?_
  refine lv_iload_n hx hb dL_law_423 rfl (lv_at hl 0 rfl) ?_
  refine lv_iconst (v := 1) hx hb dL_law_424 (by decide) ?_
  refine lv_iadd hx hb dL_law_425 ?_
  refine va_sld hx hb hX hbl hbA hS hi1 dL_law_426 ?_
  refine lv_aload_n hx hb dL_law_427 rfl (lv_at hl 3 rfl) ?_
  refine lv_iload_n hx hb dL_law_428 rfl (lv_at hl 0 rfl) ?_
  refine lv_iconst (v := 2) hx hb dL_law_429 (by decide) ?_
  refine lv_iadd hx hb dL_law_430 ?_
  refine va_sld hx hb hX hbl hbA hS hi2 dL_law_431 ?_
  refine lv_i2l (v := (xs (i + 2).toNatClampNeg).toInt64) hx hb dL_law_432 rfl ?_
  refine lv_bipush (v := 32) hx hb dL_law_433 (by decide) ?_
  refine lv_lshl (v := ((xs (i + 2).toNatClampNeg).toInt64) <<< ((32 : Int32).toInt64 &&& 63)) hx hb dL_law_435 rfl ?_
  refine lv_aload_n hx hb dL_law_436 rfl (lv_at hl 3 rfl) ?_
  refine lv_iload_n hx hb dL_law_437 rfl (lv_at hl 0 rfl) ?_
  refine lv_iconst (v := 3) hx hb dL_law_438 (by decide) ?_
  refine lv_iadd hx hb dL_law_439 ?_
  refine va_sld hx hb hX hbl hbA hS hi3 dL_law_440 ?_
  refine lv_i2l (v := (xs (i + 3).toNatClampNeg).toInt64) hx hb dL_law_441 rfl ?_
  refine lv_ldc2 (v := 4294967295) hx hb hown (hts _ kw_355) dL_law_442 ?_
  refine lv_land hx hb dL_law_445 ?_
  refine lv_lor hx hb dL_law_446 ?_
  refine zl_call (As := [.int (xs (i + 1).toNatClampNeg), .long ((((xs (i + 2).toNatClampNeg).toInt64) <<< ((32 : Int32).toInt64 &&& 63)) ||| (((xs (i + 3).toNatClampNeg).toInt64) &&& 4294967295))]) (rest := []) S (c_X2_state l (zA s.heap.size M2) G M1 h0 cps den fee N ca (cvm F L) ch (F 9) (F 10) gr ac (xs (i + 1).toNatClampNeg) ((((xs (i + 2).toNatClampNeg).toInt64) <<< ((32 : Int32).toInt64 &&& 63)) ||| (((xs (i + 3).toNatClampNeg).toInt64) &&& 4294967295)) hI) ok_X2_state kw_179 kw_180 kw_181 ⟨Nat.le_of_ble_eq_true rfl, Nat.le_of_ble_eq_true rfl⟩ hK hM1 hM2 hS hI.1 rfl rfl hl.1 rfl (Nat.le_of_ble_eq_true rfl) dL_law_447 ⟨by show 20 + t + 0 ≤ 600000; omega, by show 20966 + 10 * t + 0 ≤ 7302250; omega⟩ (fun r1 M1n H locs hp1 hM1 hM2 hS => ?_)
  obtain ⟨rfl, hM9⟩ := hp1
  rw [hM9] at hM1 hM2
  refine W.eq (g2 := F0 m 450 ls [.int (zsel N (xs (i + 1).toNatClampNeg) (-1) (fun j => zSt ((((xs (i + 2).toNatClampNeg).toInt64) <<< ((32 : Int32).toInt64 &&& 63)) ||| (((xs (i + 3).toNatClampNeg).toInt64) &&& 4294967295)) (ch j)))]) rfl ?_
  refine lv_aload_n hx hb dL_law_450 rfl (lv_at hl 1 rfl) ?_
  refine lv_aload_n hx hb dL_law_451 rfl (lv_at hl 3 rfl) ?_
  refine lv_iload_n hx hb dL_law_452 rfl (lv_at hl 0 rfl) ?_
  refine lv_iconst (v := 1) hx hb dL_law_453 (by decide) ?_
  refine lv_iadd hx hb dL_law_454 ?_
  refine va_sld hx hb hX hbl hbA hS hi1 dL_law_455 ?_
  refine lv_aload_n hx hb dL_law_456 rfl (lv_at hl 3 rfl) ?_
  refine lv_iload_n hx hb dL_law_457 rfl (lv_at hl 0 rfl) ?_
  refine lv_iconst (v := 2) hx hb dL_law_458 (by decide) ?_
  refine lv_iadd hx hb dL_law_459 ?_
  refine va_sld hx hb hX hbl hbA hS hi2 dL_law_460 ?_
  refine lv_i2l (v := (xs (i + 2).toNatClampNeg).toInt64) hx hb dL_law_461 rfl ?_
  refine lv_bipush (v := 32) hx hb dL_law_462 (by decide) ?_
  refine lv_lshl (v := ((xs (i + 2).toNatClampNeg).toInt64) <<< ((32 : Int32).toInt64 &&& 63)) hx hb dL_law_464 rfl ?_
  refine lv_aload_n hx hb dL_law_465 rfl (lv_at hl 3 rfl) ?_
  refine lv_iload_n hx hb dL_law_466 rfl (lv_at hl 0 rfl) ?_
  refine lv_iconst (v := 3) hx hb dL_law_467 (by decide) ?_
  refine lv_iadd hx hb dL_law_468 ?_
  refine va_sld hx hb hX hbl hbA hS hi3 dL_law_469 ?_
  refine lv_i2l (v := (xs (i + 3).toNatClampNeg).toInt64) hx hb dL_law_470 rfl ?_
  refine lv_ldc2 (v := 4294967295) hx hb hown (hts _ kw_355) dL_law_471 ?_
  refine lv_land hx hb dL_law_474 ?_
  refine lv_lor hx hb dL_law_475 ?_
  refine zl_call (As := [.int (xs (i + 1).toNatClampNeg), .long ((((xs (i + 2).toNatClampNeg).toInt64) <<< ((32 : Int32).toInt64 &&& 63)) ||| (((xs (i + 3).toNatClampNeg).toInt64) &&& 4294967295))]) (rest := [.int (zsel N (xs (i + 1).toNatClampNeg) (-1) (fun j => zSt ((((xs (i + 2).toNatClampNeg).toInt64) <<< ((32 : Int32).toInt64 &&& 63)) ||| (((xs (i + 3).toNatClampNeg).toInt64) &&& 4294967295)) (ch j)))]) S (c_X3_state l (zA s.heap.size M1) G M2 m0 ar th N ac gr F L (xs (i + 1).toNatClampNeg) ((((xs (i + 2).toNatClampNeg).toInt64) <<< ((32 : Int32).toInt64 &&& 63)) ||| (((xs (i + 3).toNatClampNeg).toInt64) &&& 4294967295)) hJ hN (by omega)) ok_X3_state kw_303 kw_304 kw_305 ⟨Nat.le_of_ble_eq_true rfl, Nat.le_of_ble_eq_true rfl⟩ hK hM2 hM1 hS hJ.1 rfl rfl hl.1 rfl (Nat.le_of_ble_eq_true rfl) dL_law_476 ⟨by show 20 + t + 0 + 0 ≤ 600000; omega, by show 20966 + 10 * t + 0 + 0 ≤ 7302250; omega⟩ (fun r2 M2n H locs hp2 hM2 hM1 hS => ?_)
  obtain ⟨rfl, hJ1⟩ := hp2
  refine W.eq (g2 := F0 m 479 ls [.int (zsel N (xs (i + 1).toNatClampNeg) (-1) (fun j => zms (F 11) (F 12) (L 14) (nI (j + 1)) ((((xs (i + 2).toNatClampNeg).toInt64) <<< ((32 : Int32).toInt64 &&& 63)) ||| (((xs (i + 3).toNatClampNeg).toInt64) &&& 4294967295)) ac)), .int (zsel N (xs (i + 1).toNatClampNeg) (-1) (fun j => zSt ((((xs (i + 2).toNatClampNeg).toInt64) <<< ((32 : Int32).toInt64 &&& 63)) ||| (((xs (i + 3).toNatClampNeg).toInt64) &&& 4294967295)) (ch j)))]) rfl ?_
  refine lv_icmp_eq (tgt := 711) hx hb dL_law_479 (by decide) (fun _ => ?_) (fun q => absurd (zsel_cg hN (fun j hj => by rw [zSt_map, hsm.2.1 j hj, zst_eq hsm.2.2.1])) q)
  exact W.widen (by show 20 + t + 0 + 0 ≤ 20 + (t + 1); omega) (by show 20966 + 10 * t + 0 + 0 ≤ 20966 + 10 * (t + 1); omega) (kk M1 M2n H locs hS hM1 hM2 (sm_same hI hJ1 hsm))
set_option maxHeartbeats 4000000 in
set_option maxRecDepth 100000 in
theorem lc_6 {p : Program} {l : Launch} {e : Env} {s : State} {m : MethodId} {below : List Frame} {meth : Method} {c : Code} {G : zG} {b Ln : Nat} {xs : Nat → Int32} (S : CallFix p m c code 4 s #[Value.ref b] zB R_law) (hX : va_X b Ln xs s s.heap) (hbl : b < s.heap.size) (hK : zK G s) {t : Nat} (ht : t < 512) {M1 M2 : zMap} {h0 m0 : Nat} {H : Heap} {locs : List Loc} {ls : Array Slot} {i : Int32} (hi0 : vp_in i Ln) (hi1 : vp_in (i + 1) Ln) (hi2 : vp_in (i + 2) Ln) (hi3 : vp_in (i + 3) Ln) (hi4 : vp_in (i + 4) Ln) (hi5 : vp_in (i + 5) Ln) (hS : va_S (fun q => s.heap.size ≤ q) s.heap H locs) (hM1 : zM (zA s.heap.size M2) G M1 H) (hM2 : zM (zA s.heap.size M1) G M2 H) (hR : zSim G M1 M2 h0 m0 t) (hl : lv_has ls 4 [(3, .int i), (2, .ref m0), (1, .ref h0), (0, .ref b)]) {Q : State → Prop}
    (kk : ∀ (M1' M2' : zMap) (H' : Heap) (locs' : List Loc), va_S (fun q => s.heap.size ≤ q) s.heap H' locs' → zM (zA s.heap.size M2') G M1' H' → zM (zA s.heap.size M1') G M2' H' → zSim G M1' M2' h0 m0 (t + 1) → W p l e room_1 s m #[Value.ref b] below meth c H' locs' (20 + (t + 1)) (20966 + 10 * (t + 1)) Q (F0 m 711 ls [])) :
    W p l e room_1 s m #[Value.ref b] below meth c H locs (20 + t) (20966 + 10 * t) Q (F0 m 484 ls []) := by
  have hx := S.1
  have hb := S.2.1
  have hown := S.2.2.2.1
  have hts := S.2.2.2.2
  have hbA : ¬ (fun q : Nat => s.heap.size ≤ q) b := Nat.not_le.mpr hbl
  obtain ⟨cps, den, fee, N, ca, ch, ar, th, ac, gr, F, L, hI, hJ, hsm⟩ := hR
  have hN := hI.2.2.2.2.2.1
  have hact : ac ≤ t := hsm.1
  refine lv_aload_n hx hb dL_law_484 rfl (lv_at hl 2 rfl) ?_
  refine lv_aload_n hx hb dL_law_485 rfl (lv_at hl 3 rfl) ?_
  refine lv_iload_n hx hb dL_law_486 rfl (lv_at hl 0 rfl) ?_
  refine lv_iconst (v := 1) hx hb dL_law_487 (by decide) ?_
  refine lv_iadd hx hb dL_law_488 ?_
  refine va_sld hx hb hX hbl hbA hS hi1 dL_law_489 ?_
  refine zl_call (As := [.int (xs (i + 1).toNatClampNeg)]) (rest := []) S (c_X2_place l (zA s.heap.size M2) G M1 h0 cps den fee N ca (cvm F L) ch (F 9) (F 10) gr ac (xs (i + 1).toNatClampNeg) hI) ok_X2_place kw_183 kw_184 kw_185 ⟨Nat.le_of_ble_eq_true rfl, Nat.le_of_ble_eq_true rfl⟩ hK hM1 hM2 hS hI.1 rfl rfl hl.1 rfl (Nat.le_of_ble_eq_true rfl) dL_law_490 ⟨by show 20 + t + 0 ≤ 600000; omega, by show 20966 + 10 * t + 0 ≤ 7302250; omega⟩ (fun r1 M1n H locs hp1 hM1 hM2 hS => ?_)
  obtain ⟨rfl, hM9⟩ := hp1
  rw [hM9] at hM1 hM2
  refine W.eq (g2 := F0 m 493 ls [.int (zsel N (xs (i + 1).toNatClampNeg) (-1) (fun j => (cvm F L j).2.2.2.2.1))]) rfl ?_
  refine lv_aload_n hx hb dL_law_493 rfl (lv_at hl 1 rfl) ?_
  refine lv_aload_n hx hb dL_law_494 rfl (lv_at hl 3 rfl) ?_
  refine lv_iload_n hx hb dL_law_495 rfl (lv_at hl 0 rfl) ?_
  refine lv_iconst (v := 1) hx hb dL_law_496 (by decide) ?_
  refine lv_iadd hx hb dL_law_497 ?_
  refine va_sld hx hb hX hbl hbA hS hi1 dL_law_498 ?_
  refine zl_call (As := [.int (xs (i + 1).toNatClampNeg)]) (rest := [.int (zsel N (xs (i + 1).toNatClampNeg) (-1) (fun j => (cvm F L j).2.2.2.2.1))]) S (c_X3_place l (zA s.heap.size M1) G M2 m0 ar th N ac gr F L (xs (i + 1).toNatClampNeg) hJ hN) ok_X3_place kw_331 kw_332 kw_333 ⟨Nat.le_of_ble_eq_true rfl, Nat.le_of_ble_eq_true rfl⟩ hK hM2 hM1 hS hJ.1 rfl rfl hl.1 rfl (Nat.le_of_ble_eq_true rfl) dL_law_499 ⟨by show 20 + t + 0 + 0 ≤ 600000; omega, by show 20966 + 10 * t + 0 + 0 ≤ 7302250; omega⟩ (fun r2 M2n H locs hp2 hM2 hM1 hS => ?_)
  obtain ⟨rfl, hJ1⟩ := hp2
  refine W.eq (g2 := F0 m 502 ls [.int (zsel N (xs (i + 1).toNatClampNeg) (-1) (fun j => F 4 (j + 1))), .int (zsel N (xs (i + 1).toNatClampNeg) (-1) (fun j => (cvm F L j).2.2.2.2.1))]) rfl ?_
  refine lv_icmp_eq (tgt := 711) hx hb dL_law_502 (by decide) (fun _ => ?_) (fun q => absurd rfl q)
  exact W.widen (by show 20 + t + 0 + 0 ≤ 20 + (t + 1); omega) (by show 20966 + 10 * t + 0 + 0 ≤ 20966 + 10 * (t + 1); omega) (kk M1 M2n H locs hS hM1 hM2 (sm_same hI hJ1 hsm))
set_option maxHeartbeats 4000000 in
set_option maxRecDepth 100000 in
theorem lc_7 {p : Program} {l : Launch} {e : Env} {s : State} {m : MethodId} {below : List Frame} {meth : Method} {c : Code} {G : zG} {b Ln : Nat} {xs : Nat → Int32} (S : CallFix p m c code 4 s #[Value.ref b] zB R_law) (hX : va_X b Ln xs s s.heap) (hbl : b < s.heap.size) (hK : zK G s) {t : Nat} (ht : t < 512) {M1 M2 : zMap} {h0 m0 : Nat} {H : Heap} {locs : List Loc} {ls : Array Slot} {i : Int32} (hi0 : vp_in i Ln) (hi1 : vp_in (i + 1) Ln) (hi2 : vp_in (i + 2) Ln) (hi3 : vp_in (i + 3) Ln) (hi4 : vp_in (i + 4) Ln) (hi5 : vp_in (i + 5) Ln) (hS : va_S (fun q => s.heap.size ≤ q) s.heap H locs) (hM1 : zM (zA s.heap.size M2) G M1 H) (hM2 : zM (zA s.heap.size M1) G M2 H) (hR : zSim G M1 M2 h0 m0 t) (hl : lv_has ls 4 [(3, .int i), (2, .ref m0), (1, .ref h0), (0, .ref b)]) {Q : State → Prop}
    (kk : ∀ (M1' M2' : zMap) (H' : Heap) (locs' : List Loc), va_S (fun q => s.heap.size ≤ q) s.heap H' locs' → zM (zA s.heap.size M2') G M1' H' → zM (zA s.heap.size M1') G M2' H' → zSim G M1' M2' h0 m0 (t + 1) → W p l e room_1 s m #[Value.ref b] below meth c H' locs' (20 + (t + 1)) (20966 + 10 * (t + 1)) Q (F0 m 711 ls [])) :
    W p l e room_1 s m #[Value.ref b] below meth c H locs (20 + t) (20966 + 10 * t) Q (F0 m 507 ls []) := by
  have hx := S.1
  have hb := S.2.1
  have hown := S.2.2.2.1
  have hts := S.2.2.2.2
  have hbA : ¬ (fun q : Nat => s.heap.size ≤ q) b := Nat.not_le.mpr hbl
  obtain ⟨cps, den, fee, N, ca, ch, ar, th, ac, gr, F, L, hI, hJ, hsm⟩ := hR
  have hN := hI.2.2.2.2.2.1
  have hact : ac ≤ t := hsm.1
  refine lv_aload_n hx hb dL_law_507 rfl (lv_at hl 2 rfl) ?_
  refine lv_aload_n hx hb dL_law_508 rfl (lv_at hl 3 rfl) ?_
  refine lv_iload_n hx hb dL_law_509 rfl (lv_at hl 0 rfl) ?_
  refine lv_iconst (v := 1) hx hb dL_law_510 (by decide) ?_
  refine lv_iadd hx hb dL_law_511 ?_
  refine va_sld hx hb hX hbl hbA hS hi1 dL_law_512 ?_
  refine lv_aload_n hx hb dL_law_513 rfl (lv_at hl 3 rfl) ?_
  refine lv_iload_n hx hb dL_law_514 rfl (lv_at hl 0 rfl) ?_
  refine lv_iconst (v := 2) hx hb dL_law_515 (by decide) ?_
  refine lv_iadd hx hb dL_law_516 ?_
  refine va_sld hx hb hX hbl hbA hS hi2 dL_law_517 ?_
  refine lv_if_eq (tgt := 525) hx hb dL_law_518 (by decide) (fun c_1 => ?_) (fun c_1 => ?_)
  · refine lv_iconst (v := 0) hx hb dL_law_525 (by decide) ?_
    refine zl_call (As := [.int (xs (i + 1).toNatClampNeg), .int 0]) (rest := []) S (c_X2_floats l (zA s.heap.size M2) G M1 h0 cps den fee N ca (cvm F L) ch (F 9) (F 10) gr ac (xs (i + 1).toNatClampNeg) 0 hI (Or.inl rfl)) ok_X2_floats kw_187 kw_188 kw_189 ⟨Nat.le_of_ble_eq_true rfl, Nat.le_of_ble_eq_true rfl⟩ hK hM1 hM2 hS hI.1 rfl rfl hl.1 rfl (Nat.le_of_ble_eq_true rfl) dL_law_526 ⟨by show 20 + t + 0 ≤ 600000; omega, by show 20966 + 10 * t + 0 ≤ 7302250; omega⟩ (fun r1 M1n H locs hp1 hM1 hM2 hS => ?_)
    obtain ⟨rfl, hI1⟩ := hp1
    refine W.eq (g2 := F0 m 529 ls [.int (zsel N (xs (i + 1).toNatClampNeg) 0 (fun j => (cvm F L j).2.2.2.2.2.2.1))]) rfl ?_
    refine lv_aload_n hx hb dL_law_529 rfl (lv_at hl 1 rfl) ?_
    refine lv_aload_n hx hb dL_law_530 rfl (lv_at hl 3 rfl) ?_
    refine lv_iload_n hx hb dL_law_531 rfl (lv_at hl 0 rfl) ?_
    refine lv_iconst (v := 1) hx hb dL_law_532 (by decide) ?_
    refine lv_iadd hx hb dL_law_533 ?_
    refine va_sld hx hb hX hbl hbA hS hi1 dL_law_534 ?_
    refine lv_aload_n hx hb dL_law_535 rfl (lv_at hl 3 rfl) ?_
    refine lv_iload_n hx hb dL_law_536 rfl (lv_at hl 0 rfl) ?_
    refine lv_iconst (v := 2) hx hb dL_law_537 (by decide) ?_
    refine lv_iadd hx hb dL_law_538 ?_
    refine va_sld hx hb hX hbl hbA hS hi2 dL_law_539 ?_
    refine lv_if_eq (tgt := 547) hx hb dL_law_540 (by decide) (fun c_2 => ?_) (fun c_2 => ?_)
    · refine lv_iconst (v := 0) hx hb dL_law_547 (by decide) ?_
      refine zl_call (As := [.int (xs (i + 1).toNatClampNeg), .int 0]) (rest := [.int (zsel N (xs (i + 1).toNatClampNeg) 0 (fun j => (cvm F L j).2.2.2.2.2.2.1))]) S (c_X3_floats l (zA s.heap.size M1n) G M2 m0 ar th N ac gr F L (xs (i + 1).toNatClampNeg) 0 hJ hN (Or.inl rfl) hsm.2.2.2.2.2.2.1) ok_X3_floats kw_335 kw_336 kw_337 ⟨Nat.le_of_ble_eq_true rfl, Nat.le_of_ble_eq_true rfl⟩ hK hM2 hM1 hS hJ.1 rfl rfl hl.1 rfl (Nat.le_of_ble_eq_true rfl) dL_law_548 ⟨by show 20 + t + 0 + 0 ≤ 600000; omega, by show 20966 + 10 * t + 0 + 0 ≤ 7302250; omega⟩ (fun r2 M2n H locs hp2 hM2 hM1 hS => ?_)
      obtain ⟨rfl, hJ1⟩ := hp2
      refine W.eq (g2 := F0 m 551 ls [.int (zsel N (xs (i + 1).toNatClampNeg) 0 (fun j => F 6 (j + 1))), .int (zsel N (xs (i + 1).toNatClampNeg) 0 (fun j => (cvm F L j).2.2.2.2.2.2.1))]) rfl ?_
      refine lv_icmp_eq (tgt := 711) hx hb dL_law_551 (by decide) (fun _ => ?_) (fun q => absurd rfl q)
      exact W.widen (by show 20 + t + 0 + 0 ≤ 20 + (t + 1); omega) (by show 20966 + 10 * t + 0 + 0 ≤ 20966 + 10 * (t + 1); omega) (kk M1n M2n H locs hS hM1 hM2 (sm_floats (Or.inl rfl) hI1 hJ1 hsm))
    · exact absurd c_1 c_2
  · refine lv_iconst (v := 1) hx hb dL_law_521 (by decide) ?_
    refine lv_goto (tgt := 526) hx hb dL_law_522 (by decide) ?_
    refine zl_call (As := [.int (xs (i + 1).toNatClampNeg), .int 1]) (rest := []) S (c_X2_floats l (zA s.heap.size M2) G M1 h0 cps den fee N ca (cvm F L) ch (F 9) (F 10) gr ac (xs (i + 1).toNatClampNeg) 1 hI (Or.inr rfl)) ok_X2_floats kw_187 kw_188 kw_189 ⟨Nat.le_of_ble_eq_true rfl, Nat.le_of_ble_eq_true rfl⟩ hK hM1 hM2 hS hI.1 rfl rfl hl.1 rfl (Nat.le_of_ble_eq_true rfl) dL_law_526 ⟨by show 20 + t + 0 ≤ 600000; omega, by show 20966 + 10 * t + 0 ≤ 7302250; omega⟩ (fun r1 M1n H locs hp1 hM1 hM2 hS => ?_)
    obtain ⟨rfl, hI1⟩ := hp1
    refine W.eq (g2 := F0 m 529 ls [.int (zsel N (xs (i + 1).toNatClampNeg) 0 (fun j => (cvm F L j).2.2.2.2.2.2.1))]) rfl ?_
    refine lv_aload_n hx hb dL_law_529 rfl (lv_at hl 1 rfl) ?_
    refine lv_aload_n hx hb dL_law_530 rfl (lv_at hl 3 rfl) ?_
    refine lv_iload_n hx hb dL_law_531 rfl (lv_at hl 0 rfl) ?_
    refine lv_iconst (v := 1) hx hb dL_law_532 (by decide) ?_
    refine lv_iadd hx hb dL_law_533 ?_
    refine va_sld hx hb hX hbl hbA hS hi1 dL_law_534 ?_
    refine lv_aload_n hx hb dL_law_535 rfl (lv_at hl 3 rfl) ?_
    refine lv_iload_n hx hb dL_law_536 rfl (lv_at hl 0 rfl) ?_
    refine lv_iconst (v := 2) hx hb dL_law_537 (by decide) ?_
    refine lv_iadd hx hb dL_law_538 ?_
    refine va_sld hx hb hX hbl hbA hS hi2 dL_law_539 ?_
    refine lv_if_eq (tgt := 547) hx hb dL_law_540 (by decide) (fun c_3 => ?_) (fun c_3 => ?_)
    · exact absurd c_3 c_1
    · refine lv_iconst (v := 1) hx hb dL_law_543 (by decide) ?_
      refine lv_goto (tgt := 548) hx hb dL_law_544 (by decide) ?_
      refine zl_call (As := [.int (xs (i + 1).toNatClampNeg), .int 1]) (rest := [.int (zsel N (xs (i + 1).toNatClampNeg) 0 (fun j => (cvm F L j).2.2.2.2.2.2.1))]) S (c_X3_floats l (zA s.heap.size M1n) G M2 m0 ar th N ac gr F L (xs (i + 1).toNatClampNeg) 1 hJ hN (Or.inr rfl) hsm.2.2.2.2.2.2.1) ok_X3_floats kw_335 kw_336 kw_337 ⟨Nat.le_of_ble_eq_true rfl, Nat.le_of_ble_eq_true rfl⟩ hK hM2 hM1 hS hJ.1 rfl rfl hl.1 rfl (Nat.le_of_ble_eq_true rfl) dL_law_548 ⟨by show 20 + t + 0 + 0 ≤ 600000; omega, by show 20966 + 10 * t + 0 + 0 ≤ 7302250; omega⟩ (fun r2 M2n H locs hp2 hM2 hM1 hS => ?_)
      obtain ⟨rfl, hJ1⟩ := hp2
      refine W.eq (g2 := F0 m 551 ls [.int (zsel N (xs (i + 1).toNatClampNeg) 0 (fun j => F 6 (j + 1))), .int (zsel N (xs (i + 1).toNatClampNeg) 0 (fun j => (cvm F L j).2.2.2.2.2.2.1))]) rfl ?_
      refine lv_icmp_eq (tgt := 711) hx hb dL_law_551 (by decide) (fun _ => ?_) (fun q => absurd rfl q)
      exact W.widen (by show 20 + t + 0 + 0 ≤ 20 + (t + 1); omega) (by show 20966 + 10 * t + 0 + 0 ≤ 20966 + 10 * (t + 1); omega) (kk M1n M2n H locs hS hM1 hM2 (sm_floats (Or.inr rfl) hI1 hJ1 hsm))
set_option maxHeartbeats 4000000 in
set_option maxRecDepth 100000 in
theorem lc_8 {p : Program} {l : Launch} {e : Env} {s : State} {m : MethodId} {below : List Frame} {meth : Method} {c : Code} {G : zG} {b Ln : Nat} {xs : Nat → Int32} (S : CallFix p m c code 4 s #[Value.ref b] zB R_law) (hX : va_X b Ln xs s s.heap) (hbl : b < s.heap.size) (hK : zK G s) {t : Nat} (ht : t < 512) {M1 M2 : zMap} {h0 m0 : Nat} {H : Heap} {locs : List Loc} {ls : Array Slot} {i : Int32} (hi0 : vp_in i Ln) (hi1 : vp_in (i + 1) Ln) (hi2 : vp_in (i + 2) Ln) (hi3 : vp_in (i + 3) Ln) (hi4 : vp_in (i + 4) Ln) (hi5 : vp_in (i + 5) Ln) (hS : va_S (fun q => s.heap.size ≤ q) s.heap H locs) (hM1 : zM (zA s.heap.size M2) G M1 H) (hM2 : zM (zA s.heap.size M1) G M2 H) (hR : zSim G M1 M2 h0 m0 t) (hl : lv_has ls 4 [(3, .int i), (2, .ref m0), (1, .ref h0), (0, .ref b)]) {Q : State → Prop}
    (kk : ∀ (M1' M2' : zMap) (H' : Heap) (locs' : List Loc), va_S (fun q => s.heap.size ≤ q) s.heap H' locs' → zM (zA s.heap.size M2') G M1' H' → zM (zA s.heap.size M1') G M2' H' → zSim G M1' M2' h0 m0 (t + 1) → W p l e room_1 s m #[Value.ref b] below meth c H' locs' (20 + (t + 1)) (20966 + 10 * (t + 1)) Q (F0 m 711 ls [])) :
    W p l e room_1 s m #[Value.ref b] below meth c H locs (20 + t) (20966 + 10 * t) Q (F0 m 556 ls []) := by
  have hx := S.1
  have hb := S.2.1
  have hown := S.2.2.2.1
  have hts := S.2.2.2.2
  have hbA : ¬ (fun q : Nat => s.heap.size ≤ q) b := Nat.not_le.mpr hbl
  obtain ⟨cps, den, fee, N, ca, ch, ar, th, ac, gr, F, L, hI, hJ, hsm⟩ := hR
  have hN := hI.2.2.2.2.2.1
  have hact : ac ≤ t := hsm.1
  refine lv_aload_n hx hb dL_law_556 rfl (lv_at hl 2 rfl) ?_
  refine lv_aload_n hx hb dL_law_557 rfl (lv_at hl 3 rfl) ?_
  refine lv_iload_n hx hb dL_law_558 rfl (lv_at hl 0 rfl) ?_
  refine lv_iconst (v := 1) hx hb dL_law_559 (by decide) ?_
  refine lv_iadd hx hb dL_law_560 ?_
  refine va_sld hx hb hX hbl hbA hS hi1 dL_law_561 ?_
  refine zl_call (As := [.int (xs (i + 1).toNatClampNeg)]) (rest := []) S (c_X2_home l (zA s.heap.size M2) G M1 h0 cps den fee N ca (cvm F L) ch (F 9) (F 10) gr ac (xs (i + 1).toNatClampNeg) hI) ok_X2_home kw_191 kw_192 kw_193 ⟨Nat.le_of_ble_eq_true rfl, Nat.le_of_ble_eq_true rfl⟩ hK hM1 hM2 hS hI.1 rfl rfl hl.1 rfl (Nat.le_of_ble_eq_true rfl) dL_law_562 ⟨by show 20 + t + 0 ≤ 600000; omega, by show 20966 + 10 * t + 0 ≤ 7302250; omega⟩ (fun r1 M1n H locs hp1 hM1 hM2 hS => ?_)
  obtain ⟨rfl, hM9⟩ := hp1
  rw [hM9] at hM1 hM2
  refine W.eq (g2 := F0 m 565 ls [.int (zsel N (xs (i + 1).toNatClampNeg) (-1) (fun j => (cvm F L j).2.2.2.1))]) rfl ?_
  refine lv_aload_n hx hb dL_law_565 rfl (lv_at hl 1 rfl) ?_
  refine lv_aload_n hx hb dL_law_566 rfl (lv_at hl 3 rfl) ?_
  refine lv_iload_n hx hb dL_law_567 rfl (lv_at hl 0 rfl) ?_
  refine lv_iconst (v := 1) hx hb dL_law_568 (by decide) ?_
  refine lv_iadd hx hb dL_law_569 ?_
  refine va_sld hx hb hX hbl hbA hS hi1 dL_law_570 ?_
  refine zl_call (As := [.int (xs (i + 1).toNatClampNeg)]) (rest := [.int (zsel N (xs (i + 1).toNatClampNeg) (-1) (fun j => (cvm F L j).2.2.2.1))]) S (c_X3_home l (zA s.heap.size M1) G M2 m0 ar th N ac gr F L (xs (i + 1).toNatClampNeg) hJ hN) ok_X3_home kw_339 kw_340 kw_341 ⟨Nat.le_of_ble_eq_true rfl, Nat.le_of_ble_eq_true rfl⟩ hK hM2 hM1 hS hJ.1 rfl rfl hl.1 rfl (Nat.le_of_ble_eq_true rfl) dL_law_571 ⟨by show 20 + t + 0 + 0 ≤ 600000; omega, by show 20966 + 10 * t + 0 + 0 ≤ 7302250; omega⟩ (fun r2 M2n H locs hp2 hM2 hM1 hS => ?_)
  obtain ⟨rfl, hJ1⟩ := hp2
  refine W.eq (g2 := F0 m 574 ls [.int (zsel N (xs (i + 1).toNatClampNeg) (-1) (fun j => F 3 (j + 1))), .int (zsel N (xs (i + 1).toNatClampNeg) (-1) (fun j => (cvm F L j).2.2.2.1))]) rfl ?_
  refine lv_icmp_eq (tgt := 711) hx hb dL_law_574 (by decide) (fun _ => ?_) (fun q => absurd rfl q)
  exact W.widen (by show 20 + t + 0 + 0 ≤ 20 + (t + 1); omega) (by show 20966 + 10 * t + 0 + 0 ≤ 20966 + 10 * (t + 1); omega) (kk M1 M2n H locs hS hM1 hM2 (sm_same hI hJ1 hsm))
set_option maxHeartbeats 4000000 in
set_option maxRecDepth 100000 in
theorem lc_9 {p : Program} {l : Launch} {e : Env} {s : State} {m : MethodId} {below : List Frame} {meth : Method} {c : Code} {G : zG} {b Ln : Nat} {xs : Nat → Int32} (S : CallFix p m c code 4 s #[Value.ref b] zB R_law) (hX : va_X b Ln xs s s.heap) (hbl : b < s.heap.size) (hK : zK G s) {t : Nat} (ht : t < 512) {M1 M2 : zMap} {h0 m0 : Nat} {H : Heap} {locs : List Loc} {ls : Array Slot} {i : Int32} (hi0 : vp_in i Ln) (hi1 : vp_in (i + 1) Ln) (hi2 : vp_in (i + 2) Ln) (hi3 : vp_in (i + 3) Ln) (hi4 : vp_in (i + 4) Ln) (hi5 : vp_in (i + 5) Ln) (hS : va_S (fun q => s.heap.size ≤ q) s.heap H locs) (hM1 : zM (zA s.heap.size M2) G M1 H) (hM2 : zM (zA s.heap.size M1) G M2 H) (hR : zSim G M1 M2 h0 m0 t) (hl : lv_has ls 4 [(3, .int i), (2, .ref m0), (1, .ref h0), (0, .ref b)]) {Q : State → Prop}
    (kk : ∀ (M1' M2' : zMap) (H' : Heap) (locs' : List Loc), va_S (fun q => s.heap.size ≤ q) s.heap H' locs' → zM (zA s.heap.size M2') G M1' H' → zM (zA s.heap.size M1') G M2' H' → zSim G M1' M2' h0 m0 (t + 1) → W p l e room_1 s m #[Value.ref b] below meth c H' locs' (20 + (t + 1)) (20966 + 10 * (t + 1)) Q (F0 m 711 ls [])) :
    W p l e room_1 s m #[Value.ref b] below meth c H locs (20 + t) (20966 + 10 * t) Q (F0 m 579 ls []) := by
  have hx := S.1
  have hb := S.2.1
  have hown := S.2.2.2.1
  have hts := S.2.2.2.2
  have hbA : ¬ (fun q : Nat => s.heap.size ≤ q) b := Nat.not_le.mpr hbl
  obtain ⟨cps, den, fee, N, ca, ch, ar, th, ac, gr, F, L, hI, hJ, hsm⟩ := hR
  have hN := hI.2.2.2.2.2.1
  have hact : ac ≤ t := hsm.1
  refine lv_aload_n hx hb dL_law_579 rfl (lv_at hl 2 rfl) ?_
  refine lv_aload_n hx hb dL_law_580 rfl (lv_at hl 3 rfl) ?_
  refine lv_iload_n hx hb dL_law_581 rfl (lv_at hl 0 rfl) ?_
  refine lv_iconst (v := 1) hx hb dL_law_582 (by decide) ?_
  refine lv_iadd hx hb dL_law_583 ?_
  refine va_sld hx hb hX hbl hbA hS hi1 dL_law_584 ?_
  refine lv_aload_n hx hb dL_law_585 rfl (lv_at hl 3 rfl) ?_
  refine lv_iload_n hx hb dL_law_586 rfl (lv_at hl 0 rfl) ?_
  refine lv_iconst (v := 2) hx hb dL_law_587 (by decide) ?_
  refine lv_iadd hx hb dL_law_588 ?_
  refine va_sld hx hb hX hbl hbA hS hi2 dL_law_589 ?_
  refine zl_call (As := [.int (xs (i + 1).toNatClampNeg), .int (xs (i + 2).toNatClampNeg)]) (rest := []) S (c_X2_weed l (zA s.heap.size M2) G M1 h0 cps den fee N ca (cvm F L) ch (F 9) (F 10) gr ac (xs (i + 1).toNatClampNeg) (xs (i + 2).toNatClampNeg) hI) ok_X2_weed kw_195 kw_196 kw_197 ⟨Nat.le_of_ble_eq_true rfl, Nat.le_of_ble_eq_true rfl⟩ hK hM1 hM2 hS hI.1 rfl rfl hl.1 rfl (Nat.le_of_ble_eq_true rfl) dL_law_590 ⟨by show 20 + t + 1 ≤ 600000; omega, by show 20966 + 10 * t + 4 ≤ 7302250; omega⟩ (fun r1 M1n H locs hp1 hM1 hM2 hS => ?_)
  obtain ⟨x1, rfl⟩ := zWQ_r hp1
  refine W.eq (g2 := F0 m 593 ls [.int x1]) rfl ?_
  refine lv_aload_n hx hb dL_law_593 rfl (lv_at hl 1 rfl) ?_
  refine lv_aload_n hx hb dL_law_594 rfl (lv_at hl 3 rfl) ?_
  refine lv_iload_n hx hb dL_law_595 rfl (lv_at hl 0 rfl) ?_
  refine lv_iconst (v := 1) hx hb dL_law_596 (by decide) ?_
  refine lv_iadd hx hb dL_law_597 ?_
  refine va_sld hx hb hX hbl hbA hS hi1 dL_law_598 ?_
  refine lv_aload_n hx hb dL_law_599 rfl (lv_at hl 3 rfl) ?_
  refine lv_iload_n hx hb dL_law_600 rfl (lv_at hl 0 rfl) ?_
  refine lv_iconst (v := 2) hx hb dL_law_601 (by decide) ?_
  refine lv_iadd hx hb dL_law_602 ?_
  refine va_sld hx hb hX hbl hbA hS hi2 dL_law_603 ?_
  refine zl_call (As := [.int (xs (i + 1).toNatClampNeg), .int (xs (i + 2).toNatClampNeg)]) (rest := [.int x1]) S (c_X3_weed l (zA s.heap.size M1n) G M2 m0 ar th N ac gr F L (xs (i + 1).toNatClampNeg) (xs (i + 2).toNatClampNeg) hJ hN (by omega) hsm.2.2.2.2.2.1) ok_X3_weed kw_327 kw_328 kw_329 ⟨Nat.le_of_ble_eq_true rfl, Nat.le_of_ble_eq_true rfl⟩ hK hM2 hM1 hS hJ.1 rfl rfl hl.1 rfl (Nat.le_of_ble_eq_true rfl) dL_law_604 ⟨by show 20 + t + 1 + 0 ≤ 600000; omega, by show 20966 + 10 * t + 4 + 0 ≤ 7302250; omega⟩ (fun r2 M2n H locs hp2 hM2 hM1 hS => ?_)
  obtain ⟨x2, ex1, rfl, hsim⟩ := sm_weed hN (by omega) hsm hp1 hp2
  cases ex1
  refine W.eq (g2 := F0 m 607 ls [.int x1, .int x1]) rfl ?_
  refine lv_icmp_eq (tgt := 711) hx hb dL_law_607 (by decide) (fun _ => ?_) (fun q => absurd rfl q)
  exact W.widen (by show 20 + t + 1 + 0 ≤ 20 + (t + 1); omega) (by show 20966 + 10 * t + 4 + 0 ≤ 20966 + 10 * (t + 1); omega) (kk M1n M2n H locs hS hM1 hM2 hsim)
set_option maxHeartbeats 4000000 in
set_option maxRecDepth 100000 in
theorem lc_10 {p : Program} {l : Launch} {e : Env} {s : State} {m : MethodId} {below : List Frame} {meth : Method} {c : Code} {G : zG} {b Ln : Nat} {xs : Nat → Int32} (S : CallFix p m c code 4 s #[Value.ref b] zB R_law) (hX : va_X b Ln xs s s.heap) (hbl : b < s.heap.size) (hK : zK G s) {t : Nat} (ht : t < 512) {M1 M2 : zMap} {h0 m0 : Nat} {H : Heap} {locs : List Loc} {ls : Array Slot} {i : Int32} (hi0 : vp_in i Ln) (hi1 : vp_in (i + 1) Ln) (hi2 : vp_in (i + 2) Ln) (hi3 : vp_in (i + 3) Ln) (hi4 : vp_in (i + 4) Ln) (hi5 : vp_in (i + 5) Ln) (hS : va_S (fun q => s.heap.size ≤ q) s.heap H locs) (hM1 : zM (zA s.heap.size M2) G M1 H) (hM2 : zM (zA s.heap.size M1) G M2 H) (hR : zSim G M1 M2 h0 m0 t) (hl : lv_has ls 4 [(3, .int i), (2, .ref m0), (1, .ref h0), (0, .ref b)]) {Q : State → Prop}
    (kk : ∀ (M1' M2' : zMap) (H' : Heap) (locs' : List Loc), va_S (fun q => s.heap.size ≤ q) s.heap H' locs' → zM (zA s.heap.size M2') G M1' H' → zM (zA s.heap.size M1') G M2' H' → zSim G M1' M2' h0 m0 (t + 1) → W p l e room_1 s m #[Value.ref b] below meth c H' locs' (20 + (t + 1)) (20966 + 10 * (t + 1)) Q (F0 m 711 ls [])) :
    W p l e room_1 s m #[Value.ref b] below meth c H locs (20 + t) (20966 + 10 * t) Q (F0 m 612 ls []) := by
  have hx := S.1
  have hb := S.2.1
  have hown := S.2.2.2.1
  have hts := S.2.2.2.2
  have hbA : ¬ (fun q : Nat => s.heap.size ≤ q) b := Nat.not_le.mpr hbl
  obtain ⟨cps, den, fee, N, ca, ch, ar, th, ac, gr, F, L, hI, hJ, hsm⟩ := hR
  have hN := hI.2.2.2.2.2.1
  have hact : ac ≤ t := hsm.1
  refine lv_aload_n hx hb dL_law_612 rfl (lv_at hl 2 rfl) ?_
  refine lv_aload_n hx hb dL_law_613 rfl (lv_at hl 3 rfl) ?_
  refine lv_iload_n hx hb dL_law_614 rfl (lv_at hl 0 rfl) ?_
  refine lv_iconst (v := 1) hx hb dL_law_615 (by decide) ?_
  refine lv_iadd hx hb dL_law_616 ?_
  refine va_sld hx hb hX hbl hbA hS hi1 dL_law_617 ?_
  refine zl_call (As := [.int (xs (i + 1).toNatClampNeg)]) (rest := []) S (c_X2_owed l (zA s.heap.size M2) G M1 h0 cps den fee N ca (cvm F L) ch (F 9) (F 10) gr ac (xs (i + 1).toNatClampNeg) hI) ok_X2_owed kw_202 kw_203 kw_204 ⟨Nat.le_of_ble_eq_true rfl, Nat.le_of_ble_eq_true rfl⟩ hK hM1 hM2 hS hI.1 rfl rfl hl.1 rfl (Nat.le_of_ble_eq_true rfl) dL_law_618 ⟨by show 20 + t + 0 ≤ 600000; omega, by show 20966 + 10 * t + 0 ≤ 7302250; omega⟩ (fun r1 M1n H locs hp1 hM1 hM2 hS => ?_)
  obtain ⟨rfl, hM9⟩ := hp1
  rw [hM9] at hM1 hM2
  refine W.eq (g2 := F0 m 621 ls [.int (zsel N (xs (i + 1).toNatClampNeg) (-1) (fun j => (cvm F L j).2.2.2.2.2.2.2.1))]) rfl ?_
  refine lv_aload_n hx hb dL_law_621 rfl (lv_at hl 1 rfl) ?_
  refine lv_aload_n hx hb dL_law_622 rfl (lv_at hl 3 rfl) ?_
  refine lv_iload_n hx hb dL_law_623 rfl (lv_at hl 0 rfl) ?_
  refine lv_iconst (v := 1) hx hb dL_law_624 (by decide) ?_
  refine lv_iadd hx hb dL_law_625 ?_
  refine va_sld hx hb hX hbl hbA hS hi1 dL_law_626 ?_
  refine zl_call (As := [.int (xs (i + 1).toNatClampNeg)]) (rest := [.int (zsel N (xs (i + 1).toNatClampNeg) (-1) (fun j => (cvm F L j).2.2.2.2.2.2.2.1))]) S (c_X3_owed l (zA s.heap.size M1) G M2 m0 ar th N ac gr F L (xs (i + 1).toNatClampNeg) hJ hN) ok_X3_owed kw_343 kw_344 kw_345 ⟨Nat.le_of_ble_eq_true rfl, Nat.le_of_ble_eq_true rfl⟩ hK hM2 hM1 hS hJ.1 rfl rfl hl.1 rfl (Nat.le_of_ble_eq_true rfl) dL_law_627 ⟨by show 20 + t + 0 + 0 ≤ 600000; omega, by show 20966 + 10 * t + 0 + 0 ≤ 7302250; omega⟩ (fun r2 M2n H locs hp2 hM2 hM1 hS => ?_)
  obtain ⟨rfl, hJ1⟩ := hp2
  refine W.eq (g2 := F0 m 630 ls [.int (zsel N (xs (i + 1).toNatClampNeg) (-1) (fun j => F 8 (j + 1))), .int (zsel N (xs (i + 1).toNatClampNeg) (-1) (fun j => (cvm F L j).2.2.2.2.2.2.2.1))]) rfl ?_
  refine lv_icmp_eq (tgt := 711) hx hb dL_law_630 (by decide) (fun _ => ?_) (fun q => absurd rfl q)
  exact W.widen (by show 20 + t + 0 + 0 ≤ 20 + (t + 1); omega) (by show 20966 + 10 * t + 0 + 0 ≤ 20966 + 10 * (t + 1); omega) (kk M1 M2n H locs hS hM1 hM2 (sm_same hI hJ1 hsm))
set_option maxHeartbeats 4000000 in
set_option maxRecDepth 100000 in
theorem lc_11 {p : Program} {l : Launch} {e : Env} {s : State} {m : MethodId} {below : List Frame} {meth : Method} {c : Code} {G : zG} {b Ln : Nat} {xs : Nat → Int32} (S : CallFix p m c code 4 s #[Value.ref b] zB R_law) (hX : va_X b Ln xs s s.heap) (hbl : b < s.heap.size) (hK : zK G s) {t : Nat} (ht : t < 512) {M1 M2 : zMap} {h0 m0 : Nat} {H : Heap} {locs : List Loc} {ls : Array Slot} {i : Int32} (hi0 : vp_in i Ln) (hi1 : vp_in (i + 1) Ln) (hi2 : vp_in (i + 2) Ln) (hi3 : vp_in (i + 3) Ln) (hi4 : vp_in (i + 4) Ln) (hi5 : vp_in (i + 5) Ln) (hS : va_S (fun q => s.heap.size ≤ q) s.heap H locs) (hM1 : zM (zA s.heap.size M2) G M1 H) (hM2 : zM (zA s.heap.size M1) G M2 H) (hR : zSim G M1 M2 h0 m0 t) (hl : lv_has ls 4 [(3, .int i), (2, .ref m0), (1, .ref h0), (0, .ref b)]) {Q : State → Prop}
    (kk : ∀ (M1' M2' : zMap) (H' : Heap) (locs' : List Loc), va_S (fun q => s.heap.size ≤ q) s.heap H' locs' → zM (zA s.heap.size M2') G M1' H' → zM (zA s.heap.size M1') G M2' H' → zSim G M1' M2' h0 m0 (t + 1) → W p l e room_1 s m #[Value.ref b] below meth c H' locs' (20 + (t + 1)) (20966 + 10 * (t + 1)) Q (F0 m 711 ls [])) :
    W p l e room_1 s m #[Value.ref b] below meth c H locs (20 + t) (20966 + 10 * t) Q (F0 m 635 ls []) := by
  have hx := S.1
  have hb := S.2.1
  have hown := S.2.2.2.1
  have hts := S.2.2.2.2
  have hbA : ¬ (fun q : Nat => s.heap.size ≤ q) b := Nat.not_le.mpr hbl
  obtain ⟨cps, den, fee, N, ca, ch, ar, th, ac, gr, F, L, hI, hJ, hsm⟩ := hR
  have hN := hI.2.2.2.2.2.1
  have hact : ac ≤ t := hsm.1
  refine lv_aload_n hx hb dL_law_635 rfl (lv_at hl 2 rfl) ?_
  refine lv_aload_n hx hb dL_law_636 rfl (lv_at hl 3 rfl) ?_
  refine lv_iload_n hx hb dL_law_637 rfl (lv_at hl 0 rfl) ?_
  refine lv_iconst (v := 1) hx hb dL_law_638 (by decide) ?_
  refine lv_iadd hx hb dL_law_639 ?_
  refine va_sld hx hb hX hbl hbA hS hi1 dL_law_640 ?_
  refine lv_aload_n hx hb dL_law_641 rfl (lv_at hl 3 rfl) ?_
  refine lv_iload_n hx hb dL_law_642 rfl (lv_at hl 0 rfl) ?_
  refine lv_iconst (v := 2) hx hb dL_law_643 (by decide) ?_
  refine lv_iadd hx hb dL_law_644 ?_
  refine va_sld hx hb hX hbl hbA hS hi2 dL_law_645 ?_
  refine lv_aload_n hx hb dL_law_646 rfl (lv_at hl 3 rfl) ?_
  refine lv_iload_n hx hb dL_law_647 rfl (lv_at hl 0 rfl) ?_
  refine lv_iconst (v := 3) hx hb dL_law_648 (by decide) ?_
  refine lv_iadd hx hb dL_law_649 ?_
  refine va_sld hx hb hX hbl hbA hS hi3 dL_law_650 ?_
  refine zl_call (As := [.int (xs (i + 1).toNatClampNeg), .int (xs (i + 2).toNatClampNeg), .int (xs (i + 3).toNatClampNeg)]) (rest := []) S (c_X2_history l (zA s.heap.size M2) G M1 h0 cps den fee N ca (cvm F L) ch (F 9) (F 10) gr ac (xs (i + 1).toNatClampNeg) (xs (i + 2).toNatClampNeg) (xs (i + 3).toNatClampNeg) hI) ok_X2_history kw_206 kw_207 kw_208 ⟨Nat.le_of_ble_eq_true rfl, Nat.le_of_ble_eq_true rfl⟩ hK hM1 hM2 hS hI.1 rfl rfl hl.1 rfl (Nat.le_of_ble_eq_true rfl) dL_law_651 ⟨by show 20 + t + 0 ≤ 600000; omega, by show 20966 + 10 * t + 0 ≤ 7302250; omega⟩ (fun r1 M1n H locs hp1 hM1 hM2 hS => ?_)
  obtain ⟨rfl, hM9⟩ := hp1
  rw [hM9] at hM1 hM2
  refine W.eq (g2 := F0 m 654 ls [.int (zsel N (xs (i + 1).toNatClampNeg) (-1) (fun j => zHi (ch j) (xs (i + 2).toNatClampNeg) (xs (i + 3).toNatClampNeg)))]) rfl ?_
  refine lv_aload_n hx hb dL_law_654 rfl (lv_at hl 1 rfl) ?_
  refine lv_aload_n hx hb dL_law_655 rfl (lv_at hl 3 rfl) ?_
  refine lv_iload_n hx hb dL_law_656 rfl (lv_at hl 0 rfl) ?_
  refine lv_iconst (v := 1) hx hb dL_law_657 (by decide) ?_
  refine lv_iadd hx hb dL_law_658 ?_
  refine va_sld hx hb hX hbl hbA hS hi1 dL_law_659 ?_
  refine lv_aload_n hx hb dL_law_660 rfl (lv_at hl 3 rfl) ?_
  refine lv_iload_n hx hb dL_law_661 rfl (lv_at hl 0 rfl) ?_
  refine lv_iconst (v := 2) hx hb dL_law_662 (by decide) ?_
  refine lv_iadd hx hb dL_law_663 ?_
  refine va_sld hx hb hX hbl hbA hS hi2 dL_law_664 ?_
  refine lv_aload_n hx hb dL_law_665 rfl (lv_at hl 3 rfl) ?_
  refine lv_iload_n hx hb dL_law_666 rfl (lv_at hl 0 rfl) ?_
  refine lv_iconst (v := 3) hx hb dL_law_667 (by decide) ?_
  refine lv_iadd hx hb dL_law_668 ?_
  refine va_sld hx hb hX hbl hbA hS hi3 dL_law_669 ?_
  refine zl_call (As := [.int (xs (i + 1).toNatClampNeg), .int (xs (i + 2).toNatClampNeg), .int (xs (i + 3).toNatClampNeg)]) (rest := [.int (zsel N (xs (i + 1).toNatClampNeg) (-1) (fun j => zHi (ch j) (xs (i + 2).toNatClampNeg) (xs (i + 3).toNatClampNeg)))]) S (c_X3_history l (zA s.heap.size M1) G M2 m0 ar th N ac gr F L (xs (i + 1).toNatClampNeg) (xs (i + 2).toNatClampNeg) (xs (i + 3).toNatClampNeg) hJ hN (by omega)) ok_X3_history kw_347 kw_348 kw_349 ⟨Nat.le_of_ble_eq_true rfl, Nat.le_of_ble_eq_true rfl⟩ hK hM2 hM1 hS hJ.1 rfl rfl hl.1 rfl (Nat.le_of_ble_eq_true rfl) dL_law_670 ⟨by show 20 + t + 0 + 0 ≤ 600000; omega, by show 20966 + 10 * t + 0 + 0 ≤ 7302250; omega⟩ (fun r2 M2n H locs hp2 hM2 hM1 hS => ?_)
  obtain ⟨rfl, hJ1⟩ := hp2
  refine W.eq (g2 := F0 m 673 ls [.int (zsel N (xs (i + 1).toNatClampNeg) (-1) (fun j => vHi (zel (F 11) (F 12) (F 13) (L 14) (nI (j + 1)) ac) (xs (i + 2).toNatClampNeg) (xs (i + 3).toNatClampNeg))), .int (zsel N (xs (i + 1).toNatClampNeg) (-1) (fun j => zHi (ch j) (xs (i + 2).toNatClampNeg) (xs (i + 3).toNatClampNeg)))]) rfl ?_
  refine lv_icmp_eq (tgt := 711) hx hb dL_law_673 (by decide) (fun _ => ?_) (fun q => absurd (zsel_cg hN (fun j hj => by rw [zHi_map, hsm.2.1 j hj])) q)
  exact W.widen (by show 20 + t + 0 + 0 ≤ 20 + (t + 1); omega) (by show 20966 + 10 * t + 0 + 0 ≤ 20966 + 10 * (t + 1); omega) (kk M1 M2n H locs hS hM1 hM2 (sm_same hI hJ1 hsm))
set_option maxHeartbeats 4000000 in
set_option maxRecDepth 100000 in
theorem lc_12 {p : Program} {l : Launch} {e : Env} {s : State} {m : MethodId} {below : List Frame} {meth : Method} {c : Code} {G : zG} {b Ln : Nat} {xs : Nat → Int32} (S : CallFix p m c code 4 s #[Value.ref b] zB R_law) (hX : va_X b Ln xs s s.heap) (hbl : b < s.heap.size) (hK : zK G s) {t : Nat} (ht : t < 512) {M1 M2 : zMap} {h0 m0 : Nat} {H : Heap} {locs : List Loc} {ls : Array Slot} {i : Int32} (hi0 : vp_in i Ln) (hi1 : vp_in (i + 1) Ln) (hi2 : vp_in (i + 2) Ln) (hi3 : vp_in (i + 3) Ln) (hi4 : vp_in (i + 4) Ln) (hi5 : vp_in (i + 5) Ln) (hS : va_S (fun q => s.heap.size ≤ q) s.heap H locs) (hM1 : zM (zA s.heap.size M2) G M1 H) (hM2 : zM (zA s.heap.size M1) G M2 H) (hR : zSim G M1 M2 h0 m0 t) (hl : lv_has ls 4 [(3, .int i), (2, .ref m0), (1, .ref h0), (0, .ref b)]) {Q : State → Prop}
    (kk : ∀ (M1' M2' : zMap) (H' : Heap) (locs' : List Loc), va_S (fun q => s.heap.size ≤ q) s.heap H' locs' → zM (zA s.heap.size M2') G M1' H' → zM (zA s.heap.size M1') G M2' H' → zSim G M1' M2' h0 m0 (t + 1) → W p l e room_1 s m #[Value.ref b] below meth c H' locs' (20 + (t + 1)) (20966 + 10 * (t + 1)) Q (F0 m 711 ls [])) :
    W p l e room_1 s m #[Value.ref b] below meth c H locs (20 + t) (20966 + 10 * t) Q (F0 m 678 ls []) := by
  have hx := S.1
  have hb := S.2.1
  have hown := S.2.2.2.1
  have hts := S.2.2.2.2
  have hbA : ¬ (fun q : Nat => s.heap.size ≤ q) b := Nat.not_le.mpr hbl
  obtain ⟨cps, den, fee, N, ca, ch, ar, th, ac, gr, F, L, hI, hJ, hsm⟩ := hR
  have hN := hI.2.2.2.2.2.1
  have hact : ac ≤ t := hsm.1
  refine lv_aload_n hx hb dL_law_678 rfl (lv_at hl 2 rfl) ?_
  refine lv_aload_n hx hb dL_law_679 rfl (lv_at hl 3 rfl) ?_
  refine lv_iload_n hx hb dL_law_680 rfl (lv_at hl 0 rfl) ?_
  refine lv_iconst (v := 1) hx hb dL_law_681 (by decide) ?_
  refine lv_iadd hx hb dL_law_682 ?_
  refine va_sld hx hb hX hbl hbA hS hi1 dL_law_683 ?_
  refine lv_aload_n hx hb dL_law_684 rfl (lv_at hl 3 rfl) ?_
  refine lv_iload_n hx hb dL_law_685 rfl (lv_at hl 0 rfl) ?_
  refine lv_iconst (v := 2) hx hb dL_law_686 (by decide) ?_
  refine lv_iadd hx hb dL_law_687 ?_
  refine va_sld hx hb hX hbl hbA hS hi2 dL_law_688 ?_
  refine zl_call (As := [.int (xs (i + 1).toNatClampNeg), .int (xs (i + 2).toNatClampNeg)]) (rest := []) S (c_X2_count l (zA s.heap.size M2) G M1 h0 cps den fee N ca (cvm F L) ch (F 9) (F 10) gr ac (xs (i + 1).toNatClampNeg) (xs (i + 2).toNatClampNeg) hI) ok_X2_count kw_210 kw_211 kw_212 ⟨Nat.le_of_ble_eq_true rfl, Nat.le_of_ble_eq_true rfl⟩ hK hM1 hM2 hS hI.1 rfl rfl hl.1 rfl (Nat.le_of_ble_eq_true rfl) dL_law_689 ⟨by show 20 + t + 0 ≤ 600000; omega, by show 20966 + 10 * t + 0 ≤ 7302250; omega⟩ (fun r1 M1n H locs hp1 hM1 hM2 hS => ?_)
  obtain ⟨rfl, hM9⟩ := hp1
  rw [hM9] at hM1 hM2
  refine W.eq (g2 := F0 m 692 ls [.int (zCt (cvm F L) (xs (i + 1).toNatClampNeg) (xs (i + 2).toNatClampNeg) N)]) rfl ?_
  refine lv_aload_n hx hb dL_law_692 rfl (lv_at hl 1 rfl) ?_
  refine lv_aload_n hx hb dL_law_693 rfl (lv_at hl 3 rfl) ?_
  refine lv_iload_n hx hb dL_law_694 rfl (lv_at hl 0 rfl) ?_
  refine lv_iconst (v := 1) hx hb dL_law_695 (by decide) ?_
  refine lv_iadd hx hb dL_law_696 ?_
  refine va_sld hx hb hX hbl hbA hS hi1 dL_law_697 ?_
  refine lv_aload_n hx hb dL_law_698 rfl (lv_at hl 3 rfl) ?_
  refine lv_iload_n hx hb dL_law_699 rfl (lv_at hl 0 rfl) ?_
  refine lv_iconst (v := 2) hx hb dL_law_700 (by decide) ?_
  refine lv_iadd hx hb dL_law_701 ?_
  refine va_sld hx hb hX hbl hbA hS hi2 dL_law_702 ?_
  refine zl_call (As := [.int (xs (i + 1).toNatClampNeg), .int (xs (i + 2).toNatClampNeg)]) (rest := [.int (zCt (cvm F L) (xs (i + 1).toNatClampNeg) (xs (i + 2).toNatClampNeg) N)]) S (c_X3_count l (zA s.heap.size M1) G M2 m0 ar th N ac gr F L (xs (i + 1).toNatClampNeg) (xs (i + 2).toNatClampNeg) hJ hN) ok_X3_count kw_351 kw_352 kw_353 ⟨Nat.le_of_ble_eq_true rfl, Nat.le_of_ble_eq_true rfl⟩ hK hM2 hM1 hS hJ.1 rfl rfl hl.1 rfl (Nat.le_of_ble_eq_true rfl) dL_law_703 ⟨by show 20 + t + 0 + 0 ≤ 600000; omega, by show 20966 + 10 * t + 0 + 0 ≤ 7302250; omega⟩ (fun r2 M2n H locs hp2 hM2 hM1 hS => ?_)
  obtain ⟨rfl, hJ1⟩ := hp2
  refine W.eq (g2 := F0 m 706 ls [.int (zCt (cvm F L) (xs (i + 1).toNatClampNeg) (xs (i + 2).toNatClampNeg) N), .int (zCt (cvm F L) (xs (i + 1).toNatClampNeg) (xs (i + 2).toNatClampNeg) N)]) rfl ?_
  refine lv_icmp_eq (tgt := 711) hx hb dL_law_706 (by decide) (fun _ => ?_) (fun q => absurd rfl q)
  exact W.widen (by show 20 + t + 0 + 0 ≤ 20 + (t + 1); omega) (by show 20966 + 10 * t + 0 + 0 ≤ 20966 + 10 * (t + 1); omega) (kk M1 M2n H locs hS hM1 hM2 (sm_same hI hJ1 hsm))
