theorem zSim.up {G : zG} {M1 M2 : zMap} {h0 m0 t : Nat} (h : zSim G M1 M2 h0 m0 t) : zSim G M1 M2 h0 m0 (t + 1) := by
  obtain ⟨cps, den, fee, N, ca, ch, ar, th, ac, gr, F, L, hI, hJ, hsm⟩ := h
  exact ⟨cps, den, fee, N, ca, ch, ar, th, ac, gr, F, L, hI, hJ, hsm.up⟩
theorem zhead {L t : Nat} (hL : L ≤ 3072) (ht : 6 * t ≤ L) (h : ¬ Int32.ofNat L - 6 < nI (6 * t)) : 6 * t + 6 ≤ L := by
  rcases Nat.lt_or_ge L (6 * t + 6) with q | q
  · exfalso
    apply h
    rw [Int32.lt_iff_toInt_lt]
    have e1 : (Int32.ofNat L - 6).toInt = (L : Int) - 6 := pk_sub_toInt (a := L) (b := 6) (by omega) (by decide)
    rw [e1, nI_toInt (by omega)]
    omega
  · exact q
theorem zhix {L t k : Nat} (hL : L ≤ 3072) (ht : 6 * t + 6 ≤ L) (hk : k < 6) : vp_in (nI (6 * t) + nI k) L := by
  rw [nI_add]
  exact vp_in_nI (by omega) (by omega)
theorem zhix0 {L t : Nat} (hL : L ≤ 3072) (ht : 6 * t + 6 ≤ L) : vp_in (nI (6 * t)) L := vp_in_nI (by omega) (by omega)
theorem znext (t : Nat) : nI (6 * t) + 6 = nI (6 * (t + 1)) := nI_add (6 * t) 6
set_option maxHeartbeats 4000000 in
set_option maxRecDepth 100000 in
theorem law_loop {p : Program} {l : Launch} {e : Env} {s : State} {m : MethodId} {below : List Frame} {meth : Method} {c : Code} {G : zG} {b L : Nat} {xs : Nat → Int32} (hL : L ≤ 3072) (C0 : lw_At p s m meth c b L xs) (hK : zK G s) {h0 m0 : Nat} :
    ∀ (n t : Nat), 6 * t ≤ L → L + 1 ≤ 6 * t + n → ∀ (M1 M2 : zMap) (H : Heap) (locs : List Loc) (ls : Array Slot), va_S (fun q => s.heap.size ≤ q) s.heap H locs → zM (zA s.heap.size M2) G M1 H → zM (zA s.heap.size M1) G M2 H → zSim G M1 M2 h0 m0 t → lv_has ls 4 [(3, .int (nI (6 * t))), (2, .ref m0), (1, .ref h0), (0, .ref b)] → W p l e room_1 s m #[Value.ref b] below meth c H locs (20 + t) (20966 + 10 * t) (lw_Z below #[Value.ref b] s) (F0 m 18 ls []) := by
  obtain ⟨hx, hb, hr, hml, hown, hts, hX, hbl, hlocks, hgv⟩ := C0
  have S : CallFix p m c code 4 s #[Value.ref b] zB R_law := ⟨hx, hb, hml, hown, fun w h => hts w (List.mem_filter.mp h).1⟩
  have hbA : ¬ (fun q : Nat => s.heap.size ≤ q) b := Nat.not_le.mpr hbl
  intro n
  induction n with
  | zero => intro t h1 h2; exact absurd h2 (by omega)
  | succ n ih =>
    intro t h1 h2 M1 M2 H locs ls hS hM1 hM2 hR hl
    refine lv_iload_n hx hb dL_law_18 rfl (lv_at hl 0 rfl) ?_
    refine lv_aload_n hx hb dL_law_19 rfl (lv_at hl 3 rfl) ?_
    refine va_slen hx hb hX hbl hbA hS dL_law_20 ?_
    refine lv_bipush (v := 6) hx hb dL_law_21 (by decide) ?_
    refine lv_isub hx hb dL_law_23 ?_
    refine lv_icmp_gt (tgt := 717) hx hb dL_law_24 (by decide) (fun c_1 => ?_) (fun c_1 => ?_)
    · refine lv_iconst (v := 1) hx hb dL_law_717 (by decide) ?_
      refine va_forget (fun q hq => hS.2.2 q hq) ?_
      refine W.widen (k := 600000) (n := 7302250) (by omega) (by omega) ?_
      exact lw_ret hx hb hr hlocks dL_law_718
    have h6 := zhead hL h1 c_1
    have ht5 : t < 512 := by omega
    have hkk : ∀ (M1' M2' : zMap) (H' : Heap) (locs' : List Loc), va_S (fun q => s.heap.size ≤ q) s.heap H' locs' → zM (zA s.heap.size M2') G M1' H' → zM (zA s.heap.size M1') G M2' H' → zSim G M1' M2' h0 m0 (t + 1) → W p l e room_1 s m #[Value.ref b] below meth c H' locs' (20 + (t + 1)) (20966 + 10 * (t + 1)) (lw_Z below #[Value.ref b] s) (F0 m 711 ls []) := by
      intro M1' M2' H' locs' hS' hM1' hM2' hR'
      refine lv_iinc (v := nI (6 * (t + 1))) (lv' := [(3, .int (nI (6 * (t + 1)))), (2, .ref m0), (1, .ref h0), (0, .ref b)]) hx hb dL_law_711 hl (k := 0) rfl (znext t) (by decide) rfl (fun ls hl => ?_)
      refine lv_goto (tgt := 18) hx hb dL_law_714 (by decide) ?_
      exact ih (t + 1) (by omega) (by omega) M1' M2' H' locs' ls hS' hM1' hM2' hR' hl
    refine lv_aload_n hx hb dL_law_27 rfl (lv_at hl 3 rfl) ?_
    refine lv_iload_n hx hb dL_law_28 rfl (lv_at hl 0 rfl) ?_
    refine va_sld hx hb hX hbl hbA hS (zhix0 hL h6) dL_law_29 ?_
    refine lv_bipush (v := 15) hx hb dL_law_30 (by decide) ?_
    refine lv_iand hx hb dL_law_32 ?_
    obtain ⟨j, hj, ev⟩ := pk_andE (xs (nI (6 * t)).toNatClampNeg) (m := 15) 4 rfl
    rw [ev]
    have hj : j < 16 := hj
    rcases (show j = 0 ∨ j = 1 ∨ j = 2 ∨ j = 3 ∨ j = 4 ∨ j = 5 ∨ j = 6 ∨ j = 7 ∨ j = 8 ∨ j = 9 ∨ j = 10 ∨ j = 11 ∨ j = 12 ∨ j = 13 ∨ j = 14 ∨ j = 15 by omega) with rfl | rfl | rfl | rfl | rfl | rfl | rfl | rfl | rfl | rfl | rfl | rfl | rfl | rfl | rfl | rfl
    · refine lv_tableIn (tgt := 100) hx hb dL_law_33 (by decide) (by decide) rfl (by decide) ?_
      exact lc_0 S hX hbl hK ht5 (zhix0 hL h6) (zhix (k := 1) hL h6 (by decide)) (zhix (k := 2) hL h6 (by decide)) (zhix (k := 3) hL h6 (by decide)) (zhix (k := 4) hL h6 (by decide)) (zhix (k := 5) hL h6 (by decide)) hS hM1 hM2 hR hl hkk
    · refine lv_tableIn (tgt := 163) hx hb dL_law_33 (by decide) (by decide) rfl (by decide) ?_
      exact lc_1 S hX hbl hK ht5 (zhix0 hL h6) (zhix (k := 1) hL h6 (by decide)) (zhix (k := 2) hL h6 (by decide)) (zhix (k := 3) hL h6 (by decide)) (zhix (k := 4) hL h6 (by decide)) (zhix (k := 5) hL h6 (by decide)) hS hM1 hM2 hR hl hkk
    · refine lv_tableIn (tgt := 246) hx hb dL_law_33 (by decide) (by decide) rfl (by decide) ?_
      exact lc_2 S hX hbl hK ht5 (zhix0 hL h6) (zhix (k := 1) hL h6 (by decide)) (zhix (k := 2) hL h6 (by decide)) (zhix (k := 3) hL h6 (by decide)) (zhix (k := 4) hL h6 (by decide)) (zhix (k := 5) hL h6 (by decide)) hS hM1 hM2 hR hl hkk
    · refine lv_tableIn (tgt := 305) hx hb dL_law_33 (by decide) (by decide) rfl (by decide) ?_
      exact lc_3 S hX hbl hK ht5 (zhix0 hL h6) (zhix (k := 1) hL h6 (by decide)) (zhix (k := 2) hL h6 (by decide)) (zhix (k := 3) hL h6 (by decide)) (zhix (k := 4) hL h6 (by decide)) (zhix (k := 5) hL h6 (by decide)) hS hM1 hM2 hR hl hkk
    · refine lv_tableIn (tgt := 338) hx hb dL_law_33 (by decide) (by decide) rfl (by decide) ?_
      exact lc_4 S hX hbl hK ht5 (zhix0 hL h6) (zhix (k := 1) hL h6 (by decide)) (zhix (k := 2) hL h6 (by decide)) (zhix (k := 3) hL h6 (by decide)) (zhix (k := 4) hL h6 (by decide)) (zhix (k := 5) hL h6 (by decide)) hS hM1 hM2 hR hl hkk
    · refine lv_tableIn (tgt := 421) hx hb dL_law_33 (by decide) (by decide) rfl (by decide) ?_
      exact lc_5 S hX hbl hK ht5 (zhix0 hL h6) (zhix (k := 1) hL h6 (by decide)) (zhix (k := 2) hL h6 (by decide)) (zhix (k := 3) hL h6 (by decide)) (zhix (k := 4) hL h6 (by decide)) (zhix (k := 5) hL h6 (by decide)) hS hM1 hM2 hR hl hkk
    · refine lv_tableIn (tgt := 484) hx hb dL_law_33 (by decide) (by decide) rfl (by decide) ?_
      exact lc_6 S hX hbl hK ht5 (zhix0 hL h6) (zhix (k := 1) hL h6 (by decide)) (zhix (k := 2) hL h6 (by decide)) (zhix (k := 3) hL h6 (by decide)) (zhix (k := 4) hL h6 (by decide)) (zhix (k := 5) hL h6 (by decide)) hS hM1 hM2 hR hl hkk
    · refine lv_tableIn (tgt := 507) hx hb dL_law_33 (by decide) (by decide) rfl (by decide) ?_
      exact lc_7 S hX hbl hK ht5 (zhix0 hL h6) (zhix (k := 1) hL h6 (by decide)) (zhix (k := 2) hL h6 (by decide)) (zhix (k := 3) hL h6 (by decide)) (zhix (k := 4) hL h6 (by decide)) (zhix (k := 5) hL h6 (by decide)) hS hM1 hM2 hR hl hkk
    · refine lv_tableIn (tgt := 556) hx hb dL_law_33 (by decide) (by decide) rfl (by decide) ?_
      exact lc_8 S hX hbl hK ht5 (zhix0 hL h6) (zhix (k := 1) hL h6 (by decide)) (zhix (k := 2) hL h6 (by decide)) (zhix (k := 3) hL h6 (by decide)) (zhix (k := 4) hL h6 (by decide)) (zhix (k := 5) hL h6 (by decide)) hS hM1 hM2 hR hl hkk
    · refine lv_tableIn (tgt := 579) hx hb dL_law_33 (by decide) (by decide) rfl (by decide) ?_
      exact lc_9 S hX hbl hK ht5 (zhix0 hL h6) (zhix (k := 1) hL h6 (by decide)) (zhix (k := 2) hL h6 (by decide)) (zhix (k := 3) hL h6 (by decide)) (zhix (k := 4) hL h6 (by decide)) (zhix (k := 5) hL h6 (by decide)) hS hM1 hM2 hR hl hkk
    · refine lv_tableIn (tgt := 612) hx hb dL_law_33 (by decide) (by decide) rfl (by decide) ?_
      exact lc_10 S hX hbl hK ht5 (zhix0 hL h6) (zhix (k := 1) hL h6 (by decide)) (zhix (k := 2) hL h6 (by decide)) (zhix (k := 3) hL h6 (by decide)) (zhix (k := 4) hL h6 (by decide)) (zhix (k := 5) hL h6 (by decide)) hS hM1 hM2 hR hl hkk
    · refine lv_tableIn (tgt := 635) hx hb dL_law_33 (by decide) (by decide) rfl (by decide) ?_
      exact lc_11 S hX hbl hK ht5 (zhix0 hL h6) (zhix (k := 1) hL h6 (by decide)) (zhix (k := 2) hL h6 (by decide)) (zhix (k := 3) hL h6 (by decide)) (zhix (k := 4) hL h6 (by decide)) (zhix (k := 5) hL h6 (by decide)) hS hM1 hM2 hR hl hkk
    · refine lv_tableIn (tgt := 678) hx hb dL_law_33 (by decide) (by decide) rfl (by decide) ?_
      exact lc_12 S hX hbl hK ht5 (zhix0 hL h6) (zhix (k := 1) hL h6 (by decide)) (zhix (k := 2) hL h6 (by decide)) (zhix (k := 3) hL h6 (by decide)) (zhix (k := 4) hL h6 (by decide)) (zhix (k := 5) hL h6 (by decide)) hS hM1 hM2 hR hl hkk
    · refine lv_tableOut (tgt := 711) hx hb dL_law_33 (by decide) (by decide) ?_
      exact W.widen (by omega) (by omega) (hkk M1 M2 H locs hS hM1 hM2 hR.up)
    · refine lv_tableOut (tgt := 711) hx hb dL_law_33 (by decide) (by decide) ?_
      exact W.widen (by omega) (by omega) (hkk M1 M2 H locs hS hM1 hM2 hR.up)
    · refine lv_tableOut (tgt := 711) hx hb dL_law_33 (by decide) (by decide) ?_
      exact W.widen (by omega) (by omega) (hkk M1 M2 H locs hS hM1 hM2 hR.up)
