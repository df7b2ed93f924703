theorem zNw_of {w : Cond} (hw : zIsN w = true) {A : Array Value} {U : State} (h : w.before A U = true) : va_Nw w U := by
  cases w with
  | fieldLinkNest => exact va_Nw.of rfl h
  | methodLinkNest => exact va_Nw.of rfl h
  | arrayOver ty =>
    cases ty with
    | object C => exact va_AO.of h
    | _ => cases hw
  | _ => cases hw
theorem zM.wk {A B : Nat → Prop} {G : zG} {M : zMap} {H : Heap} (h : zM A G M H) (hw : ∀ q, A q → B q) : zM B G M H := fun a e he => ⟨hw _ (h a e he).1, (h a e he).2⟩
theorem zM.split {z q : Nat} {G : zG} {M : zMap} {e : va_E} {H : Heap} (h : zM (fun x => z ≤ x) G (zu M q e) H) (hq : M q = none) : zM (zA z (zu (fun _ => none) q e)) G M H ∧ zM (zA z M) G (zu (fun _ => none) q e) H := by
  refine ⟨fun a x ha => ?_, fun a x ha => ?_⟩
  · have hne : a ≠ q := znf ha hq
    have h1 := h a x ((zu_n hne).trans ha)
    exact ⟨⟨h1.1, zu_n hne⟩, h1.2⟩
  · by_cases e1 : a = q
    · subst e1
      rw [zu_s] at ha
      have ex : e = x := Option.some.inj ha
      have h1 := h a e (zu_s _ _ _)
      rw [← ex]
      exact ⟨⟨h1.1, hq⟩, h1.2⟩
    · rw [zu_n e1] at ha
      cases ha
set_option maxHeartbeats 4000000 in
set_option maxRecDepth 100000 in
theorem zK_start {s : State} {b : Nat} (hts : ∀ w ∈ lw_tbl, w.before #[Value.ref b] s = true) : ∃ G : zG, zK G s := by
  have hz : ∀ w ∈ zB, w.before #[Value.ref b] s = true := fun w h => hts w (List.mem_filter.mp h).1
  obtain ⟨c0, iS0, hKn0⟩ := u_known (C := RX0) (T := TX0) (N := 10) (n := 10) hts in0X0 (hz _ kw_72)
  obtain ⟨c1, iS1, hKn1⟩ := u_known (C := RX1) (T := TX1) (N := 4) (n := 4) hts in0X1 (hz _ kw_150)
  obtain ⟨c2, iS2, hKn2⟩ := u_known (C := RX2) (T := TX2) (N := 6) (n := 6) hts in0X2 (hz _ kw_7)
  obtain ⟨c3, iS3, hKn3⟩ := u_known (C := RX3) (T := TX3) (N := 19) (n := 19) hts in0X3 (hz _ kw_215)
  obtain ⟨cA0, kA0, comp0, ha0, hb0, hc0⟩ := Cond.arrayClass_spec (hz _ kw_36)
  obtain ⟨cA1, kA1, comp1, ha1, hb1, hc1⟩ := Cond.arrayClass_spec (hz _ kw_35)
  obtain ⟨cA3, kA3, comp3, ha3, hb3, hc3⟩ := Cond.arrayClass_spec (hz _ kw_278)
  obtain ⟨comp2, cA2, kA2, h21, h22, h23, h24, h25⟩ := Cond.arrayOver_spec (hts _ (List.mem_filter.mp kw_15).1)
  refine ⟨(fun k => if k = 0 then c0 else if k = 1 then c1 else if k = 2 then c2 else c3, fun k => if k = 0 then iS0 else if k = 1 then iS1 else if k = 2 then iS2 else iS3, fun k => if k = 0 then cA0 else if k = 1 then cA1 else if k = 2 then cA2 else cA3), ⟨fun k q hq => ?_, fun k q hq => ?_⟩, fun w hw => zNw_of (List.mem_filter.mp hw).2 (hts w (List.mem_filter.mp hw).1)⟩
  · match k, hq with
    | 0, hq => cases hq; exact hKn0
    | 1, hq => cases hq; exact hKn1
    | 2, hq => cases hq; exact hKn2
    | 3, hq => cases hq; exact hKn3
    | k + 4, hq => simp [vwCl] at hq
  · match k, hq with
    | 0, hq => cases hq; exact ⟨fun n z => ⟨fun k h => (by cases h), kA0, hb0, comp0, hc0⟩, ha0⟩
    | 1, hq => cases hq; exact ⟨fun n z => ⟨fun k h => (by cases h), kA1, hb1, comp1, hc1⟩, ha1⟩
    | 2, hq => cases hq; exact ⟨fun n z => ⟨fun k h => (by cases h), kA2, h23, comp2, h24⟩, kA2, comp2, h23, h24, h21, h25⟩
    | 3, hq => cases hq; exact ⟨fun n z => ⟨fun k h => (by cases h), kA3, hb3, comp3, hc3⟩, ha3⟩
    | k + 4, hq => simp [zT] at hq
set_option maxHeartbeats 4000000 in
set_option maxRecDepth 100000 in
theorem whole_start {p : Program} {e : Env} {s : State} {m : MethodId} {below : List Frame} {meth : Method} {c : Code} (l : Launch) {b L : Nat} {xs : Nat → Int32} (hL : L ≤ 3072) (C0 : lw_At p s m meth c b L xs) : W p l e room_1 s m #[Value.ref b] below meth c s.heap [] 0 0 (lw_Z below #[Value.ref b] s) (entryFrame m ([Value.ref b] : List Value).toArray 4) := by
  obtain ⟨hx, hb, hr, hml, hown, hts, hX, hbl, hlocks, hgv⟩ := id C0
  have S : CallFix p m c code 4 s #[Value.ref b] zB R_law := ⟨hx, hb, hml, hown, fun w h => hts w (List.mem_filter.mp h).1⟩
  obtain ⟨G, hK⟩ := zK_start hts
  have hA : ∀ q : Nat, s.heap.size ≤ q → (fun q : Nat => s.heap.size ≤ q) q := fun _ h => h
  have hS : va_S (fun q : Nat => s.heap.size ≤ q) s.heap s.heap [] := va_S.rf
  have hM : zM (fun q : Nat => s.heap.size ≤ q) G (fun _ => none) s.heap := fun a e h => by cases h
  have hl := lv_entry ([.ref b]) (n := 4) (Nat.le_of_ble_eq_true rfl)
  rw [lg_entry_eq]
  generalize (lg_sl ([.ref b]) ++ List.replicate (4 - (lg_sl ([.ref b])).length) Slot.unset).toArray = ls at hl ⊢
  have hl : lv_has ls 4 [(0, .ref b)] := hl
  refine z_new (fs := [.null, .int 0, .null, .null, .long 0, .int 0]) S kX2 hK hM hS hA kw_6 kw_7 kw_1 (fun j hj => by rcases (show j = 0 ∨ j = 1 ∨ j = 2 ∨ j = 3 ∨ j = 4 ∨ j = 5 by omega) with rfl | rfl | rfl | rfl | rfl | rfl <;> rfl) (Nat.le_of_ble_eq_true rfl) (Nat.le_of_ble_eq_true rfl) dL_law_0 (fun h0 H hq hAq hM hS => ?_)
  refine lv_dup hx hb dL_law_3 rfl ?_
  have hM1 : zM (zA s.heap.size (fun _ => none)) G (zu (fun _ => none) h0 (.inr (2, [.null, .int 0, .null, .null, .long 0, .int 0]))) H := hM.wk (fun q h => ⟨h, rfl⟩)
  refine z_callIX (As := []) (rest := [.ref h0]) S (c_X2_init l (zA s.heap.size (fun _ => none)) G _ h0 none 0 none none 0 0 (cvm (fun _ _ => 0) (fun _ _ => 0)) (zu_s _ _ _)) ok_X2_init kw_8 kw_9 rfl ⟨Nat.le_of_ble_eq_true rfl, Nat.le_of_ble_eq_true rfl⟩ hK hM1 hS (fun q h => ⟨Nat.le_trans hS.1 h, rfl⟩) (fun q h => h.1) rfl hl.1 rfl (Nat.le_of_ble_eq_true rfl) dL_law_4 ⟨Nat.le_of_ble_eq_true rfl, Nat.le_of_ble_eq_true rfl⟩ (fun r1 M1 H locs hp hM1 hsz1 hk1 hS => ?_)
  obtain ⟨rfl, cps, den, fee, ca, hI⟩ := hp
  refine W.eq (g2 := F0 m 7 ls [.ref h0]) rfl ?_
  refine lv_astore_n (lv' := [(1, .ref h0), (0, .ref b)]) hx hb dL_law_7 rfl hl (by decide) rfl (fun ls hl => ?_)
  refine z_new (fs := [.int 0, .int 0, .null, .null, .null, .null, .null, .null, .null, .null, .null, .null, .null, .int 0, .null, .null, .null, .null, .long 0]) S kX3 hK (hM1.wk (fun q h => h.1)) hS hA kw_214 kw_215 kw_2 (fun j hj => by rcases (show j = 0 ∨ j = 1 ∨ j = 2 ∨ j = 3 ∨ j = 4 ∨ j = 5 ∨ j = 6 ∨ j = 7 ∨ j = 8 ∨ j = 9 ∨ j = 10 ∨ j = 11 ∨ j = 12 ∨ j = 13 ∨ j = 14 ∨ j = 15 ∨ j = 16 ∨ j = 17 ∨ j = 18 by omega) with rfl | rfl | rfl | rfl | rfl | rfl | rfl | rfl | rfl | rfl | rfl | rfl | rfl | rfl | rfl | rfl | rfl | rfl | rfl <;> rfl) (Nat.le_of_ble_eq_true rfl) (Nat.le_of_ble_eq_true rfl) dL_law_8 (fun m0 H hq2 hAq2 hM hS => ?_)
  refine lv_dup hx hb dL_law_11 rfl ?_
  obtain ⟨hMa, hMb⟩ := hM.split hq2
  refine z_callIX (As := []) (rest := [.ref m0]) S (c_X3_init l (zA s.heap.size M1) G _ m0 none none none none none none none none none none none none none none none (zu_s _ _ _)) ok_X3_init kw_216 kw_217 rfl ⟨Nat.le_of_ble_eq_true rfl, Nat.le_of_ble_eq_true rfl⟩ hK hMb hS (fun q h => ⟨Nat.le_trans hS.1 h, hMa.fresh h⟩) (fun q h => h.1) rfl hl.1 rfl (Nat.le_of_ble_eq_true rfl) dL_law_12 ⟨Nat.le_of_ble_eq_true rfl, Nat.le_of_ble_eq_true rfl⟩ (fun r2 M2 H locs hp hM2 hsz2 hk2 hS => ?_)
  obtain ⟨rfl, ar, hJ⟩ := hp
  have hM1 := hMa.swap hM2 hk2
  refine W.eq (g2 := F0 m 15 ls [.ref m0]) rfl ?_
  refine lv_astore_n (lv' := [(2, .ref m0), (1, .ref h0), (0, .ref b)]) hx hb dL_law_15 rfl hl (by decide) rfl (fun ls hl => ?_)
  refine lv_iconst (v := 0) hx hb dL_law_16 (by decide) ?_
  refine lv_istore_n (lv' := [(3, .int 0), (2, .ref m0), (1, .ref h0), (0, .ref b)]) hx hb dL_law_17 rfl hl (by decide) rfl (fun ls hl => ?_)
  refine W.widen (k := 20 + 0) (n := 20966 + 10 * 0) (Nat.le_of_ble_eq_true rfl) (Nat.le_of_ble_eq_true rfl) ?_
  refine law_loop hL C0 hK (L + 1) 0 (Nat.zero_le _) (by omega) M1 M2 H locs ls hS hM1 hM2 ⟨cps, den, fee, 0, ca, fun _ => [], ar, 0, 0, 0, fun _ _ => 0, fun _ _ => 0, hI, hJ, ?_⟩ hl
  exact ⟨Nat.le_refl _, fun j hj => absurd hj (Nat.not_lt_zero j), fun i k _ hk => absurd hk (Nat.not_lt_zero k), fun j hj => absurd hj (Nat.not_lt_zero j), fun a ha => absurd ha (Nat.not_lt_zero a), fun _ => Or.inl rfl, fun _ => Or.inl rfl, fun _ _ => ⟨rfl, rfl⟩⟩
