abbrev zCV : Type := Int32 × Int64 × Int32 × Int32 × Int32 × Int32 × Int32 × Int32 × Int32
abbrev oCv (v : zCV) (fi : Option Nat) : va_E := oC v.1 v.2.1 v.2.2.1 v.2.2.2.1 v.2.2.2.2.1 v.2.2.2.2.2.1 v.2.2.2.2.2.2.1 v.2.2.2.2.2.2.2.1 v.2.2.2.2.2.2.2.2 fi
def zF (N : Nat) (ca : Nat → Nat) : Nat → Option Nat := fun j => if j < N then some (ca j) else none
def zuf {α : Type} (f : Nat → α) (k : Nat) (v : α) : Nat → α := fun j => if j = k then v else f j
theorem zuf_s {α : Type} (f : Nat → α) (k : Nat) (v : α) : zuf f k v k = v := if_pos rfl
theorem zuf_n {α : Type} {f : Nat → α} {k j : Nat} {v : α} (h : j ≠ k) : zuf f k v j = f j := if_neg h
def zSep (N : Nat) (ca : Nat → Nat) (ch : Nat → List (Nat × zEV)) : Prop := (∀ i j, i < N → j < N → ca i = ca j → i = j) ∧ (∀ j, j < N → ((ch j).map Prod.fst).Nodup) ∧ ∀ i j, i < N → j < N → i ≠ j → ∀ x ∈ ch i, ∀ y ∈ ch j, x.1 ≠ y.1
def zI (G : zG) (M : zMap) (h0 cps den fee N : Nat) (ca : Nat → Nat) (cv : Nat → zCV) (ch : Nat → List (Nat × zEV)) (dn fe : Nat → Int32) (gd : Int64) (ec : Nat) : Prop :=
  M h0 = some (oI cps (nI N) den fee gd (nI ec)) ∧ M cps = some (.inl (G.2.2 2, 80, .inr (.inr (.inr (.inr (zF N ca)))))) ∧ M den = some (.inl (G.2.2 1, 60, .inl dn)) ∧ M fee = some (.inl (G.2.2 0, 6, .inl fe)) ∧ den ≠ fee ∧ N ≤ 80 ∧ (∀ j, j < N → M (ca j) = some (oCv (cv j) (zHd (ch j))) ∧ zCh M (ch j) ∧ zbool (cv j).2.2.2.2.2.2.1) ∧ zSep N ca ch
def zIx (N : Nat) (k : Int32) : Option Nat := if k < 1 then none else if nI N < k then none else some (k - 1).toNatClampNeg
theorem zIx_some {N j : Nat} {k : Int32} (hN : N ≤ 80) (h : zIx N k = some j) : j < N ∧ k = nI (j + 1) := by
  unfold zIx at h
  by_cases h1 : k < 1
  · rw [if_pos h1] at h; cases h
  · rw [if_neg h1] at h
    by_cases h2 : nI N < k
    · rw [if_pos h2] at h; cases h
    · rw [if_neg h2] at h
      rcases pk_ix k (n := N + 1) (by omega) with h3 | h3 | ⟨i, hi, rfl⟩
      · exact absurd (Int32.lt_trans h3 (by decide)) h1
      · exact absurd (Int32.lt_of_lt_of_le (nI_lt (Nat.lt_succ_self N) (by omega)) h3) h2
      · cases i with
        | zero => exact absurd (show (nI 0 : Int32) < 1 by decide) h1
        | succ i =>
          rw [nI_pred, nI_clamp (by omega)] at h
          cases h
          exact ⟨by omega, rfl⟩
theorem zIx_of {N j : Nat} (hN : N ≤ 80) (hj : j < N) : zIx N (nI (j + 1)) = some j := by
  unfold zIx
  have e1 : ¬ nI (j + 1) < (1 : Int32) := nI_nlt (a := j + 1) (b := 1) (by omega) (by omega)
  rw [if_neg e1, if_neg (nI_nlt (by omega) (by omega)), nI_pred, nI_clamp (by omega)]
theorem zFi_eq {N : Nat} {ca : Nat → Nat} {k : Int32} (hN : N ≤ 80) : zFi (nI N) (zF N ca) k = (zIx N k).map ca := by
  unfold zFi
  cases hx : zIx N k with
  | none =>
    unfold zIx at hx
    by_cases h1 : k < 1
    · rw [if_pos h1]; rfl
    · rw [if_neg h1] at hx ⊢
      by_cases h2 : nI N < k
      · rw [if_pos h2]; rfl
      · rw [if_neg h2] at hx; cases hx
  | some j =>
    obtain ⟨hj, rfl⟩ := zIx_some hN hx
    have e1 : ¬ nI (j + 1) < (1 : Int32) := nI_nlt (a := j + 1) (b := 1) (by omega) (by omega)
    have e80 : ¬ (80 : Int32) < nI (j + 1) := nI_nlt (a := 80) (b := j + 1) (by omega) (by omega)
    rw [if_neg e1, if_neg (nI_nlt (by omega) (by omega)), if_neg e80, nI_pred, nI_clamp (by omega)]
    unfold zF
    rw [if_pos hj]
    rfl
section ZI
variable {G : zG} {M : zMap} {h0 cps den fee N : Nat} {ca : Nat → Nat} {cv : Nat → zCV} {ch : Nat → List (Nat × zEV)} {dn fe : Nat → Int32} {gd : Int64} {ec : Nat}
theorem zI.mem (h : zI G M h0 cps den fee N ca cv ch dn fe gd ec) {j : Nat} (hj : j < N) {x : Nat × zEV} (hx : x ∈ ch j) : ∃ nx, M x.1 = some (oE x.2.1 x.2.2.1 x.2.2.2 nx) := (h.2.2.2.2.2.2.1 j hj).2.1.at x hx
theorem zI.floor (h : zI G M h0 cps den fee N ca cv ch dn fe gd ec) {M1 : zMap} (hk : ∀ b, M b ≠ none → M1 b = M b) : zI G M1 h0 cps den fee N ca cv ch dn fe gd ec := by
  obtain ⟨a1, a2, a3, a4, a5, a6, a7, a8⟩ := h
  have k : ∀ {b : Nat} {x : va_E}, M b = some x → M1 b = some x := fun {b x} hb => (hk b (by rw [hb]; exact fun q => by cases q)).trans hb
  refine ⟨k a1, k a2, k a3, k a4, a5, a6, fun j hj => ⟨k (a7 j hj).1, (a7 j hj).2.1.frame (fun x hx => ?_), (a7 j hj).2.2⟩, a8⟩
  obtain ⟨nx, h9⟩ := (a7 j hj).2.1.at x hx
  rw [h9]; exact k h9
theorem zI.setC (h : zI G M h0 cps den fee N ca cv ch dn fe gd ec) {j : Nat} (hj : j < N) (v : zCV) (hv : zbool v.2.2.2.2.2.2.1) : zI G (zu M (ca j) (oCv v (zHd (ch j)))) h0 cps den fee N ca (zuf cv j v) ch dn fe gd ec := by
  obtain ⟨a1, a2, a3, a4, a5, a6, a7, a8⟩ := h
  have hc := (a7 j hj).1
  refine ⟨(zu_n (zne a1 hc (by simp))).trans a1, (zu_n (zne a2 hc (by simp))).trans a2, (zu_n (zne a3 hc (by simp))).trans a3, (zu_n (zne a4 hc (by simp))).trans a4, a5, a6, fun i hi => ⟨?_, (a7 i hi).2.1.frame (fun x hx => ?_), ?_⟩, a8⟩
  · by_cases e : i = j
    · subst e; rw [zu_s, zuf_s]
    · rw [zu_n (fun q => e (a8.1 i j hi hj q)), zuf_n e]; exact (a7 i hi).1
  · obtain ⟨nx, h9⟩ := (a7 i hi).2.1.at x hx
    exact zu_n (zne h9 hc (by simp))
  · by_cases e : i = j
    · subst e; rw [zuf_s]; exact hv
    · rw [zuf_n e]; exact (a7 i hi).2.2
theorem zI.setD (h : zI G M h0 cps den fee N ca cv ch dn fe gd ec) (dn1 : Nat → Int32) : zI G (zu M den (.inl (G.2.2 1, 60, .inl dn1))) h0 cps den fee N ca cv ch dn1 fe gd ec := by
  obtain ⟨a1, a2, a3, a4, a5, a6, a7, a8⟩ := h
  refine ⟨(zu_n (zne a1 a3 (by simp))).trans a1, (zu_n (zne a2 a3 (by simp))).trans a2, zu_s _ _ _, (zu_n (Ne.symm a5)).trans a4, a5, a6, fun i hi => ⟨(zu_n (zne (a7 i hi).1 a3 (by simp))).trans (a7 i hi).1, (a7 i hi).2.1.frame (fun x hx => ?_), (a7 i hi).2.2⟩, a8⟩
  obtain ⟨nx, h9⟩ := (a7 i hi).2.1.at x hx
  exact zu_n (zne h9 a3 (by simp))
theorem zI.setF (h : zI G M h0 cps den fee N ca cv ch dn fe gd ec) (fe1 : Nat → Int32) : zI G (zu M fee (.inl (G.2.2 0, 6, .inl fe1))) h0 cps den fee N ca cv ch dn fe1 gd ec := by
  obtain ⟨a1, a2, a3, a4, a5, a6, a7, a8⟩ := h
  refine ⟨(zu_n (zne a1 a4 (by simp))).trans a1, (zu_n (zne a2 a4 (by simp))).trans a2, (zu_n a5).trans a3, zu_s _ _ _, a5, a6, fun i hi => ⟨(zu_n (zne (a7 i hi).1 a4 (by simp))).trans (a7 i hi).1, (a7 i hi).2.1.frame (fun x hx => ?_), (a7 i hi).2.2⟩, a8⟩
  obtain ⟨nx, h9⟩ := (a7 i hi).2.1.at x hx
  exact zu_n (zne h9 a4 (by simp))
theorem zI.enter (h : zI G M h0 cps den fee N ca cv ch dn fe gd ec) {j : Nat} (hj : j < N) {M1 : zMap} {q : Nat} {d : Int64} {x : zEV} {gd1 : Int64} (hq : M q = none) (h1 : zCh M1 (zIns d (q, x) (ch j))) (h2 : M1 (ca j) = some (oCv (cv j) (zHd (zIns d (q, x) (ch j))))) (h3 : M1 h0 = some (oI cps (nI N) den fee gd1 (nI (ec + 1)))) (hk : ∀ b, b ≠ ca j → b ≠ h0 → b ≠ q → (∀ y ∈ ch j, y.1 ≠ b) → M1 b = M b) :
    zI G M1 h0 cps den fee N ca cv (zuf ch j (zIns d (q, x) (ch j))) dn fe gd1 (ec + 1) := by
  have h' := h
  obtain ⟨a1, a2, a3, a4, a5, a6, a7, a8⟩ := h
  have hc := (a7 j hj).1
  have arr : ∀ {b : Nat} {z : ClassId × vp_A}, M b = some (.inl z) → M1 b = some (.inl z) := fun {b z} hb => (hk b (zne hb hc (by simp)) (zne hb a1 (by simp)) (znf hb hq) (fun y hy => by
    obtain ⟨nx, h9⟩ := (a7 j hj).2.1.at y hy
    exact zne h9 hb (by simp))).trans hb
  refine ⟨h3, arr a2, arr a3, arr a4, a5, a6, fun i hi => ?_, a8.1, fun i hi => ?_, fun i k hi hk2 hne => ?_⟩
  · by_cases e : i = j
    · subst e
      rw [zuf_s]
      exact ⟨h2, h1, (a7 i hi).2.2⟩
    · rw [zuf_n e]
      refine ⟨(hk _ (fun z => e (a8.1 i j hi hj z)) (zne (a7 i hi).1 a1 (by simp)) (znf (a7 i hi).1 hq) (fun y hy => ?_)).trans (a7 i hi).1, (a7 i hi).2.1.frame (fun y hy => ?_), (a7 i hi).2.2⟩
      · obtain ⟨nx, h9⟩ := (a7 j hj).2.1.at y hy
        exact zne h9 (a7 i hi).1 (by simp)
      · obtain ⟨nx, h9⟩ := (a7 i hi).2.1.at y hy
        exact hk _ (zne h9 hc (by simp)) (zne h9 a1 (by simp)) (znf h9 hq) (fun z hz => a8.2.2 j i hj hi (Ne.symm e) z hz y hy)
  · by_cases e : i = j
    · subst e
      rw [zuf_s]
      have hn := a8.2.1 i hi
      have hqn : q ∉ (ch i).map Prod.fst := fun hm => by
        obtain ⟨y, hy, e9⟩ := List.mem_map.mp hm
        obtain ⟨nx, h9⟩ := (a7 i hi).2.1.at y hy
        rw [e9, hq] at h9; cases h9
      unfold zIns
      rw [← zUpDn d (ch i)] at hn hqn
      rw [List.map_append] at hn hqn ⊢
      rw [List.map_cons]
      have hp : (List.map Prod.fst (zUp d (ch i)) ++ q :: List.map Prod.fst (zDn d (ch i))).Perm (q :: (List.map Prod.fst (zUp d (ch i)) ++ List.map Prod.fst (zDn d (ch i)))) := List.perm_middle
      exact hp.nodup_iff.mpr (List.nodup_cons.mpr ⟨hqn, hn⟩)
    · rw [zuf_n e]; exact a8.2.1 i hi
  · intro y hy z hz
    by_cases e : i = j
    · subst e
      rw [zuf_s] at hy
      rw [zuf_n (Ne.symm hne)] at hz
      rcases zIns_mem.mp hy with rfl | hy
      · obtain ⟨nx, h9⟩ := (a7 k hk2).2.1.at z hz
        exact Ne.symm (znf h9 hq)
      · exact a8.2.2 i k hi hk2 hne y hy z hz
    · rw [zuf_n e] at hy
      by_cases e2 : k = j
      · subst e2
        rw [zuf_s] at hz
        rcases zIns_mem.mp hz with rfl | hz
        · obtain ⟨nx, h9⟩ := (a7 i hi).2.1.at y hy
          exact znf h9 hq
        · exact a8.2.2 i k hi hk2 hne y hy z hz
      · rw [zuf_n e2] at hz
        exact a8.2.2 i k hi hk2 hne y hy z hz
theorem zI.add (h : zI G M h0 cps den fee N ca cv ch dn fe gd ec) (hN : N < 80) {M1 : zMap} {q : Nat} {v : zCV} (hv : zbool v.2.2.2.2.2.2.1) (hq : M q = none) (e1 : M1 q = some (oCv v none)) (e2 : M1 cps = some (.inl (G.2.2 2, 80, .inr (.inr (.inr (.inr (va_up (zF N ca) N (some q)))))))) (e3 : M1 h0 = some (oI cps (nI (N + 1)) den fee gd (nI ec))) (hk : ∀ b, b ≠ q → b ≠ cps → b ≠ h0 → M1 b = M b) :
    zI G M1 h0 cps den fee (N + 1) (zuf ca N q) (zuf cv N v) (zuf ch N []) dn fe gd ec := by
  obtain ⟨a1, a2, a3, a4, a5, a6, a7, a8⟩ := h
  refine ⟨e3, ?_, ?_, ?_, a5, by omega, fun i hi => ?_, ⟨fun i j hi hj e => ?_, fun i hi => ?_, fun i k hi hk2 hne => ?_⟩⟩
  · rw [e2]
    have : va_up (zF N ca) N (some q) = zF (N + 1) (zuf ca N q) := by
      funext j
      unfold va_up zF zuf
      by_cases hj : j = N
      · subst hj; simp
      · by_cases hlt : j < N
        · simp [hj, hlt, Nat.lt_succ_of_lt hlt]
        · have : ¬ j < N + 1 := by omega
          simp [hj, hlt, this]
    rw [this]
  · exact (hk den (znf a3 hq) (zne a3 a2 (by simp)) (zne a3 a1 (by simp))).trans a3
  · exact (hk fee (znf a4 hq) (zne a4 a2 (by simp)) (zne a4 a1 (by simp))).trans a4
  · by_cases e : i = N
    · subst e
      rw [zuf_s, zuf_s, zuf_s]
      exact ⟨e1, trivial, hv⟩
    · have hi2 : i < N := by omega
      have hci := (a7 i hi2).1
      rw [zuf_n e, zuf_n e, zuf_n e]
      refine ⟨(hk _ (znf hci hq) (zne hci a2 (by simp)) (zne hci a1 (by simp))).trans hci, (a7 i hi2).2.1.frame (fun y hy => ?_), (a7 i hi2).2.2⟩
      obtain ⟨nx, h9⟩ := (a7 i hi2).2.1.at y hy
      exact hk _ (znf h9 hq) (zne h9 a2 (by simp)) (zne h9 a1 (by simp))
  · by_cases ei : i = N
    · by_cases ej : j = N
      · rw [ei, ej]
      · subst ei
        rw [zuf_s, zuf_n ej] at e
        exact absurd e.symm (znf (a7 j (by omega)).1 hq)
    · by_cases ej : j = N
      · subst ej
        rw [zuf_s, zuf_n ei] at e
        exact absurd e (znf (a7 i (by omega)).1 hq)
      · rw [zuf_n ei, zuf_n ej] at e
        exact a8.1 i j (by omega) (by omega) e
  · by_cases e : i = N
    · subst e; rw [zuf_s]; exact List.nodup_nil
    · rw [zuf_n e]; exact a8.2.1 i (by omega)
  · intro y hy z hz
    by_cases ei : i = N
    · subst ei; rw [zuf_s] at hy; cases hy
    · by_cases ek : k = N
      · subst ek; rw [zuf_s] at hz; cases hz
      · rw [zuf_n ei] at hy
        rw [zuf_n ek] at hz
        exact a8.2.2 i k (by omega) (by omega) hne y hy z hz
end ZI
def vUp (d : Int64) : List zEV → List zEV
  | [] => []
  | x :: l => if x.1 ≤ d then x :: vUp d l else []
def vDn (d : Int64) : List zEV → List zEV
  | [] => []
  | x :: l => if x.1 ≤ d then vDn d l else x :: l
def vIns (d : Int64) (x : zEV) (l : List zEV) : List zEV := vUp d l ++ x :: vDn d l
def vSt (d : Int64) (l : List zEV) : Int32 := match (vUp d l).getLast? with
  | none => 3
  | some x => x.2.1
theorem zUp_map (d : Int64) : ∀ L : List (Nat × zEV), (zUp d L).map Prod.snd = vUp d (L.map Prod.snd)
  | [] => rfl
  | x :: L => by
    show (if x.2.1 ≤ d then x :: zUp d L else []).map Prod.snd = if x.2.1 ≤ d then x.2 :: vUp d (L.map Prod.snd) else []
    by_cases h : x.2.1 ≤ d
    · rw [if_pos h, if_pos h, List.map_cons, zUp_map d L]
    · rw [if_neg h, if_neg h]; rfl
theorem zDn_map (d : Int64) : ∀ L : List (Nat × zEV), (zDn d L).map Prod.snd = vDn d (L.map Prod.snd)
  | [] => rfl
  | x :: L => by
    show (if x.2.1 ≤ d then zDn d L else x :: L).map Prod.snd = if x.2.1 ≤ d then vDn d (L.map Prod.snd) else x.2 :: L.map Prod.snd
    by_cases h : x.2.1 ≤ d
    · rw [if_pos h, if_pos h, zDn_map d L]
    · rw [if_neg h, if_neg h]; rfl
theorem zIns_map (d : Int64) (x : Nat × zEV) (L : List (Nat × zEV)) : (zIns d x L).map Prod.snd = vIns d x.2 (L.map Prod.snd) := by
  unfold zIns vIns
  rw [List.map_append, List.map_cons, zUp_map, zDn_map]
theorem zSt_map (d : Int64) (L : List (Nat × zEV)) : zSt d L = vSt d (L.map Prod.snd) := by
  unfold zSt vSt
  rw [← zUp_map, List.getLast?_map]
  cases (zUp d L).getLast? <;> rfl
def zIA (G : zG) (M : zMap) (h0 N : Nat) (cv : Nat → zCV) (el : Nat → List zEV) (dn fe : Nat → Int32) (gd : Int64) (ec : Nat) : Prop :=
  ∃ (cps den fee : Nat) (ca : Nat → Nat) (ch : Nat → List (Nat × zEV)), zI G M h0 cps den fee N ca cv ch dn fe gd ec ∧ el = fun j => (ch j).map Prod.snd
theorem zuf_map {α β : Type} (g : α → β) (f : Nat → α) (k : Nat) (v : α) : (fun j => g (zuf f k v j)) = zuf (fun j => g (f j)) k (g v) := by
  funext j
  unfold zuf
  by_cases h : j = k
  · rw [if_pos h, if_pos h]
  · rw [if_neg h, if_neg h]
def zsel (N : Nat) (k d : Int32) (f : Nat → Int32) : Int32 := match zIx N k with
  | none => d
  | some j => f j
theorem zsel_n {N : Nat} {k d : Int32} {f : Nat → Int32} (h : zIx N k = none) : zsel N k d f = d := by unfold zsel; rw [h]
theorem zsel_s {N j : Nat} {k d : Int32} {f : Nat → Int32} (h : zIx N k = some j) : zsel N k d f = f j := by unfold zsel; rw [h]
def zFl (N : Nat) (k on : Int32) (cv : Nat → zCV) : Nat → zCV := match zIx N k with
  | none => cv
  | some j => zuf cv j ((cv j).1, (cv j).2.1, (cv j).2.2.1, (cv j).2.2.2.1, (cv j).2.2.2.2.1, (cv j).2.2.2.2.2.1, on, (cv j).2.2.2.2.2.2.2.1, (cv j).2.2.2.2.2.2.2.2)
def zRt (p0 p1 on : Int32) (dn : Nat → Int32) : Nat → Int32 := if zPl p0 ∧ zTy p1 then upd dn (p0 * 6 + p1).toNatClampNeg (zb (on = 0)) else dn
def zFr (p0 p1 : Int32) (fe : Nat → Int32) : Int32 := if zTy p0 ∧ ¬ p1 < 0 ∧ p1 ≤ 1000000 then fe p0.toNatClampNeg else -1
def zFe (p0 p1 : Int32) (fe : Nat → Int32) : Nat → Int32 := if zTy p0 ∧ ¬ p1 < 0 ∧ p1 ≤ 1000000 then upd fe p0.toNatClampNeg p1 else fe
def zcd (r : Int64) : Int32 := (r - r / 10 * 10).toInt32
def zcR (number : Int64) : Nat → Int64
  | 0 => number
  | k + 1 => zcR number k / 10
def zcS (number : Int64) : Nat → Int32
  | 0 => 0
  | k + 1 => zcS number k + (if k % 2 = 0 then zdb (zcd (zcR number k)) else zcd (zcR number k))
abbrev zrm (x y : Int32) : Int32 := x - x / y * y
def zchk (number : Int64) (digits : Int32) : Int32 := if number < 0 ∨ digits < 1 ∨ 12 < digits then -1 else if zcR number digits.toNatClampNeg = 0 then zrm (10 - zrm (zcS number digits.toNatClampNeg) 10) 10 else -1
theorem z112 {x : Int32} (h1 : ¬ x < 1) (h2 : x ≤ 12) : ∃ K : Nat, 1 ≤ K ∧ K ≤ 12 ∧ x = nI K := by
  rcases pk_ix x (n := 13) (by decide) with h | h | ⟨j, hj, rfl⟩
  · exact absurd (Int32.lt_trans h (by decide)) h1
  · exact absurd (Int32.le_trans h h2) (by decide)
  · refine ⟨j, ?_, by omega, rfl⟩
    cases j with
    | zero => exact absurd (show (nI 0 : Int32) < 1 by decide) h1
    | succ i => omega
theorem zpar {k : Nat} (hk : k < 2 ^ 31) : (nI k - nI k / 2 * 2 = 0) ↔ k % 2 = 0 := by
  have h2 : (2 : Int32) = nI 2 := rfl
  rw [h2, pk_rem hk (by decide) (by decide)]
  have h0 : (0 : Int32) = nI 0 := rfl
  rw [h0, nI_eq (by omega) (by decide)]
theorem zchk_in {number : Int64} {K : Nat} (h0 : ¬ number < 0) (h1 : 1 ≤ K) (h2 : K ≤ 12) : zchk number (nI K) = if zcR number K = 0 then zrm (10 - zrm (zcS number K) 10) 10 else -1 := by
  have e1 : (1 : Int32) = nI 1 := rfl
  have e12 : (12 : Int32) = nI 12 := rfl
  unfold zchk
  rw [if_neg, nI_clamp (by omega)]
  rintro (h | h | h)
  · exact h0 h
  · rw [e1, nI_ltI (by omega) (by decide)] at h; omega
  · rw [e12, nI_ltI (by decide) (by omega)] at h; omega
abbrev zBc (b : Int64) (dg : Int32) : Prop := ¬ b < 0 ∧ zchk (b / 10) dg = (b - b / 10 * 10).toInt32
abbrev zTk (N : Nat) (cv : Nat → zCV) (b : Int64) (dg : Int32) : Prop := ∃ i, i < N ∧ (cv i).2.1 = b ∧ (cv i).2.2.1 = dg
def zCt (cv : Nat → zCV) (sta hom : Int32) : Nat → Int32
  | 0 => 0
  | t + 1 => zCt cv sta hom t + (if (cv t).2.2.2.2.2.1 = sta ∧ (hom = -1 ∨ (cv t).2.2.2.1 = hom) then 1 else 0)
def zHi (L : List (Nat × zEV)) (i what : Int32) : Int32 := if i < 0 then -1 else if what < 0 then -1 else if 1 < what then -1 else match L[i.toNatClampNeg]? with
  | none => -1
  | some x => if what = 0 then x.2.2.1 else zb (¬ x.2.2.2 = 0)
theorem zHi_in {L : List (Nat × zEV)} {K : Nat} {what : Int32} (hK : K < 2 ^ 31) (h1 : ¬ what < 0) (h2 : what ≤ 1) : zHi L (nI K) what = match L[K]? with
  | none => -1
  | some x => if what = 0 then x.2.2.1 else zb (¬ x.2.2.2 = 0) := by
  unfold zHi
  rw [if_neg (nI_pos hK), if_neg h1, if_neg (Int32.not_lt.mpr h2), nI_clamp hK]
theorem zdrop1 {α : Type} {L R : List α} {x : α} {t : Nat} (h : L.drop t = x :: R) : L.drop (t + 1) = R := by
  rw [← List.drop_drop (i := 1) (j := t), h]; rfl
theorem zdrop0 {α : Type} {L R : List α} {x : α} {t : Nat} (h : L.drop t = x :: R) : L[t]? = some x := by
  have h1 : (L.drop t)[0]? = some x := by rw [h]; rfl
  rw [List.getElem?_drop] at h1
  exact h1
abbrev zCk (N : Nat) (cv : Nat → zCV) (ty : Int32) (bc : Int64) (dg hm : Int32) : Prop := (zTy ty ∧ zPl hm ∧ nI N < 80) ∧ zBc bc dg ∧ ¬ zTk N cv bc dg
def zCpr (N : Nat) (cv : Nat → zCV) (dn : Nat → Int32) (ty : Int32) (bc : Int64) (dg hm : Int32) : Int32 := if zCk N cv ty bc dg hm then (if zRi dn hm ty then nI (N + 1) else -3) else -1
theorem hin80 {N : Nat} (h : nI N < 80) (hN : N ≤ 80) : vp_in (nI N) 80 := by
  have e80 : (80 : Int32) = nI 80 := rfl
  rw [e80, nI_ltI (by omega) (by decide)] at h
  exact vp_in_nI h (by decide)
theorem zcl_N {N : Nat} (hN : N ≤ 80) : (nI N).toNatClampNeg = N := nI_clamp (by omega)
section ZP
variable (G : zG) (h0 cps den fee N : Nat) (ca : Nat → Nat) (cv : Nat → zCV) (ch : Nat → List (Nat × zEV)) (dn fe : Nat → Int32) (gd : Int64) (ec : Nat)
def zWQ (k who : Int32) : Option Value → zMap → Prop := fun r M1 => match zIx N k with
  | none => r = some (.int (-1)) ∧ zI G M1 h0 cps den fee N ca cv ch dn fe gd ec
  | some j => if ¬ who < 0 ∧ ¬ 100 ≤ who ∧ nI ec < 512 then
      (if zWd (cv j).2.2.2.2.2.1 ∧ ¬ (cv j).2.2.2.2.2.2.2.2 = who then
        (if (cv j).2.2.2.2.2.2.2.2 = -1 then r = some (.int 1) ∧ zI G M1 h0 cps den fee N ca (zuf cv j ((cv j).1, (cv j).2.1, (cv j).2.2.1, (cv j).2.2.2.1, (cv j).2.2.2.2.1, (cv j).2.2.2.2.2.1, (cv j).2.2.2.2.2.2.1, (cv j).2.2.2.2.2.2.2.1, who)) ch dn fe gd ec
        else r = some (.int 2) ∧ ∃ q, zI G M1 h0 cps den fee N ca (zuf cv j ((cv j).1, (cv j).2.1, (cv j).2.2.1, (cv j).2.2.2.1, (cv j).2.2.2.2.1, 7, (cv j).2.2.2.2.2.2.1, (cv j).2.2.2.2.2.2.2.1, (cv j).2.2.2.2.2.2.2.2)) (zuf ch j (zIns (gd + 1) (q, gd + 1, 7, 0) (ch j))) dn fe (if gd + 1 < gd then gd else gd + 1) (ec + 1))
      else r = some (.int (-2)) ∧ zI G M1 h0 cps den fee N ca cv ch dn fe gd ec)
    else r = some (.int (-1)) ∧ zI G M1 h0 cps den fee N ca cv ch dn fe gd ec
abbrev zA1 (kind place pl : Int32) (day : Int64) (ec : Nat) : Prop := ¬ kind < 0 ∧ ¬ 6 < kind ∧ ¬ day < 0 ∧ day ≤ 1000000000000 ∧ (kind = 2 → zPl place ∧ ¬ place = pl) ∧ nI ec < 512
def zBe (gd day : Int64) (st so : Int32) : Int32 := if day < gd then so else st
theorem zBe_l {gd day : Int64} {st so : Int32} (h : day < gd) : zBe gd day st so = so := if_pos h
theorem zBe_n {gd day : Int64} {st so : Int32} (h : ¬ day < gd) : zBe gd day st so = st := if_neg h
def zCoV (fe : Nat → Int32) (kind place : Int32) (v : zCV) : zCV := (v.1, v.2.1, v.2.2.1, (if kind = 0 ∧ ¬ v.2.2.2.2.2.2.1 = 0 then v.2.2.2.2.1 else v.2.2.2.1), (if kind = 2 then place else v.2.2.2.2.1), kind, v.2.2.2.2.2.2.1, (if kind = 6 ∧ v.2.2.2.2.2.1 = 1 ∧ zTy v.1 then v.2.2.2.2.2.2.2.1 + fe v.1.toNatClampNeg else v.2.2.2.2.2.2.2.1), -1)
def zAQ (k kind place : Int32) (day : Int64) : Option Value → zMap → Prop := fun r M1 => match zIx N k with
  | none => r = some (.int (-1)) ∧ zI G M1 h0 cps den fee N ca cv ch dn fe gd ec
  | some j => if zA1 kind place (cv j).2.2.2.2.1 day ec then
      (if zFo kind (zBe gd day (cv j).2.2.2.2.2.1 (zSt day (ch j))) then
        (if zLk dn kind place (zb (day < gd)) (cv j).2.2.2.2.2.1 (cv j).2.2.2.2.1 (cv j).1 then r = some (.int (-3)) ∧ zI G M1 h0 cps den fee N ca cv ch dn fe gd ec
        else r = some (.int kind) ∧ ∃ q, zI G M1 h0 cps den fee N ca (if day < gd then cv else zuf cv j (zCoV fe kind place (cv j))) (zuf ch j (zIns day (q, day, kind, zb (day < gd)) (ch j))) dn fe (if day < gd then gd else day) (ec + 1))
      else r = some (.int (-2)) ∧ zI G M1 h0 cps den fee N ca cv ch dn fe gd ec)
    else r = some (.int (-1)) ∧ zI G M1 h0 cps den fee N ca cv ch dn fe gd ec
end ZP
theorem zI_co {G : zG} {M : zMap} {h0 cps den fee N : Nat} {ca : Nat → Nat} {cv : Nat → zCV} {ch : Nat → List (Nat × zEV)} {dn fe : Nat → Int32} {gd : Int64} {ec : Nat} {L : List (Nat × zEV)} {j : Nat} {kind place : Int32} (h : zI G M h0 cps den fee N ca cv (zuf ch j L) dn fe gd ec) (hj : j < N) :
    zI G (zu M (ca j) (zCo fe kind place (cv j).1 (cv j).2.1 (cv j).2.2.1 (cv j).2.2.2.1 (cv j).2.2.2.2.1 (cv j).2.2.2.2.2.1 (cv j).2.2.2.2.2.2.1 (cv j).2.2.2.2.2.2.2.1 (zHd L))) h0 cps den fee N ca (zuf cv j (zCoV fe kind place (cv j))) (zuf ch j L) dn fe gd ec := by
  have h1 := h.setC hj (zCoV fe kind place (cv j)) (h.2.2.2.2.2.2.1 j hj).2.2
  rw [zuf_s] at h1
  exact h1
