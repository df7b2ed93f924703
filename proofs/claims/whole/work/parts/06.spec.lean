abbrev zTy (t : Int32) : Prop := ¬ t < 0 ∧ ¬ 6 ≤ t
abbrev zPl (t : Int32) : Prop := ¬ t < 0 ∧ ¬ 10 ≤ t
def zdb (d : Int32) : Int32 := if 2 * d ≤ 9 then 2 * d else 2 * d - 9
abbrev zFo (k t : Int32) : Prop := (k = 0 ∧ ¬ t < 1 ∧ ¬ 6 < t) ∨ (k = 1 ∧ (t = 0 ∨ t = 4)) ∨ ((k = 2 ∨ k = 5) ∧ (t = 0 ∨ t = 3)) ∨ (k = 3 ∧ (t = 0 ∨ t = 6)) ∨ (k = 4 ∧ t = 0) ∨ (k = 6 ∧ ¬ t < 0 ∧ ¬ 5 < t)
abbrev zWd (t : Int32) : Prop := t = 0 ∨ t = 3 ∨ t = 6
abbrev zRi (dn : Nat → Int32) (p t : Int32) : Prop := zPl p ∧ zTy t ∧ dn (p * 6 + t).toNatClampNeg = 0
abbrev zLk (dn : Nat → Int32) (kind place late st pl ty : Int32) : Prop := (kind = 2 ∧ ¬ zRi dn place ty) ∨ (kind = 0 ∧ st = 2 ∧ late = 0 ∧ ¬ zRi dn pl ty)
def zFi (n : Int32) (f : Nat → Option Nat) (k : Int32) : Option Nat := if k < 1 then none else if n < k then none else if 80 < k then none else f (k - 1).toNatClampNeg
theorem zsw7 {x : Int32} (h0 : ¬ x = 0) (h1 : ¬ x = 1) (h2 : ¬ x = 2) (h3 : ¬ x = 3) (h4 : ¬ x = 4) (h5 : ¬ x = 5) (h6 : ¬ x = 6) : x.toInt < 0 ∨ 6 < x.toInt := by
  have a0 := lv_neT (a := 0) h0 rfl
  have a1 := lv_neT (a := 1) h1 rfl
  have a2 := lv_neT (a := 2) h2 rfl
  have a3 := lv_neT (a := 3) h3 rfl
  have a4 := lv_neT (a := 4) h4 rfl
  have a5 := lv_neT (a := 5) h5 rfl
  have a6 := lv_neT (a := 6) h6 rfl
  omega
theorem zIn {x N : Int32} {n : Nat} (hN : N = nI n) (hn : n < 2 ^ 31) (h0 : ¬ x < 0) (h1 : ¬ N ≤ x) : ∃ j : Nat, j < n ∧ x = nI j := by
  subst hN
  rcases pk_ix x hn with h | h | h
  · exact absurd h h0
  · exact absurd h h1
  · exact h
theorem zPl_in {p : Int32} (h : zPl p) : ∃ j : Nat, j < 10 ∧ p = nI j := zIn (n := 10) rfl (by decide) h.1 h.2
theorem zTy_in {t : Int32} (h : zTy t) : ∃ j : Nat, j < 6 ∧ t = nI j := zIn (n := 6) rfl (by decide) h.1 h.2
theorem zRi_in {p t : Int32} (hp : zPl p) (ht : zTy t) : vp_in (p * 6 + t) 60 := by
  obtain ⟨i, hi, rfl⟩ := zPl_in hp
  obtain ⟨j, hj, rfl⟩ := zTy_in ht
  have h6 : (6 : Int32) = nI 6 := rfl
  rw [h6, pk_mul, nI_add]
  exact vp_in_nI (by omega) (by decide)
theorem zFi_in {k : Int32} (h1 : ¬ k < 1) (h2 : ¬ 80 < k) : vp_in (k - 1) 80 := by
  have a : ¬ k.toInt < 1 := fun q => h1 (Int32.lt_iff_toInt_lt.mpr q)
  have b : ¬ (80 : Int) < k.toInt := fun q => h2 (Int32.lt_iff_toInt_lt.mpr q)
  rcases pk_ix k (n := 81) (by decide) with h | h | ⟨j, hj, rfl⟩
  · have := Int32.lt_iff_toInt_lt.mp h
    have e0 : (0 : Int32).toInt = 0 := rfl
    omega
  · have := Int32.le_iff_toInt_le.mp h
    have e0 : (nI 81).toInt = 81 := rfl
    omega
  · obtain ⟨i, rfl⟩ : ∃ i, j = i + 1 := by
      cases j with
      | zero => exact absurd (show (nI 0 : Int32) < 1 by decide) h1
      | succ i => exact ⟨i, rfl⟩
    rw [nI_pred]
    exact vp_in_nI (by omega) (by decide)
abbrev oI (cps : Nat) (n : Int32) (den fee : Nat) (gd : Int64) (ec : Int32) : va_E := .inr (2, [.ref cps, .int n, .ref den, .ref fee, .long gd, .int ec])
abbrev oC (ty : Int32) (bc : Int64) (dg hm pl st fl ow wb : Int32) (fi : Option Nat) : va_E := .inr (0, [.int ty, .long bc, .int dg, .int hm, .int pl, .int st, .int fl, .int ow, .int wb, va_rf fi])
abbrev oE (d : Int64) (st lt : Int32) (nx : Option Nat) : va_E := .inr (1, [.long d, .int st, .int lt, va_rf nx])
abbrev zEV : Type := Int64 × Int32 × Int32
def zHd : List (Nat × zEV) → Option Nat
  | [] => none
  | x :: _ => some x.1
def zCh (M : zMap) : List (Nat × zEV) → Prop
  | [] => True
  | x :: L => M x.1 = some (oE x.2.1 x.2.2.1 x.2.2.2 (zHd L)) ∧ zCh M L
theorem zCh.frame {M M1 : zMap} : ∀ {L : List (Nat × zEV)}, (∀ x ∈ L, M1 x.1 = M x.1) → zCh M L → zCh M1 L
  | [], _, _ => trivial
  | x :: _, h, hc => ⟨(h x List.mem_cons_self).trans hc.1, zCh.frame (fun y hy => h y (List.mem_cons_of_mem _ hy)) hc.2⟩
theorem zCh.at {M : zMap} : ∀ {L : List (Nat × zEV)}, zCh M L → ∀ x ∈ L, ∃ nx, M x.1 = some (oE x.2.1 x.2.2.1 x.2.2.2 nx)
  | [], _, x, h => by cases h
  | y :: L, hc, x, h => by
    rcases List.mem_cons.mp h with rfl | h
    · exact ⟨_, hc.1⟩
    · exact hc.2.at x h
theorem zCh.mid {M : zMap} : ∀ {U R : List (Nat × zEV)}, zCh M (U ++ R) → zCh M R
  | [], _, h => h
  | _ :: U, _, h => zCh.mid (U := U) h.2
def zUp (d : Int64) : List (Nat × zEV) → List (Nat × zEV)
  | [] => []
  | x :: L => if x.2.1 ≤ d then x :: zUp d L else []
def zDn (d : Int64) : List (Nat × zEV) → List (Nat × zEV)
  | [] => []
  | x :: L => if x.2.1 ≤ d then zDn d L else x :: L
theorem zUpDn (d : Int64) : ∀ L : List (Nat × zEV), zUp d L ++ zDn d L = L
  | [] => rfl
  | x :: L => by
    unfold zUp zDn
    by_cases h : x.2.1 ≤ d
    · rw [if_pos h, if_pos h, List.cons_append, zUpDn d L]
    · rw [if_neg h, if_neg h]; rfl
theorem zUp_app {d : Int64} : ∀ {U R : List (Nat × zEV)}, (∀ x ∈ U, x.2.1 ≤ d) → zUp d (U ++ R) = U ++ zUp d R
  | [], _, _ => rfl
  | x :: U, R, h => by
    rw [List.cons_append]
    show (if x.2.1 ≤ d then x :: zUp d (U ++ R) else []) = _
    rw [if_pos (h x List.mem_cons_self), zUp_app (fun y hy => h y (List.mem_cons_of_mem _ hy))]
    rfl
theorem zUp_stop {d : Int64} {x : Nat × zEV} {L : List (Nat × zEV)} (h : ¬ x.2.1 ≤ d) : zUp d (x :: L) = [] := if_neg h
def zLa (L : List (Nat × zEV)) : Option Nat := L.getLast?.map Prod.fst
theorem zLa_nil : zLa [] = none := rfl
theorem zLa_snoc (U : List (Nat × zEV)) (x : Nat × zEV) : zLa (U ++ [x]) = some x.1 := by
  unfold zLa; rw [List.getLast?_concat]; rfl
theorem zLa_split {L : List (Nat × zEV)} {b : Nat} (h : zLa L = some b) : ∃ (U : List (Nat × zEV)) (v : zEV), L = U ++ [(b, v)] := by
  rcases List.eq_nil_or_concat L with rfl | ⟨U, x, rfl⟩
  · cases h
  · rw [List.concat_eq_append, zLa_snoc] at h
    cases h
    exact ⟨U, x.2, by rw [List.concat_eq_append]⟩
theorem zLa_none {L : List (Nat × zEV)} (h : zLa L = none) : L = [] := by
  rcases List.eq_nil_or_concat L with rfl | ⟨U, x, rfl⟩
  · rfl
  · rw [List.concat_eq_append, zLa_snoc] at h; cases h
def zIns (d : Int64) (x : Nat × zEV) (L : List (Nat × zEV)) : List (Nat × zEV) := zUp d L ++ x :: zDn d L
theorem zIns_mem {d : Int64} {x y : Nat × zEV} {L : List (Nat × zEV)} : y ∈ zIns d x L ↔ y = x ∨ y ∈ L := by
  have h := zUpDn d L
  unfold zIns
  constructor
  · intro hy
    rcases List.mem_append.mp hy with hy | hy
    · exact Or.inr (by rw [← h]; exact List.mem_append_left _ hy)
    · rcases List.mem_cons.mp hy with hy | hy
      · exact Or.inl hy
      · exact Or.inr (by rw [← h]; exact List.mem_append_right _ hy)
  · rintro (rfl | hy)
    · exact List.mem_append_right _ List.mem_cons_self
    · rw [← h] at hy
      rcases List.mem_append.mp hy with hy | hy
      · exact List.mem_append_left _ hy
      · exact List.mem_append_right _ (List.mem_cons_of_mem _ hy)
theorem zCh.ins0 {M M1 : zMap} {L : List (Nat × zEV)} {d : Int64} {q : Nat} {x : zEV} (hc : zCh M L) (h0 : zUp d L = []) (hq : M1 q = some (oE x.1 x.2.1 x.2.2 (zHd L))) (hk : ∀ y ∈ L, M1 y.1 = M y.1) : zCh M1 (zIns d (q, x) L) ∧ zHd (zIns d (q, x) L) = some q := by
  have h := zUpDn d L
  rw [h0, List.nil_append] at h
  unfold zIns
  rw [h0, List.nil_append, h]
  exact ⟨⟨hq, hc.frame hk⟩, rfl⟩
theorem zCh.ins1 {M M1 : zMap} {L U : List (Nat × zEV)} {d : Int64} {q b : Nat} {x v : zEV} (hc : zCh M L) (h0 : zUp d L = U ++ [(b, v)]) (hq : M1 q = some (oE x.1 x.2.1 x.2.2 (zHd (zDn d L)))) (hb : M1 b = some (oE v.1 v.2.1 v.2.2 (some q))) (hk : ∀ y ∈ L, y.1 ≠ b → M1 y.1 = M y.1) (hnd : (L.map Prod.fst).Nodup) : zCh M1 (zIns d (q, x) L) ∧ zHd (zIns d (q, x) L) = zHd L := by
  have h := zUpDn d L
  rw [h0] at h
  unfold zIns
  rw [h0]
  have hn2 : (∀ y ∈ U, y.1 ≠ b) ∧ (∀ y ∈ zDn d L, y.1 ≠ b) := by
    rw [← h] at hnd
    simp only [List.map_append, List.map_cons, List.map_nil, List.append_assoc, List.cons_append, List.nil_append] at hnd
    have h1 := (List.nodup_append.mp hnd)
    refine ⟨fun y hy e => ?_, fun y hy e => ?_⟩
    · exact h1.2.2 y.1 (List.mem_map_of_mem hy) b List.mem_cons_self e
    · have h2 := (List.nodup_cons.mp h1.2.1).1
      exact h2 (by rw [← e]; exact List.mem_map_of_mem hy)
  have hd : zCh M1 (zDn d L) := by
    have hc2 : zCh M (zDn d L) := by
      rw [← h] at hc
      exact hc.mid
    refine hc2.frame (fun y hy => hk y ?_ (hn2.2 y hy))
    rw [← h]
    exact List.mem_append_right _ hy
  refine ⟨?_, ?_⟩
  · have key : ∀ (U' : List (Nat × zEV)), (∀ y ∈ U', y ∈ L ∧ y.1 ≠ b) → zCh M (U' ++ (b, v) :: zDn d L) → zCh M1 (U' ++ (b, v) :: (q, x) :: zDn d L) := by
      intro U'
      induction U' with
      | nil => intro _ _; exact ⟨hb, hq, hd⟩
      | cons y U' ih =>
        intro h1 h2
        refine ⟨?_, ih (fun z hz => h1 z (List.mem_cons_of_mem _ hz)) h2.2⟩
        rw [hk y (h1 y List.mem_cons_self).1 (h1 y List.mem_cons_self).2]
        refine h2.1.trans ?_
        rw [show zHd (List.append U' ((b, v) :: zDn d L)) = zHd (List.append U' ((b, v) :: (q, x) :: zDn d L)) from by cases U' <;> rfl]
    have h3 := key U (fun y hy => ⟨by rw [← h]; exact List.mem_append_left _ (List.mem_append_left _ hy), hn2.1 y hy⟩) (by
      rw [← h] at hc
      rw [List.append_assoc] at hc
      exact hc)
    rw [List.append_assoc]
    exact h3
  · rw [List.append_assoc]
    have h4 : zHd L = zHd (U ++ [(b, v)] ++ zDn d L) := by rw [h]
    rw [h4, List.append_assoc]
    cases U <;> rfl
theorem znf {M : zMap} {a q : Nat} {x : va_E} (ha : M a = some x) (hq : M q = none) : a ≠ q := fun e => by rw [e, hq] at ha; cases ha
def zSt (d : Int64) (L : List (Nat × zEV)) : Int32 := match (zUp d L).getLast? with
  | none => 3
  | some x => x.2.2.1
def zCo (fe : Nat → Int32) (kind place ty : Int32) (bc : Int64) (dg hm pl st fl ow : Int32) (fi : Option Nat) : va_E :=
  oC ty bc dg (if kind = 0 ∧ ¬ fl = 0 then pl else hm) (if kind = 2 then place else pl) kind fl (if kind = 6 ∧ st = 1 ∧ zTy ty then ow + fe ty.toNatClampNeg else ow) (-1) fi
theorem zTy_vp {t : Int32} (h : zTy t) : vp_in t 6 := by
  obtain ⟨j, hj, rfl⟩ := zTy_in h
  exact vp_in_nI hj (by decide)
