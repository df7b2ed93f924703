theorem vUp_gt {d : Int64} {x : zEV} (hx : ¬ x.1 ≤ d) : ∀ l : List zEV, vUp d (l ++ [x]) = vUp d l
  | [] => if_neg hx
  | y :: l => by
    show (if y.1 ≤ d then y :: vUp d (l ++ [x]) else []) = (if y.1 ≤ d then y :: vUp d l else [])
    rw [vUp_gt hx l]
theorem vDn_gt {d : Int64} {x : zEV} (hx : ¬ x.1 ≤ d) : ∀ l : List zEV, vDn d (l ++ [x]) = vDn d l ++ [x]
  | [] => if_neg hx
  | y :: l => by
    show (if y.1 ≤ d then vDn d (l ++ [x]) else y :: (l ++ [x])) = (if y.1 ≤ d then vDn d l else y :: l) ++ [x]
    rw [vDn_gt hx l]
    by_cases h : y.1 ≤ d
    · rw [if_pos h, if_pos h]
    · rw [if_neg h, if_neg h]; rfl
theorem vUp_all {d : Int64} : ∀ {l : List zEV}, (∀ x ∈ l, x.1 ≤ d) → vUp d l = l
  | [], _ => rfl
  | y :: l, h => by
    show (if y.1 ≤ d then y :: vUp d l else []) = y :: l
    rw [if_pos (h y List.mem_cons_self), vUp_all (fun x hx => h x (List.mem_cons_of_mem _ hx))]
theorem vDn_all {d : Int64} : ∀ {l : List zEV}, (∀ x ∈ l, x.1 ≤ d) → vDn d l = []
  | [], _ => rfl
  | y :: l, h => by
    show (if y.1 ≤ d then vDn d l else y :: l) = []
    rw [if_pos (h y List.mem_cons_self), vDn_all (fun x hx => h x (List.mem_cons_of_mem _ hx))]
theorem zel_mem {aC aS aL : Nat → Int32} {aD : Nat → Int64} {cp : Int32} : ∀ {t : Nat} {x : zEV}, x ∈ zel aC aS aL aD cp t → ∃ k, k < t ∧ x = (aD k, aS k, aL k)
  | 0, _, h => by cases h
  | t + 1, x, h => by
    rw [zel] at h
    rcases List.mem_append.mp h with h | h
    · obtain ⟨k, hk, e⟩ := zel_mem h
      exact ⟨k, Nat.lt_succ_of_lt hk, e⟩
    · by_cases e : aC t = cp
      · rw [if_pos e] at h
        exact ⟨t, Nat.lt_succ_self t, List.mem_singleton.mp h⟩
      · rw [if_neg e] at h; cases h
theorem zel_congr {aC aS aL bC bS bL : Nat → Int32} {aD bD : Nat → Int64} {cp : Int32} : ∀ {t : Nat}, (∀ k, k < t → aC k = bC k ∧ aS k = bS k ∧ aL k = bL k ∧ aD k = bD k) → zel aC aS aL aD cp t = zel bC bS bL bD cp t
  | 0, _ => rfl
  | t + 1, h => by
    obtain ⟨e1, e2, e3, e4⟩ := h t (Nat.lt_succ_self t)
    rw [zel, zel, zel_congr (fun k hk => h k (Nat.lt_succ_of_lt hk)), e1, e2, e3, e4]
abbrev zSo (aD : Nat → Int64) (n : Nat) : Prop := ∀ i k, i ≤ k → k < n → aD i ≤ aD k
theorem zSo.pre {aD : Nat → Int64} {n : Nat} (h : zSo aD (n + 1)) : zSo aD n := fun i k h1 h2 => h i k h1 (Nat.lt_succ_of_lt h2)
theorem zSo.all {aC aS aL : Nat → Int32} {aD : Nat → Int64} {cp : Int32} {n : Nat} {d : Int64} (h : zSo aD (n + 1)) (hd : aD n ≤ d) : ∀ x ∈ zel aC aS aL aD cp n, x.1 ≤ d := fun x hx => by
  obtain ⟨k, hk, rfl⟩ := zel_mem hx
  exact Int64.le_trans (h k n (Nat.le_of_lt hk) (Nat.lt_succ_self n)) hd
theorem zst_last {aC aS aL : Nat → Int32} {aD : Nat → Int64} {cp : Int32} {d : Int64} : ∀ {n : Nat}, zSo aD n → (vUp d (zel aC aS aL aD cp n)).getLast? = (match zlm aC aD cp d n with
    | 0 => none
    | z + 1 => some (aD z, aS z, aL z))
  | 0, _ => rfl
  | n + 1, h => by
    rw [zel, zlm]
    by_cases e : aC n = cp
    · by_cases g : aD n ≤ d
      · rw [if_pos e, if_pos ⟨e, g⟩, vUp_all, List.getLast?_concat]
        intro x hx
        rcases List.mem_append.mp hx with hx | hx
        · exact h.all g x hx
        · rw [List.mem_singleton.mp hx]; exact g
      · rw [if_pos e, if_neg (fun q => g q.2), vUp_gt g]
        exact zst_last h.pre
    · rw [if_neg e, if_neg (fun q => e q.1), List.append_nil]
      exact zst_last h.pre
theorem zst_eq {aC aS aL : Nat → Int32} {aD : Nat → Int64} {cp : Int32} {d : Int64} {n : Nat} (h : zSo aD n) : vSt d (zel aC aS aL aD cp n) = zms aC aS aD cp d n := by
  unfold vSt zms
  rw [zst_last h]
  cases zlm aC aD cp d n <;> rfl
theorem zps_lo {aD : Nat → Int64} {d : Int64} : ∀ {n : Nat}, zSo aD n → ∀ k, k < zps aD d n → aD k ≤ d
  | 0, _, k, hk => absurd hk (Nat.not_lt_zero k)
  | n + 1, h, k, hk => by
    rw [zps] at hk
    by_cases g : d < aD n
    · rw [if_pos g] at hk
      exact zps_lo h.pre k hk
    · rw [if_neg g] at hk
      exact Int64.le_trans (h k n (Nat.le_of_lt_succ hk) (Nat.lt_succ_self n)) (Int64.not_lt.mp g)
theorem zps_hi {aD : Nat → Int64} {d : Int64} : ∀ {n : Nat}, ∀ k, zps aD d n ≤ k → k < n → d < aD k
  | 0, k, _, hk => absurd hk (Nat.not_lt_zero k)
  | n + 1, k, hp, hk => by
    rw [zps] at hp
    by_cases g : d < aD n
    · rw [if_pos g] at hp
      rcases Nat.lt_succ_iff_lt_or_eq.mp hk with h | h
      · exact zps_hi k hp h
      · rw [h]; exact g
    · rw [if_neg g] at hp
      omega
theorem zpi_lt {α : Type} {f : Nat → α} {p n k : Nat} {x : α} (h : k < p) : zpi f p n x k = f k := by
  unfold zpi zsh
  rw [if_neg (by omega), if_neg (by omega)]
theorem zpi_at {α : Type} {f : Nat → α} {p n : Nat} {x : α} : zpi f p n x p = x := if_pos rfl
theorem zpi_gt {α : Type} {f : Nat → α} {p n k : Nat} {x : α} (h : p < k) (hn : k ≤ n) : zpi f p n x k = f (k - 1) := by
  unfold zpi zsh
  rw [if_neg (by omega), if_pos ⟨h, hn⟩]
theorem zpi_n {α : Type} {f : Nat → α} {p n k : Nat} {x : α} (hk : k ≤ n) : zpi f p (n + 1) x k = zpi f p n x k := by
  unfold zpi zsh
  by_cases e : k = p
  · rw [if_pos e, if_pos e]
  · rw [if_neg e, if_neg e]
    by_cases g : p < k
    · rw [if_pos ⟨g, by omega⟩, if_pos ⟨g, hk⟩]
    · rw [if_neg (fun q => g q.1), if_neg (fun q => g q.1)]
theorem zSo.ins {aD : Nat → Int64} {d : Int64} {n : Nat} (h : zSo aD n) : zSo (zpi aD (zps aD d n) n d) (n + 1) := by
  intro i k hik hk
  have hp := zps_le aD d n
  rcases Nat.lt_trichotomy k (zps aD d n) with h1 | h1 | h1
  · rw [zpi_lt h1, zpi_lt (by omega)]
    exact h i k hik (by omega)
  · rw [h1, zpi_at]
    rcases Nat.lt_or_ge i (zps aD d n) with h2 | h2
    · rw [zpi_lt h2]; exact zps_lo h i h2
    · rw [show i = zps aD d n by omega, zpi_at]; exact Int64.le_refl _
  · rw [zpi_gt h1 (by omega)]
    rcases Nat.lt_trichotomy i (zps aD d n) with h2 | h2 | h2
    · rw [zpi_lt h2]
      exact h i (k - 1) (by omega) (by omega)
    · rw [h2, zpi_at]
      exact Int64.le_of_lt (zps_hi (n := n) (k - 1) (by omega) (by omega))
    · rw [zpi_gt h2 (by omega)]
      exact h (i - 1) (k - 1) (by omega) (by omega)
theorem vIns_gt {d : Int64} {x y : zEV} (hy : ¬ y.1 ≤ d) (l : List zEV) : vIns d x (l ++ [y]) = vIns d x l ++ [y] := by
  unfold vIns
  rw [vUp_gt hy, vDn_gt hy, List.append_assoc]
  rfl
theorem vIns_all {d : Int64} {x : zEV} {l : List zEV} (h : ∀ y ∈ l, y.1 ≤ d) : vIns d x l = l ++ [x] := by
  unfold vIns
  rw [vUp_all h, vDn_all h]
theorem zel_ins {aC aS aL : Nat → Int32} {aD : Nat → Int64} {cp cn sn ln : Int32} {d : Int64} : ∀ {n : Nat}, zSo aD n →
    zel (zpi aC (zps aD d n) n cn) (zpi aS (zps aD d n) n sn) (zpi aL (zps aD d n) n ln) (zpi aD (zps aD d n) n d) cp (n + 1) = if cn = cp then vIns d (d, sn, ln) (zel aC aS aL aD cp n) else zel aC aS aL aD cp n
  | 0, _ => by
    show [] ++ (if cn = cp then [(d, sn, ln)] else []) = if cn = cp then vIns d (d, sn, ln) [] else []
    by_cases e : cn = cp
    · rw [if_pos e, if_pos e]; rfl
    · rw [if_neg e, if_neg e]; rfl
  | n + 1, h => by
    rw [zps]
    by_cases g : d < aD n
    · rw [if_pos g]
      have hp := zps_le aD d n
      rw [zel, zel_congr (bC := zpi aC (zps aD d n) n cn) (bS := zpi aS (zps aD d n) n sn) (bL := zpi aL (zps aD d n) n ln) (bD := zpi aD (zps aD d n) n d) (fun k hk => ⟨zpi_n (by omega), zpi_n (by omega), zpi_n (by omega), zpi_n (by omega)⟩), zel_ins h.pre]
      rw [zpi_gt (by omega) (Nat.le_refl _), zpi_gt (by omega) (Nat.le_refl _), zpi_gt (by omega) (Nat.le_refl _), zpi_gt (by omega) (Nat.le_refl _), Nat.add_sub_cancel]
      rw [show zel aC aS aL aD cp (n + 1) = zel aC aS aL aD cp n ++ (if aC n = cp then [(aD n, aS n, aL n)] else []) from rfl]
      have hy : ¬ ((aD n, aS n, aL n) : zEV).1 ≤ d := Int64.not_le.mpr g
      by_cases e : cn = cp
      · rw [if_pos e, if_pos e]
        by_cases e2 : aC n = cp
        · rw [if_pos e2, vIns_gt hy]
        · rw [if_neg e2, List.append_nil, List.append_nil]
      · rw [if_neg e, if_neg e]
    · rw [if_neg g]
      have hd : aD n ≤ d := Int64.not_lt.mp g
      rw [zel, zel_congr (bC := aC) (bS := aS) (bL := aL) (bD := aD) (fun k hk => ⟨zpi_lt hk, zpi_lt hk, zpi_lt hk, zpi_lt hk⟩), zpi_at, zpi_at, zpi_at, zpi_at]
      by_cases e : cn = cp
      · rw [if_pos e, if_pos e, vIns_all]
        intro y hy
        rw [zel] at hy
        rcases List.mem_append.mp hy with hy | hy
        · exact h.all hd y hy
        · by_cases e2 : aC n = cp
          · rw [if_pos e2] at hy; rw [List.mem_singleton.mp hy]; exact hd
          · rw [if_neg e2] at hy; cases hy
      · rw [if_neg e, if_neg e, List.append_nil]
abbrev zr7 (x : Int32) : Prop := ∃ b : Nat, b < 8 ∧ x = nI b
def zSm (N : Nat) (ch : Nat → List (Nat × zEV)) (ac : Nat) (F : Nat → Nat → Int32) (L : Nat → Nat → Int64) (t : Nat) : Prop :=
  ac ≤ t ∧ (∀ j, j < N → (ch j).map Prod.snd = zel (F 11) (F 12) (F 13) (L 14) (nI (j + 1)) ac) ∧ zSo (L 14) ac ∧ (∀ j, j < N → zTy (F 0 (j + 1)) ∧ zPl (F 4 (j + 1)) ∧ zr7 (F 5 (j + 1))) ∧ (∀ a, a < ac → zr7 (F 12 a) ∧ ∃ j, j < N ∧ F 11 a = nI (j + 1)) ∧ (∀ k, zbool (F 13 k)) ∧ (∀ k, zbool (F 6 k)) ∧ ∀ i, N < i → F 6 i = 0 ∧ F 8 i = 0
def zSim (G : zG) (M1 M2 : zMap) (h0 m0 t : Nat) : Prop := ∃ (cps den fee N : Nat) (ca : Nat → Nat) (ch : Nat → List (Nat × zEV)) (ar : Nat → Nat) (th : Int32) (ac : Nat) (gr : Int64) (F : Nat → Nat → Int32) (L : Nat → Nat → Int64),
  zI G M1 h0 cps den fee N ca (cvm F L) ch (F 9) (F 10) gr ac ∧ zJ G M2 m0 ar th (nI N) (nI ac) gr F L ∧ zSm N ch ac F L t
theorem zI.cg {G : zG} {M : zMap} {h0 cps den fee N : Nat} {ca : Nat → Nat} {cv cv' : Nat → zCV} {ch : Nat → List (Nat × zEV)} {dn fe : Nat → Int32} {gd : Int64} {ec : Nat} (h : zI G M h0 cps den fee N ca cv ch dn fe gd ec) (e : ∀ j, j < N → cv j = cv' j) : zI G M h0 cps den fee N ca cv' ch dn fe gd ec := by
  obtain ⟨a1, a2, a3, a4, a5, a6, a7, a8⟩ := h
  exact ⟨a1, a2, a3, a4, a5, a6, fun j hj => by rw [← e j hj]; exact a7 j hj, a8⟩
theorem zsel_cg {N : Nat} {k d : Int32} {f g : Nat → Int32} (hN : N ≤ 80) (h : ∀ j, j < N → f j = g j) : zsel N k d f = zsel N k d g := by
  cases hz : zIx N k with
  | none => rw [zsel_n hz, zsel_n hz]
  | some j => rw [zsel_s hz, zsel_s hz, h j (zIx_some hN hz).1]
section ZSI
variable {G : zG} {M1 M2 M1' M2' : zMap} {h0 m0 cps den fee N : Nat} {ca : Nat → Nat} {ch : Nat → List (Nat × zEV)} {ar : Nat → Nat} {ac t : Nat} {gr : Int64} {F : Nat → Nat → Int32} {L : Nat → Nat → Int64}
theorem zSm.up (h : zSm N ch ac F L t) : zSm N ch ac F L (t + 1) := ⟨Nat.le_succ_of_le h.1, h.2⟩
theorem sm_same (hI : zI G M1 h0 cps den fee N ca (cvm F L) ch (F 9) (F 10) gr ac) (hJ : zJ G M2 m0 ar 0 (nI N) (nI ac) gr F L) (h : zSm N ch ac F L t) : zSim G M1 M2 h0 m0 (t + 1) := ⟨cps, den, fee, N, ca, ch, ar, 0, ac, gr, F, L, hI, hJ, h.up⟩
theorem sm_right {f : Nat → Int32} (hI : zI G M1 h0 cps den fee N ca (cvm F L) ch f (F 10) gr ac) (hJ : zJ G M2 m0 ar 0 (nI N) (nI ac) gr (zuf F 9 f) L) (h : zSm N ch ac F L t) : zSim G M1 M2 h0 m0 (t + 1) := ⟨cps, den, fee, N, ca, ch, ar, 0, ac, gr, zuf F 9 f, L, hI, hJ, h.up⟩
theorem sm_fee {f : Nat → Int32} (hI : zI G M1 h0 cps den fee N ca (cvm F L) ch (F 9) f gr ac) (hJ : zJ G M2 m0 ar 0 (nI N) (nI ac) gr (zuf F 10 f) L) (h : zSm N ch ac F L t) : zSim G M1 M2 h0 m0 (t + 1) := ⟨cps, den, fee, N, ca, ch, ar, 0, ac, gr, zuf F 10 f, L, hI, hJ, h.up⟩
theorem sm_floats {k on : Int32} (hb : zbool on) (hI : zI G M1 h0 cps den fee N ca (zFl N k on (cvm F L)) ch (F 9) (F 10) gr ac) (hJ : zJ G M2 m0 ar 0 (nI N) (nI ac) gr (zFlm N k on F) L) (h : zSm N ch ac F L t) : zSim G M1 M2 h0 m0 (t + 1) := by
  unfold zFl at hI
  unfold zFlm at hJ
  cases hz : zIx N k with
  | none => rw [hz] at hI hJ; exact sm_same hI hJ h
  | some j =>
    rw [hz] at hI hJ
    dsimp only at hI hJ
    have hN := hI.2.2.2.2.2.1
    obtain ⟨hj, -⟩ := zIx_some hN hz
    refine ⟨cps, den, fee, N, ca, ch, ar, 0, ac, gr, zuf F 6 (upd (F 6) (j + 1) on), L, hI.cg (fun i hi => ?_), hJ, ?_⟩
    · by_cases e : i = j
      · subst e
        rw [zuf_s]
        show _ = (F 0 (i + 1), L 1 (i + 1), F 2 (i + 1), F 3 (i + 1), F 4 (i + 1), F 5 (i + 1), upd (F 6) (i + 1) on (i + 1), F 8 (i + 1), F 7 (i + 1))
        rw [pk_us]
        rfl
      · rw [zuf_n e]
        show _ = (F 0 (i + 1), L 1 (i + 1), F 2 (i + 1), F 3 (i + 1), F 4 (i + 1), F 5 (i + 1), upd (F 6) (j + 1) on (i + 1), F 8 (i + 1), F 7 (i + 1))
        rw [pk_un (by omega)]
        rfl
    · obtain ⟨a1, a2, a3, a4, a5, a6, a7, a8⟩ := h
      refine ⟨Nat.le_succ_of_le a1, a2, a3, a4, a5, a6, fun i => ?_, fun i hi => ?_⟩
      · show zbool (upd (F 6) (j + 1) on i)
        unfold upd
        by_cases e : i = j + 1
        · rw [if_pos e]; exact hb
        · rw [if_neg e]; exact a7 i
      · show upd (F 6) (j + 1) on i = 0 ∧ F 8 i = 0
        rw [pk_un (by omega)]
        exact a8 i hi
theorem sm_copy {q : Nat} {ty : Int32} {bc : Int64} {dg hm : Int32} (ht : zTy ty) (hp : zPl hm) (hI : zI G M1 h0 cps den fee (N + 1) (zuf ca N q) (zuf (cvm F L) N (ty, bc, dg, hm, hm, 3, 0, 0, -1)) (zuf ch N []) (F 9) (F 10) gr ac) (hJ : zJ G M2 m0 ar 0 (nI (N + 1)) (nI ac) gr (zNF F N ty dg hm) (zuf L 1 (vp_updL (L 1) (N + 1) bc))) (h : zSm N ch ac F L t) : zSim G M1 M2 h0 m0 (t + 1) := by
  obtain ⟨a1, a2, a3, a4, a5, a6, a7, a8⟩ := h
  have hN1 := hI.2.2.2.2.2.1
  have hno : ∀ a, a < ac → F 11 a ≠ nI (N + 1) := fun a ha e => by
    obtain ⟨-, j, hj, e2⟩ := a5 a ha
    rw [e2, nI_eq (by omega) (by omega)] at e
    omega
  have hold : ∀ {f : Nat → Int32} {x : Int32} {i : Nat}, i < N → upd f (N + 1) x (i + 1) = f (i + 1) := fun {f x i} hi => pk_un (by omega)
  have holdL : ∀ {f : Nat → Int64} {x : Int64} {i : Nat}, i < N → vp_updL f (N + 1) x (i + 1) = f (i + 1) := fun {f x i} hi => pk_uLn (by omega)
  refine ⟨cps, den, fee, N + 1, zuf ca N q, zuf ch N [], ar, 0, ac, gr, zNF F N ty dg hm, _, hI.cg (fun i hi => ?_), hJ, Nat.le_succ_of_le a1, fun i hi => ?_, a3, fun i hi => ?_, fun a ha => ⟨(a5 a ha).1, by obtain ⟨j, hj, e2⟩ := (a5 a ha).2; exact ⟨j, by omega, e2⟩⟩, a6, a7, fun i hi => a8 i (by omega)⟩
  · show _ = (upd (F 0) (N + 1) ty (i + 1), vp_updL (L 1) (N + 1) bc (i + 1), upd (F 2) (N + 1) dg (i + 1), upd (F 3) (N + 1) hm (i + 1), upd (F 4) (N + 1) hm (i + 1), upd (F 5) (N + 1) 3 (i + 1), F 6 (i + 1), F 8 (i + 1), upd (F 7) (N + 1) (-1) (i + 1))
    by_cases e : i = N
    · subst e
      rw [zuf_s, pk_us, pk_uLs, pk_us, pk_us, pk_us, pk_us, pk_us, (a8 (i + 1) (by omega)).1, (a8 (i + 1) (by omega)).2]
    · have hi2 : i < N := by omega
      rw [zuf_n e, hold hi2, holdL hi2, hold hi2, hold hi2, hold hi2, hold hi2, hold hi2]
      rfl
  · show (zuf ch N [] i).map Prod.snd = zel (F 11) (F 12) (F 13) (L 14) (nI (i + 1)) ac
    by_cases e : i = N
    · subst e
      rw [zuf_s]
      have key : ∀ n, n ≤ ac → zel (F 11) (F 12) (F 13) (L 14) (nI (i + 1)) n = [] := by
        intro n
        induction n with
        | zero => intro _; rfl
        | succ n ih => intro hn; rw [zel, ih (by omega), if_neg (hno n (by omega))]; rfl
      rw [key ac (Nat.le_refl _)]
      rfl
    · rw [zuf_n e]
      exact a2 i (by omega)
  · show zTy (upd (F 0) (N + 1) ty (i + 1)) ∧ zPl (upd (F 4) (N + 1) hm (i + 1)) ∧ zr7 (upd (F 5) (N + 1) 3 (i + 1))
    by_cases e : i = N
    · subst e
      rw [pk_us, pk_us, pk_us]
      exact ⟨ht, hp, 3, by decide, rfl⟩
    · have hi2 : i < N := by omega
      rw [hold hi2, hold hi2, hold hi2]
      exact a4 i hi2
theorem sm_ent {j q p : Nat} {cv' : Nat → zCV} {d : Int64} {sn ln : Int32} {gr' : Int64} {F' : Nat → Nat → Int32} {L' : Nat → Nat → Int64} (hj : j < N) (hp : p = zps (L 14) d ac) (hI : zI G M1 h0 cps den fee N ca cv' (zuf ch j (zIns d (q, d, sn, ln) (ch j))) (F' 9) (F' 10) gr' (ac + 1)) (hJ : zJ G M2 m0 ar 0 (nI N) (nI (ac + 1)) gr' F' L') (h : zSm N ch ac F L t)
    (e11 : F' 11 = zpi (F 11) p ac (nI (j + 1))) (e12 : F' 12 = zpi (F 12) p ac sn) (e13 : F' 13 = zpi (F 13) p ac ln) (e14 : L' 14 = zpi (L 14) p ac d) (hcv : ∀ i, i < N → cv' i = cvm F' L' i) (hr : ∀ i, i < N → zTy (F' 0 (i + 1)) ∧ zPl (F' 4 (i + 1)) ∧ zr7 (F' 5 (i + 1))) (hsn : zr7 sn) (hln : zbool ln) (h6 : F' 6 = F 6) (h8 : ∀ i, N < i → F' 8 i = F 8 i) : zSim G M1 M2 h0 m0 (t + 1) := by
  obtain ⟨a1, a2, a3, a4, a5, a6, a7, a8⟩ := h
  have hN := hI.2.2.2.2.2.1
  subst hp
  have hpl := zps_le (L 14) d ac
  have pick : ∀ {α : Type} {P : α → Prop} {f : Nat → α} {x : α}, (∀ a, a < ac → P (f a)) → P x → ∀ a, a < ac + 1 → P (zpi f (zps (L 14) d ac) ac x a) := by
    intro α P f x hf hx a ha
    rcases Nat.lt_trichotomy a (zps (L 14) d ac) with g | g | g
    · rw [zpi_lt g]; exact hf a (by omega)
    · rw [g, zpi_at]; exact hx
    · rw [zpi_gt g (by omega)]; exact hf (a - 1) (by omega)
  refine ⟨cps, den, fee, N, ca, _, ar, 0, ac + 1, gr', F', L', hI.cg hcv, hJ, Nat.succ_le_succ a1, fun i hi => ?_, ?_, hr, fun a ha => ⟨?_, ?_⟩, fun k => ?_, ?_, fun i hi => ?_⟩
  · rw [e11, e12, e13, e14, zel_ins a3]
    by_cases e : i = j
    · subst e
      rw [zuf_s, if_pos rfl, zIns_map, a2 i hi]
    · rw [zuf_n e, if_neg (fun z => by rw [nI_eq (by omega) (by omega)] at z; omega)]
      exact a2 i hi
  · rw [e14]; exact a3.ins
  · rw [e12]; exact pick (fun a ha => (a5 a ha).1) hsn a ha
  · rw [e11]; exact pick (P := fun x => ∃ j, j < N ∧ x = nI (j + 1)) (fun a ha => (a5 a ha).2) ⟨j, hj, rfl⟩ a ha
  · rw [e13]
    unfold zpi zsh
    by_cases g : k = zps (L 14) d ac
    · rw [if_pos g]; exact hln
    · rw [if_neg g]
      by_cases g2 : zps (L 14) d ac < k ∧ k ≤ ac
      · rw [if_pos g2]; exact a6 _
      · rw [if_neg g2]; exact a6 _
  · rw [h6]; exact a7
  · rw [h6, h8 i hi]; exact a8 i hi
theorem z512 {ac : Nat} (h : ac < 512) : nI ac < (512 : Int32) := nI_lt (a := ac) (b := 512) h (by decide)
theorem z99 (x : Int32) : x ≤ 99 ↔ ¬ 100 ≤ x := by
  rw [Int32.le_iff_toInt_le, Int32.le_iff_toInt_le]
  have e1 : (99 : Int32).toInt = 99 := rfl
  have e0 : (100 : Int32).toInt = 100 := rfl
  omega
theorem zgr1 (g : Int64) : (if g + 1 < g then g else g + 1) = (if g + 1 ≤ g then g else g + 1) := by
  have hne : g + 1 ≠ g := fun q => by
    have h2 : -g + (g + 1) = -g + g := by rw [q]
    rw [← Int64.add_assoc, Int64.add_left_neg, Int64.zero_add] at h2
    exact absurd h2 (by decide)
  by_cases h : g + 1 < g
  · rw [if_pos h, if_pos (Int64.le_of_lt h)]
  · rw [if_neg h, if_neg (fun q => h (Int64.lt_of_le_of_ne q hne))]
theorem sm_weed {k who : Int32} {r1 r2 : Option Value} (hN : N ≤ 80) (hac : ac < 512) (h : zSm N ch ac F L t) (h1 : zWQ G h0 cps den fee N ca (cvm F L) ch (F 9) (F 10) gr ac k who r1 M1) (h2 : zVQ G m0 ar N ac gr F L k who r2 M2) : ∃ x, r1 = some (.int x) ∧ r2 = some (.int x) ∧ zSim G M1 M2 h0 m0 (t + 1) := by
  unfold zWQ at h1
  unfold zVQ at h2
  cases hz : zIx N k with
  | none =>
    rw [hz] at h1 h2
    exact ⟨-1, h1.1, h2.1, sm_same h1.2 h2.2 h⟩
  | some j =>
    rw [hz] at h1 h2
    dsimp only at h1 h2
    obtain ⟨hj, -⟩ := zIx_some hN hz
    by_cases c1 : ¬ who < 0 ∧ who ≤ 99
    · rw [if_pos ⟨c1.1, (z99 who).mp c1.2, z512 hac⟩] at h1
      rw [if_pos c1] at h2
      by_cases c2 : zWd (F 5 (j + 1)) ∧ ¬ F 7 (j + 1) = who
      · rw [if_pos c2] at h2
        rw [if_pos (show zWd (cvm F L j).2.2.2.2.2.1 ∧ ¬ (cvm F L j).2.2.2.2.2.2.2.2 = who from c2)] at h1
        by_cases c3 : F 7 (j + 1) = -1
        · rw [if_pos c3] at h2
          rw [if_pos (show (cvm F L j).2.2.2.2.2.2.2.2 = -1 from c3)] at h1
          refine ⟨1, h1.1, h2.1, cps, den, fee, N, ca, ch, ar, 0, ac, gr, zuf F 7 (upd (F 7) (j + 1) who), L, h1.2.cg (fun i hi => ?_), h2.2, h.up⟩
          show _ = (F 0 (i + 1), L 1 (i + 1), F 2 (i + 1), F 3 (i + 1), F 4 (i + 1), F 5 (i + 1), F 6 (i + 1), F 8 (i + 1), upd (F 7) (j + 1) who (i + 1))
          by_cases e : i = j
          · subst e; rw [zuf_s, pk_us]; rfl
          · rw [zuf_n e, pk_un (by omega)]; rfl
        · rw [if_neg c3] at h2
          rw [if_neg (show ¬ (cvm F L j).2.2.2.2.2.2.2.2 = -1 from c3)] at h1
          obtain ⟨h1a, q, h1b⟩ := h1
          rw [zgr1] at h1b
          refine ⟨2, h1a, h2.1, sm_ent (p := zps (L 14) (gr + 1) ac) (F' := zuf (zEN F (zps (L 14) (gr + 1) ac) ac (nI (j + 1)) 7 0) 5 (upd (F 5) (j + 1) 7)) (L' := zuf L 14 (zpi (L 14) (zps (L 14) (gr + 1) ac) ac (gr + 1))) hj rfl h1b h2.2 h rfl rfl rfl rfl (fun i hi => ?_) (fun i hi => ?_) ⟨7, by decide, rfl⟩ (Or.inl rfl) rfl (fun i hi => rfl)⟩
          · show _ = (F 0 (i + 1), L 1 (i + 1), F 2 (i + 1), F 3 (i + 1), F 4 (i + 1), upd (F 5) (j + 1) 7 (i + 1), F 6 (i + 1), F 8 (i + 1), F 7 (i + 1))
            by_cases e : i = j
            · subst e; rw [zuf_s, pk_us]; rfl
            · rw [zuf_n e, pk_un (by omega)]; rfl
          · show zTy (F 0 (i + 1)) ∧ zPl (F 4 (i + 1)) ∧ zr7 (upd (F 5) (j + 1) 7 (i + 1))
            by_cases e : i = j
            · subst e; rw [pk_us]; exact ⟨(h.2.2.2.1 i hi).1, (h.2.2.2.1 i hi).2.1, 7, by decide, rfl⟩
            · rw [pk_un (by omega)]; exact h.2.2.2.1 i hi
      · rw [if_neg c2] at h2
        rw [if_neg (show ¬ (zWd (cvm F L j).2.2.2.2.2.1 ∧ ¬ (cvm F L j).2.2.2.2.2.2.2.2 = who) from c2)] at h1
        exact ⟨-2, h1.1, h2.1, sm_same h1.2 h2.2 h⟩
    · rw [if_neg (fun q => c1 ⟨q.1, (z99 who).mpr q.2.1⟩)] at h1
      rw [if_neg c1] at h2
      exact ⟨-1, h1.1, h2.1, sm_same h1.2 h2.2 h⟩
theorem zFo_Fm0 : ((List.range 7).all fun a => (List.range 8).all fun b => decide (zFo (nI a) (nI b)) == decide (zFm (nI a) (nI b))) = true := by decide +kernel
theorem zFo_Fm {k x : Int32} (h0 : ¬ k < 0) (h6 : ¬ 6 < k) (hx : zr7 x) : zFo k x ↔ zFm k x := by
  obtain ⟨b, hb, rfl⟩ := hx
  obtain ⟨a, ha, rfl⟩ := zIn (n := 7) rfl (by decide) h0 (fun q => h6 ((zcmp 6 7 6 rfl rfl k).mpr q))
  have h1 := List.all_eq_true.mp zFo_Fm0 a (List.mem_range.mpr ha)
  have h2 := List.all_eq_true.mp h1 b (List.mem_range.mpr hb)
  have h3 := eq_of_beq h2
  constructor
  · intro q; exact of_decide_eq_true (h3 ▸ decide_eq_true q)
  · intro q; exact of_decide_eq_true (h3.symm ▸ decide_eq_true q)
theorem zms_r7 {aC aS : Nat → Int32} {aD : Nat → Int64} {cp : Int32} {d : Int64} {n : Nat} (h : ∀ a, a < n → zr7 (aS a)) : zr7 (zms aC aS aD cp d n) := by
  cases hm : zlm aC aD cp d n with
  | zero => rw [zms_z hm]; exact ⟨3, by decide, rfl⟩
  | succ z =>
    rw [zms_s hm]
    have := zlm_le aC aD cp d n
    exact h z (by omega)
theorem sm_act {k kind place : Int32} {day : Int64} {r1 r2 : Option Value} (hN : N ≤ 80) (hac : ac < 512) (h : zSm N ch ac F L t) (h1 : zAQ G h0 cps den fee N ca (cvm F L) ch (F 9) (F 10) gr ac k kind place day r1 M1) (h2 : zBQ G m0 ar N ac gr F L k kind place day r2 M2) : ∃ x, r1 = some (.int x) ∧ r2 = some (.int x) ∧ zSim G M1 M2 h0 m0 (t + 1) := by
  unfold zAQ at h1
  unfold zBQ at h2
  cases hz : zIx N k with
  | none =>
    rw [hz] at h1 h2
    exact ⟨-1, h1.1, h2.1, sm_same h1.2 h2.2 h⟩
  | some j =>
    rw [hz] at h1 h2
    dsimp only at h1 h2
    obtain ⟨hj, -⟩ := zIx_some hN hz
    obtain ⟨a1, a2, a3, a4, a5, a6, a7, a8⟩ := id h
    have est : zSt day (ch j) = zms (F 11) (F 12) (L 14) (nI (j + 1)) day ac := by rw [zSt_map, a2 j hj, zst_eq a3]
    rw [est] at h1
    obtain ⟨fro, efro⟩ : ∃ z, z = zBe gr day (F 5 (j + 1)) (zms (F 11) (F 12) (L 14) (nI (j + 1)) day ac) := ⟨_, rfl⟩
    have hfr : zr7 fro := by
      rw [efro]
      unfold zBe
      by_cases hl : day < gr
      · rw [if_pos hl]; exact zms_r7 (fun a ha => (a5 a ha).1)
      · rw [if_neg hl]; exact (a4 j hj).2.2
    rw [show zBe gr day (cvm F L j).2.2.2.2.2.1 (zms (F 11) (F 12) (L 14) (nI (j + 1)) day ac) = fro from efro.symm] at h1
    rw [← efro] at h2
    by_cases c1 : zA1m kind place (F 4 (j + 1)) day
    · rw [if_pos c1] at h2
      rw [if_pos (show zA1 kind place (cvm F L j).2.2.2.2.1 day ac from ⟨c1.1, c1.2.1, c1.2.2.1, Int64.not_lt.mp c1.2.2.2.1, c1.2.2.2.2, z512 hac⟩)] at h1
      by_cases c2 : zFm kind fro
      · rw [if_pos c2] at h2
        rw [if_pos ((zFo_Fm c1.1 c1.2.1 hfr).mpr c2)] at h1
        have hty := (a4 j hj).1
        have hpl := (a4 j hj).2.1
        have key : zLk (F 9) kind place (zb (day < gr)) (cvm F L j).2.2.2.2.2.1 (cvm F L j).2.2.2.2.1 (cvm F L j).1 ↔ zLm (F 9) kind place day gr fro (F 4 (j + 1)) (F 0 (j + 1)) := by
          show (kind = 2 ∧ ¬ zRi (F 9) place (F 0 (j + 1))) ∨ (kind = 0 ∧ F 5 (j + 1) = 2 ∧ zb (day < gr) = 0 ∧ ¬ zRi (F 9) (F 4 (j + 1)) (F 0 (j + 1))) ↔ _
          constructor
          · rintro (⟨e1, e2⟩ | ⟨e1, e2, e3, e4⟩)
            · exact Or.inl ⟨e1, fun q => e2 ⟨(c1.2.2.2.2 e1).1, hty, by rw [zix6]; exact q⟩⟩
            · have hl := zb_0.mp e3
              exact Or.inr ⟨e1, hl, by rw [efro, zBe_n hl]; exact e2, fun q => e4 ⟨hpl, hty, by rw [zix6]; exact q⟩⟩
          · rintro (⟨e1, e2⟩ | ⟨e1, hl, e3, e4⟩)
            · exact Or.inl ⟨e1, fun q => e2 (by have := q.2.2; rw [zix6] at this; exact this)⟩
            · exact Or.inr ⟨e1, by rw [efro, zBe_n hl] at e3; exact e3, zb_0.mpr hl, fun q => e4 (by have := q.2.2; rw [zix6] at this; exact this)⟩
        by_cases c3 : zLm (F 9) kind place day gr fro (F 4 (j + 1)) (F 0 (j + 1))
        · rw [if_pos c3] at h2
          rw [if_pos (key.mpr c3)] at h1
          exact ⟨-3, h1.1, h2.1, sm_same h1.2 h2.2 h⟩
        · rw [if_neg c3] at h2
          rw [if_neg (fun q => c3 (key.mp q))] at h1
          obtain ⟨h1a, q, h1b⟩ := h1
          obtain ⟨h2a, h2b⟩ := h2
          have hk7 : zr7 kind := by
            obtain ⟨a, ha, e⟩ := zIn (n := 7) rfl (by decide) c1.1 (fun q => c1.2.1 ((zcmp 6 7 6 rfl rfl kind).mpr q))
            exact ⟨a, by omega, e⟩
          refine ⟨kind, h1a, h2a, ?_⟩
          by_cases hl : day < gr
          · rw [if_pos hl, if_pos hl] at h1b
            rw [if_pos (Int64.le_of_lt hl), if_pos hl] at h2b
            exact sm_ent (p := zps (L 14) day ac) (F' := zEN F (zps (L 14) day ac) ac (nI (j + 1)) kind (zb (day < gr))) (L' := zuf L 14 (zpi (L 14) (zps (L 14) day ac) ac day)) hj rfl h1b h2b h rfl rfl rfl rfl (fun i hi => rfl) a4 hk7 zb_bool rfl (fun i hi => rfl)
          · rw [if_neg hl, if_neg hl] at h1b
            have egr : (if day ≤ gr then gr else day) = day := by
              by_cases hle : day ≤ gr
              · rw [if_pos hle]; exact Int64.le_antisymm (Int64.not_lt.mp hl) hle
              · rw [if_neg hle]
            rw [egr, if_neg hl] at h2b
            have efr : fro = F 5 (j + 1) := by rw [efro, zBe_n hl]
            rw [efr] at h2b
            refine sm_ent (p := zps (L 14) day ac) (F' := zCF (zEN F (zps (L 14) day ac) ac (nI (j + 1)) kind (zb (day < gr))) j kind place (F 5 (j + 1))) (L' := zuf L 14 (zpi (L 14) (zps (L 14) day ac) ac day)) hj rfl h1b h2b h rfl rfl rfl rfl (fun i hi => ?_) (fun i hi => ?_) hk7 zb_bool rfl (fun i hi => ?_)
            · show _ = (F 0 (i + 1), L 1 (i + 1), F 2 (i + 1), upd (F 3) (j + 1) (if kind = 0 ∧ ¬ F 6 (j + 1) = 0 then F 4 (j + 1) else F 3 (j + 1)) (i + 1), upd (F 4) (j + 1) (if kind = 2 then place else F 4 (j + 1)) (i + 1), upd (F 5) (j + 1) kind (i + 1), F 6 (i + 1), upd (F 8) (j + 1) (F 8 (j + 1) + (if kind = 6 ∧ F 5 (j + 1) = 1 then F 10 (F 0 (j + 1)).toNatClampNeg else 0)) (i + 1), upd (F 7) (j + 1) (-1) (i + 1))
              by_cases e : i = j
              · subst e
                rw [zuf_s, pk_us, pk_us, pk_us, pk_us, pk_us]
                have eo : F 8 (i + 1) + (if kind = 6 ∧ F 5 (i + 1) = 1 then F 10 (F 0 (i + 1)).toNatClampNeg else 0) = (if kind = 6 ∧ F 5 (i + 1) = 1 ∧ zTy (F 0 (i + 1)) then F 8 (i + 1) + F 10 (F 0 (i + 1)).toNatClampNeg else F 8 (i + 1)) := by
                  by_cases g : kind = 6 ∧ F 5 (i + 1) = 1
                  · rw [if_pos g, if_pos ⟨g.1, g.2, hty⟩]
                  · rw [if_neg g, if_neg (fun q => g ⟨q.1, q.2.1⟩), Int32.add_zero]
                rw [eo]
                rfl
              · rw [zuf_n e, pk_un (by omega), pk_un (by omega), pk_un (by omega), pk_un (by omega), pk_un (by omega)]
                rfl
            · show zTy (F 0 (i + 1)) ∧ zPl (upd (F 4) (j + 1) (if kind = 2 then place else F 4 (j + 1)) (i + 1)) ∧ zr7 (upd (F 5) (j + 1) kind (i + 1))
              by_cases e : i = j
              · subst e
                rw [pk_us, pk_us]
                refine ⟨hty, ?_, hk7⟩
                by_cases g : kind = 2
                · rw [if_pos g]; exact (c1.2.2.2.2 g).1
                · rw [if_neg g]; exact hpl
              · rw [pk_un (by omega), pk_un (by omega)]; exact a4 i hi
            · show upd (F 8) (j + 1) _ i = F 8 i
              exact pk_un (by omega)
      · rw [if_neg c2] at h2
        rw [if_neg (fun q => c2 ((zFo_Fm c1.1 c1.2.1 hfr).mp q))] at h1
        exact ⟨-2, h1.1, h2.1, sm_same h1.2 h2.2 h⟩
    · rw [if_neg c1] at h2
      rw [if_neg (show ¬ zA1 kind place (cvm F L j).2.2.2.2.1 day ac from fun q => c1 ⟨q.1, q.2.1, q.2.2.1, Int64.not_lt.mpr q.2.2.2.1, q.2.2.2.2.1⟩)] at h1
      exact ⟨-1, h1.1, h2.1, sm_same h1.2 h2.2 h⟩
end ZSI
