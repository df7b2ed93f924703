def zlong : Nat → Bool
  | 1 => true
  | 14 => true
  | _ => false
def zlen : Nat → Nat
  | 9 => 60
  | 10 => 6
  | 11 => 5000
  | 12 => 5000
  | 13 => 5000
  | 14 => 5000
  | _ => 81
def zaty : Nat → Nat
  | 6 => 1
  | 9 => 1
  | 13 => 1
  | 1 => 3
  | 14 => 3
  | _ => 0
def zmc (G : zG) (F : Nat → Nat → Int32) (L : Nat → Nat → Int64) (i : Nat) : va_E := if zlong i = true then .inl (G.2.2 (zaty i), zlen i, .inr (.inl (L i))) else .inl (G.2.2 (zaty i), zlen i, .inl (F i))
theorem zmc_inl (G : zG) (F : Nat → Nat → Int32) (L : Nat → Nat → Int64) (i : Nat) : ∃ z, zmc G F L i = .inl z := by
  unfold zmc
  by_cases h : zlong i = true
  · rw [if_pos h]; exact ⟨_, rfl⟩
  · rw [if_neg h]; exact ⟨_, rfl⟩
abbrev oM (th co : Int32) (ar : Nat → Nat) (ac : Int32) (gr : Int64) : va_E := .inr (3, [.int th, .int co, .ref (ar 0), .ref (ar 1), .ref (ar 2), .ref (ar 3), .ref (ar 4), .ref (ar 5), .ref (ar 6), .ref (ar 7), .ref (ar 8), .ref (ar 9), .ref (ar 10), .int ac, .ref (ar 11), .ref (ar 12), .ref (ar 13), .ref (ar 14), .long gr])
def zJ (G : zG) (M : zMap) (m0 : Nat) (ar : Nat → Nat) (th co ac : Int32) (gr : Int64) (F : Nat → Nat → Int32) (L : Nat → Nat → Int64) : Prop :=
  M m0 = some (oM th co ar ac gr) ∧ (∀ i, i < 15 → M (ar i) = some (zmc G F L i)) ∧ ∀ i j, i < 15 → j < 15 → ar i = ar j → i = j
section ZJ
variable {G : zG} {M : zMap} {m0 : Nat} {ar : Nat → Nat} {th co ac : Int32} {gr : Int64} {F : Nat → Nat → Int32} {L : Nat → Nat → Int64}
theorem zJ.ne (h : zJ G M m0 ar th co ac gr F L) {i : Nat} (hi : i < 15) : ar i ≠ m0 := by
  obtain ⟨z, hz⟩ := zmc_inl G F L i
  have h1 := h.2.1 i hi
  rw [hz] at h1
  exact zne h1 h.1 (by simp)
theorem zJ.setO (h : zJ G M m0 ar th co ac gr F L) (th1 co1 ac1 : Int32) (gr1 : Int64) : zJ G (zu M m0 (oM th1 co1 ar ac1 gr1)) m0 ar th1 co1 ac1 gr1 F L :=
  ⟨zu_s _ _ _, fun i hi => (zu_n (h.ne hi)).trans (h.2.1 i hi), h.2.2⟩
theorem zJ.setI (h : zJ G M m0 ar th co ac gr F L) (i : Nat) (hi : i < 15) (hl : zlong i = false) (f : Nat → Int32) : zJ G (zu M (ar i) (.inl (G.2.2 (zaty i), zlen i, .inl f))) m0 ar th co ac gr (zuf F i f) L := by
  refine ⟨(zu_n (Ne.symm (h.ne hi))).trans h.1, fun k hk => ?_, h.2.2⟩
  by_cases e : k = i
  · subst e
    rw [zu_s]
    unfold zmc
    rw [if_neg (by rw [hl]; decide), zuf_s]
  · rw [zu_n (fun q => e (h.2.2 k i hk hi q)), h.2.1 k hk]
    unfold zmc
    rw [zuf_n e]
theorem zJ.setL (h : zJ G M m0 ar th co ac gr F L) (i : Nat) (hi : i < 15) (hl : zlong i = true) (f : Nat → Int64) : zJ G (zu M (ar i) (.inl (G.2.2 (zaty i), zlen i, .inr (.inl f)))) m0 ar th co ac gr F (zuf L i f) := by
  refine ⟨(zu_n (Ne.symm (h.ne hi))).trans h.1, fun k hk => ?_, h.2.2⟩
  by_cases e : k = i
  · subst e
    rw [zu_s]
    unfold zmc
    rw [if_pos hl, zuf_s]
  · rw [zu_n (fun q => e (h.2.2 k i hk hi q)), h.2.1 k hk]
    unfold zmc
    rw [zuf_n e]
theorem zJ.floor (h : zJ G M m0 ar th co ac gr F L) {M1 : zMap} (hk : ∀ b, M b ≠ none → M1 b = M b) : zJ G M1 m0 ar th co ac gr F L :=
  ⟨(hk m0 (by rw [h.1]; exact fun q => by cases q)).trans h.1, fun i hi => (hk _ (by rw [h.2.1 i hi]; exact fun q => by cases q)).trans (h.2.1 i hi), h.2.2⟩
end ZJ
theorem zlt1 (k : Int32) : k < 1 ↔ k ≤ 0 := by
  rw [Int32.lt_iff_toInt_lt, Int32.le_iff_toInt_le]
  have e1 : (1 : Int32).toInt = 1 := rfl
  have e0 : (0 : Int32).toInt = 0 := rfl
  omega
theorem zisC {co : Nat} {k : Int32} (h1 : ¬ k ≤ 0) (h2 : ¬ nI co < k) : (zIx co k).isSome = true := by
  unfold zIx
  rw [if_neg (fun q => h1 ((zlt1 k).mp q)), if_neg h2]
  rfl
theorem zisC1 {co : Nat} {k : Int32} (h1 : k ≤ 0) : ¬ (zIx co k).isSome = true := by
  unfold zIx
  rw [if_pos ((zlt1 k).mpr h1)]
  exact fun q => by cases q
theorem zisC2 {co : Nat} {k : Int32} (h2 : nI co < k) : ¬ (zIx co k).isSome = true := by
  unfold zIx
  by_cases h1 : k < 1
  · rw [if_pos h1]; exact fun q => by cases q
  · rw [if_neg h1, if_pos h2]; exact fun q => by cases q
theorem zisN {co : Nat} {k : Int32} (h : ¬ (zIx co k).isSome = true) : zIx co k = none := by
  cases hz : zIx co k with
  | none => rfl
  | some j => rw [hz] at h; exact absurd rfl h
theorem zisS {co : Nat} {k : Int32} (h : (zIx co k).isSome = true) : ∃ j, zIx co k = some j := by
  cases hz : zIx co k with
  | none => rw [hz] at h; cases h
  | some j => exact ⟨j, rfl⟩
theorem zvp81 {j co : Nat} (h : j < co) (hc : co ≤ 80) : vp_in (nI (j + 1)) 81 := vp_in_nI (by omega) (by decide)
def zten : Nat → Int64
  | 0 => 1
  | k + 1 => 10 * zten k
def zsv (k : Nat) (d : Int32) : Int32 := if (if k % 2 = 0 then 2 * d else d) ≤ 9 then (if k % 2 = 0 then 2 * d else d) else (if k % 2 = 0 then 2 * d else d) - 9
def zsS (number : Int64) : Nat → Int32
  | 0 => 0
  | k + 1 => zsS number k + zsv k (zcd (zcR number k))
theorem zcR_eq {a : Nat} (ha : a < 2 ^ 63) : ∀ k, zcR (lN a) k = lN (a / 10 ^ k)
  | 0 => by rw [zcR, Nat.pow_zero, Nat.div_one]
  | k + 1 => by
    have h10 : (10 : Int64) = lN 10 := rfl
    rw [zcR, zcR_eq ha k, h10, pk_lDiv (Nat.lt_of_le_of_lt (Nat.div_le_self _ _) ha) (by decide) (by decide), Nat.div_div_eq_div_mul, Nat.pow_succ]
theorem zcd_eq {a : Nat} (ha : a < 2 ^ 63) : zcd (lN a) = nI (a % 10) := by
  have h10 : (10 : Int64) = lN 10 := rfl
  unfold zcd
  rw [h10, pk_lRem ha (by decide) (by decide), lN_i]
theorem zsv_eq {k d : Nat} (hd : d < 10) : zsv k (nI d) = if k % 2 = 0 then zdb (nI d) else nI d := by
  unfold zsv zdb
  by_cases h : k % 2 = 0
  · rw [if_pos h, if_pos h]
  · have h9 : nI d ≤ (9 : Int32) := nI_le (a := d) (b := 9) (by omega) (by decide)
    rw [if_neg h, if_neg h, if_pos h9]
theorem zsS_eq {a : Nat} (ha : a < 2 ^ 63) : ∀ k, zsS (lN a) k = zcS (lN a) k
  | 0 => rfl
  | k + 1 => by
    have hk : a / 10 ^ k < 2 ^ 63 := Nat.lt_of_le_of_lt (Nat.div_le_self _ _) ha
    rw [zsS, zcS, zsS_eq ha k, zcR_eq ha k, zcd_eq hk, zsv_eq (Nat.mod_lt _ (by decide))]
theorem zcS_st {a : Nat} (ha : a < 2 ^ 63) {i : Nat} (h : a / 10 ^ i = 0) : ∀ n, zcS (lN a) (i + n) = zcS (lN a) i
  | 0 => rfl
  | n + 1 => by
    have h0 : a / 10 ^ (i + n) = 0 := by
      rw [Nat.pow_add, ← Nat.div_div_eq_div_mul, h, Nat.zero_div]
    rw [show i + (n + 1) = (i + n) + 1 from rfl, zcS, zcS_st ha h n, zcR_eq ha, h0, zcd_eq (by decide)]
    by_cases hp : (i + n) % 2 = 0
    · rw [if_pos hp]; exact Int32.add_zero _
    · rw [if_neg hp]; exact Int32.add_zero _
theorem zcS_any {a i j : Nat} (ha : a < 2 ^ 63) (hi : a / 10 ^ i = 0) (hj : a / 10 ^ j = 0) : zcS (lN a) i = zcS (lN a) j := by
  rcases Nat.le_total i j with h | h
  · obtain ⟨n, rfl⟩ := Nat.le.dest h
    exact (zcS_st ha hi n).symm
  · obtain ⟨n, rfl⟩ := Nat.le.dest h
    exact zcS_st ha hj n
theorem zten_eq : ∀ k, zten k = lN (10 ^ k)
  | 0 => rfl
  | k + 1 => by
    have h10 : (10 : Int64) = lN 10 := rfl
    rw [zten, zten_eq k, h10, lN_mul, Nat.pow_succ, Nat.mul_comm]
theorem zten_lt {K : Nat} (hK : K ≤ 13) : 10 ^ K < 2 ^ 63 := Nat.lt_of_le_of_lt (Nat.pow_le_pow_right (by decide) hK) (by decide)
theorem zdiv0 {a K : Nat} : a / 10 ^ K = 0 ↔ a < 10 ^ K := by
  rw [Nat.div_eq_zero_iff]
  have : 10 ^ K ≠ 0 := Nat.pos_iff_ne_zero.mp (Nat.pow_pos (by decide))
  omega
theorem zlN0 {a : Nat} (ha : a < 2 ^ 63) : lN a = 0 ↔ a = 0 := by
  have h0 : (0 : Int64) = lN 0 := rfl
  rw [h0, pk_lEQ ha (by decide)]
theorem zchk_sign {a K K0 : Nat} (ha : a < 2 ^ 63) (h1 : 1 ≤ K) (h2 : K ≤ 12) (hlt : lN a < zten K) (h0 : a / 10 ^ K0 = 0) : zrm (10 - zrm (zsS (lN a) K0) 10) 10 = zchk (lN a) (nI K) := by
  rw [zten_eq, pk_lLT ha (zten_lt (by omega))] at hlt
  have hz := zdiv0.mpr hlt
  have hn : ¬ lN a < 0 := fun q => by
    have h9 : (0 : Int64) = lN 0 := rfl
    rw [h9, pk_lLT ha (by decide)] at q
    omega
  rw [zchk_in hn h1 h2, zcR_eq ha, hz, if_pos (show lN 0 = 0 from rfl), zsS_eq ha, zcS_any ha h0 hz]
theorem zchk_big {a K : Nat} (ha : a < 2 ^ 63) (h1 : 1 ≤ K) (h2 : K ≤ 12) (hlt : ¬ lN a < zten K) : zchk (lN a) (nI K) = -1 := by
  rw [zten_eq, pk_lLT ha (zten_lt (by omega))] at hlt
  have hn : ¬ lN a < 0 := fun q => by
    have h9 : (0 : Int64) = lN 0 := rfl
    rw [h9, pk_lLT ha (by decide)] at q
    omega
  have hk : a / 10 ^ K < 2 ^ 63 := Nat.lt_of_le_of_lt (Nat.div_le_self _ _) ha
  rw [zchk_in hn h1 h2, zcR_eq ha, if_neg]
  rw [zlN0 hk, zdiv0]
  exact hlt
def zlm (aC : Nat → Int32) (aD : Nat → Int64) (cp : Int32) (day : Int64) : Nat → Nat
  | 0 => 0
  | t + 1 => if aC t = cp ∧ aD t ≤ day then t + 1 else zlm aC aD cp day t
theorem zlm_le (aC : Nat → Int32) (aD : Nat → Int64) (cp : Int32) (day : Int64) : ∀ t, zlm aC aD cp day t ≤ t
  | 0 => Nat.le_refl 0
  | t + 1 => by
    unfold zlm
    by_cases h : aC t = cp ∧ aD t ≤ day
    · rw [if_pos h]; exact Nat.le_refl _
    · rw [if_neg h]; exact Nat.le_succ_of_le (zlm_le aC aD cp day t)
def zps (aD : Nat → Int64) (day : Int64) : Nat → Nat
  | 0 => 0
  | t + 1 => if day < aD t then zps aD day t else t + 1
theorem zps_le (aD : Nat → Int64) (day : Int64) : ∀ t, zps aD day t ≤ t
  | 0 => Nat.le_refl 0
  | t + 1 => by
    unfold zps
    by_cases h : day < aD t
    · rw [if_pos h]; exact Nat.le_succ_of_le (zps_le aD day t)
    · rw [if_neg h]; exact Nat.le_refl _
def zsh {α : Type} (f : Nat → α) (t n : Nat) : Nat → α := fun k => if t < k ∧ k ≤ n then f (k - 1) else f k
theorem zsh_0 {α : Type} (f : Nat → α) (n : Nat) : zsh f n n = f := by
  funext k
  unfold zsh
  rw [if_neg (by omega)]
theorem zsh_at {α : Type} (f : Nat → α) {t n : Nat} : zsh f (t + 1) n t = f t := by
  unfold zsh
  rw [if_neg (by omega)]
theorem zsh_1 {f : Nat → Int32} {t n : Nat} (h : t + 1 ≤ n) : upd (zsh f (t + 1) n) (t + 1) (f t) = zsh f t n := by
  funext k
  unfold upd zsh
  by_cases e : k = t + 1
  · subst e; rw [if_pos rfl, if_pos (by omega)]; rfl
  · rw [if_neg e]
    by_cases e2 : t + 1 < k ∧ k ≤ n
    · rw [if_pos e2, if_pos (by omega)]
    · rw [if_neg e2, if_neg (by omega)]
theorem zsh_1L {f : Nat → Int64} {t n : Nat} (h : t + 1 ≤ n) : vp_updL (zsh f (t + 1) n) (t + 1) (f t) = zsh f t n := by
  funext k
  unfold vp_updL zsh
  by_cases e : k = t + 1
  · subst e; rw [if_pos rfl, if_pos (by omega)]; rfl
  · rw [if_neg e]
    by_cases e2 : t + 1 < k ∧ k ≤ n
    · rw [if_pos e2, if_pos (by omega)]
    · rw [if_neg e2, if_neg (by omega)]
def zpi {α : Type} (f : Nat → α) (p n : Nat) (x : α) : Nat → α := fun k => if k = p then x else zsh f p n k
theorem zvp5 {t ac : Nat} (h : t < ac) (hac : ac < 5000) : vp_in (nI t) 5000 := vp_in_nI (by omega) (by decide)
theorem zvp5' {t ac : Nat} (h : t ≤ ac) (hac : ac < 5000) : vp_in (nI t) 5000 := vp_in_nI (by omega) (by decide)
abbrev zFm (k t : Int32) : Prop := (k = 0 ∧ ¬ t ≤ 0 ∧ ¬ 7 ≤ t) ∨ (k = 1 ∧ (t = 0 ∨ t = 4)) ∨ (k = 2 ∧ (t = 0 ∨ t = 3)) ∨ (k = 3 ∧ (t = 0 ∨ t = 6)) ∨ (k = 4 ∧ t = 0) ∨ (k = 5 ∧ (t = 0 ∨ t = 3)) ∨ (¬ k = 0 ∧ ¬ k = 1 ∧ ¬ k = 2 ∧ ¬ k = 3 ∧ ¬ k = 4 ∧ ¬ k = 5 ∧ ¬ 6 ≤ t)
theorem zsw6 {x : Int32} (h0 : ¬ x = 0) (h1 : ¬ x = 1) (h2 : ¬ x = 2) (h3 : ¬ x = 3) (h4 : ¬ x = 4) (h5 : ¬ x = 5) : x.toInt < 0 ∨ 5 < x.toInt := by
  have a0 := lv_neT (a := 0) h0 rfl
  have a1 := lv_neT (a := 1) h1 rfl
  have a2 := lv_neT (a := 2) h2 rfl
  have a3 := lv_neT (a := 3) h3 rfl
  have a4 := lv_neT (a := 4) h4 rfl
  have a5 := lv_neT (a := 5) h5 rfl
  omega
theorem zuf_id {α : Type} (f : Nat → α) (k : Nat) : zuf f k (f k) = f := by
  funext j
  unfold zuf
  by_cases h : j = k
  · rw [if_pos h, h]
  · rw [if_neg h]
def zFlm (co : Nat) (k on : Int32) (F : Nat → Nat → Int32) : Nat → Nat → Int32 := match zIx co k with
  | none => F
  | some j => zuf F 6 (upd (F 6) (j + 1) on)
theorem zcmp (a b : Int32) (n : Int) (ha : a.toInt = n) (hb : b.toInt = n + 1) (x : Int32) : a < x ↔ b ≤ x := by
  rw [Int32.lt_iff_toInt_lt, Int32.le_iff_toInt_le]
  omega
theorem gt9 {x : Int32} (h : 9 < x) : 10 ≤ x := (zcmp 9 10 9 rfl rfl x).mp h
theorem gt5 {x : Int32} (h : 5 < x) : 6 ≤ x := (zcmp 5 6 5 rfl rfl x).mp h
theorem le5 {x : Int32} (h : ¬ x ≤ 5) : 6 ≤ x := gt5 (Int32.not_le.mp h)
theorem zPl_9 {x : Int32} (h0 : ¬ x < 0) (h : ¬ 9 < x) : zPl x := ⟨h0, fun q => h ((zcmp 9 10 9 rfl rfl x).mpr q)⟩
theorem zTy_g5 {x : Int32} (h0 : ¬ x < 0) (h : ¬ 5 < x) : zTy x := ⟨h0, fun q => h ((zcmp 5 6 5 rfl rfl x).mpr q)⟩
theorem zTy_5 {x : Int32} (h0 : ¬ x < 0) (h : x ≤ 5) : zTy x := zTy_g5 h0 (Int32.not_lt.mpr h)
theorem zix6 (p t : Int32) : p * 6 + t = 6 * p + t := by rw [Int32.mul_comm]
theorem zRi_in6 {p t : Int32} (hp : zPl p) (ht : zTy t) : vp_in (6 * p + t) 60 := by rw [← zix6]; exact zRi_in hp ht
theorem zne1 {z : Nat} (h : z < 2 ^ 31) : ¬ nI z = -1 := fun q => by
  have h1 := nI_toInt h
  rw [q] at h1
  have h2 : (-1 : Int32).toInt = -1 := rfl
  omega
def zms (aC aS : Nat → Int32) (aD : Nat → Int64) (cp : Int32) (day : Int64) (ac : Nat) : Int32 := match zlm aC aD cp day ac with
  | 0 => 3
  | z + 1 => aS z
def cvm (F : Nat → Nat → Int32) (L : Nat → Nat → Int64) : Nat → zCV := fun j => (F 0 (j + 1), L 1 (j + 1), F 2 (j + 1), F 3 (j + 1), F 4 (j + 1), F 5 (j + 1), F 6 (j + 1), F 8 (j + 1), F 7 (j + 1))
abbrev zEF (F : Nat → Nat → Int32) (t ac : Nat) : Nat → Nat → Int32 := zuf (zuf (zuf F 11 (zsh (F 11) t ac)) 12 (zsh (F 12) t ac)) 13 (zsh (F 13) t ac)
abbrev zEL (L : Nat → Nat → Int64) (t ac : Nat) : Nat → Nat → Int64 := zuf L 14 (zsh (L 14) t ac)
abbrev zEN (F : Nat → Nat → Int32) (p ac : Nat) (cp sta lt : Int32) : Nat → Nat → Int32 := zuf (zuf (zuf F 11 (zpi (F 11) p ac cp)) 12 (zpi (F 12) p ac sta)) 13 (zpi (F 13) p ac lt)
theorem zEF_0 (F : Nat → Nat → Int32) (ac : Nat) : zEF F ac ac = F := by
  unfold zEF
  rw [zsh_0, zsh_0, zsh_0, zuf_id, zuf_id, zuf_id]
theorem zEL_0 (L : Nat → Nat → Int64) (ac : Nat) : zEL L ac ac = L := by
  unfold zEL
  rw [zsh_0, zuf_id]
theorem zEF_c {F : Nat → Nat → Int32} {a b c x y z : Nat → Int32} : zuf (zuf (zuf (zuf (zuf (zuf F 11 a) 12 b) 13 c) 11 x) 12 y) 13 z = zuf (zuf (zuf F 11 x) 12 y) 13 z := by
  funext k
  unfold zuf
  by_cases h1 : k = 13
  · simp [h1]
  · by_cases h2 : k = 12
    · simp [h2]
    · by_cases h3 : k = 11
      · simp [h3]
      · simp [h1, h2, h3]
theorem zEL_c {L : Nat → Nat → Int64} {a b : Nat → Int64} : zuf (zuf L 14 a) 14 b = zuf L 14 b := by
  funext k
  unfold zuf
  by_cases h : k = 14
  · rw [if_pos h, if_pos h]
  · rw [if_neg h, if_neg h, if_neg h]
theorem zpi_i {f : Nat → Int32} {p n : Nat} {x : Int32} : upd (zsh f p n) p x = zpi f p n x := rfl
theorem zpi_l {f : Nat → Int64} {p n : Nat} {x : Int64} : vp_updL (zsh f p n) p x = zpi f p n x := rfl
theorem zsub1 (x : Int32) : x + (-1) = x - 1 := by rw [Int32.sub_eq_add_neg]
def zel (aC aS aL : Nat → Int32) (aD : Nat → Int64) (cp : Int32) : Nat → List zEV
  | 0 => []
  | t + 1 => zel aC aS aL aD cp t ++ (if aC t = cp then [(aD t, aS t, aL t)] else [])
def vHi (l : List zEV) (i what : Int32) : Int32 := if i < 0 then -1 else if what < 0 then -1 else if 1 < what then -1 else match l[i.toNatClampNeg]? with
  | none => -1
  | some x => if what = 0 then x.2.1 else zb (¬ x.2.2 = 0)
theorem zHi_map (L : List (Nat × zEV)) (i what : Int32) : zHi L i what = vHi (L.map Prod.snd) i what := by
  unfold zHi vHi
  rw [List.getElem?_map]
  cases L[i.toNatClampNeg]? <;> rfl
theorem zel_pre (aC aS aL : Nat → Int32) (aD : Nat → Int64) (cp : Int32) (t : Nat) : ∀ n, ∃ R, zel aC aS aL aD cp (t + n) = zel aC aS aL aD cp t ++ R
  | 0 => ⟨[], (List.append_nil _).symm⟩
  | n + 1 => by
    obtain ⟨R, h⟩ := zel_pre aC aS aL aD cp t n
    exact ⟨R ++ (if aC (t + n) = cp then [(aD (t + n), aS (t + n), aL (t + n))] else []), by rw [show t + (n + 1) = (t + n) + 1 from rfl, zel, h, List.append_assoc]⟩
theorem nI_of_clamp {i : Int32} (h : ¬ i < 0) : nI i.toNatClampNeg = i := by
  obtain ⟨j, hj, rfl⟩ := nI_of h
  rw [nI_clamp hj]
theorem zel_len (aC aS aL : Nat → Int32) (aD : Nat → Int64) (cp : Int32) : ∀ t, (zel aC aS aL aD cp t).length ≤ t
  | 0 => Nat.le_refl 0
  | t + 1 => by
    have h := zel_len aC aS aL aD cp t
    rw [zel, List.length_append]
    by_cases e : aC t = cp
    · rw [if_pos e]; exact Nat.succ_le_succ h
    · rw [if_neg e]; exact Nat.le_succ_of_le h
theorem zclamp_of {n : Nat} {i : Int32} (h : nI n = i) (_h0 : ¬ i < 0) (hn : n < 2 ^ 31) : i.toNatClampNeg = n := by
  rw [← h, nI_clamp hn]
theorem vHi_none {l : List zEV} {i what : Int32} (h : l.length ≤ i.toNatClampNeg) : vHi l i what = -1 := by
  unfold vHi
  rw [List.getElem?_eq_none h]
  by_cases a : i < 0
  · rw [if_pos a]
  · by_cases b : what < 0
    · rw [if_neg a, if_pos b]
    · by_cases c : 1 < what
      · rw [if_neg a, if_neg b, if_pos c]
      · rw [if_neg a, if_neg b, if_neg c]
theorem vHi_neg {l : List zEV} {i what : Int32} (h : i < 0) : vHi l i what = -1 := by unfold vHi; rw [if_pos h]
theorem zhi_neg {co : Nat} {k i what : Int32} {f : Nat → List zEV} (h : i < 0) : zsel co k (-1) (fun j => vHi (f j) i what) = -1 := by
  unfold zsel
  cases zIx co k with
  | none => rfl
  | some j => exact vHi_neg h
theorem zhi_end {co ac t : Nat} {k i what : Int32} {aC aS aL : Nat → Int32} {aD : Nat → Int64} (hlen : ¬ i < 0 → (zel aC aS aL aD k t).length ≤ i.toNatClampNeg) (ht : t = ac) (hco : co ≤ 80 := by assumption) : zsel co k (-1) (fun j => vHi (zel aC aS aL aD (nI (j + 1)) ac) i what) = -1 := by
  by_cases h : i < 0
  · exact zhi_neg h
  · cases hz : zIx co k with
    | none => rw [zsel_n hz]
    | some j =>
      obtain ⟨-, rfl⟩ := zIx_some hco hz
      rw [zsel_s hz, ← ht]
      exact vHi_none (hlen h)
def zwh (x : zEV) (what : Int32) : Int32 := if what < 0 then -1 else if 1 < what then -1 else if what = 0 then x.2.1 else zb (¬ x.2.2 = 0)
theorem zhi_at {ac t : Nat} {cp i what : Int32} {aC aS aL : Nat → Int32} {aD : Nat → Int64} (h0 : ¬ i < 0) (ht : t < ac) (hc : aC t = cp) (hi : i.toNatClampNeg = (zel aC aS aL aD cp t).length) : vHi (zel aC aS aL aD cp ac) i what = zwh (aD t, aS t, aL t) what := by
  obtain ⟨n, rfl⟩ := Nat.le.dest ht
  obtain ⟨R, hR⟩ := zel_pre aC aS aL aD cp (t + 1) n
  have hx : (zel aC aS aL aD cp (t + 1 + n))[i.toNatClampNeg]? = some (aD t, aS t, aL t) := by
    rw [hR, zel, if_pos hc, hi, List.append_assoc, List.getElem?_append_right (Nat.le_refl _), Nat.sub_self]
    rfl
  unfold vHi zwh
  rw [if_neg h0]
  rw [show t.succ + n = t + 1 + n from rfl, hx]
theorem zwh0 {x : zEV} {what : Int32} (h : what = 0) : zwh x what = x.2.1 := by subst h; rfl
theorem zwh1 {x : zEV} {what : Int32} (h : what = 1) : zwh x what = zb (¬ x.2.2 = 0) := by subst h; rfl
theorem zwhN {x : zEV} {what : Int32} (h0 : ¬ what = 0) (h1 : ¬ what = 1) : zwh x what = -1 := by
  unfold zwh
  by_cases a : what < 0
  · rw [if_pos a]
  · by_cases b : 1 < what
    · rw [if_neg a, if_pos b]
    · exfalso
      have e0 := lv_neT (a := 0) h0 rfl
      have e1 := lv_neT (a := 1) h1 rfl
      rw [Int32.lt_iff_toInt_lt] at a b
      have z0 : (0 : Int32).toInt = 0 := rfl
      have z1 : (1 : Int32).toInt = 1 := rfl
      omega
theorem zms_z {aC aS : Nat → Int32} {aD : Nat → Int64} {cp : Int32} {day : Int64} {ac : Nat} (h : zlm aC aD cp day ac = 0) : zms aC aS aD cp day ac = 3 := by unfold zms; rw [h]
theorem zms_s {aC aS : Nat → Int32} {aD : Nat → Int64} {cp : Int32} {day : Int64} {ac z : Nat} (h : zlm aC aD cp day ac = z + 1) : zms aC aS aD cp day ac = aS z := by unfold zms; rw [h]
section ZV
variable (G : zG) (m0 : Nat) (ar : Nat → Nat) (co ac : Nat) (gr : Int64) (F : Nat → Nat → Int32) (L : Nat → Nat → Int64)
def zVQ (k who : Int32) : Option Value → zMap → Prop := fun r M1 => match zIx co k with
  | none => r = some (.int (-1)) ∧ zJ G M1 m0 ar 0 (nI co) (nI ac) gr F L
  | some j => if ¬ who < 0 ∧ who ≤ 99 then
      (if zWd (F 5 (j + 1)) ∧ ¬ F 7 (j + 1) = who then
        (if F 7 (j + 1) = -1 then r = some (.int 1) ∧ zJ G M1 m0 ar 0 (nI co) (nI ac) gr (zuf F 7 (upd (F 7) (j + 1) who)) L
        else r = some (.int 2) ∧ zJ G M1 m0 ar 0 (nI co) (nI (ac + 1)) (if gr + 1 ≤ gr then gr else gr + 1) (zuf (zEN F (zps (L 14) (gr + 1) ac) ac (nI (j + 1)) 7 0) 5 (upd (F 5) (j + 1) 7)) (zuf L 14 (zpi (L 14) (zps (L 14) (gr + 1) ac) ac (gr + 1))))
      else r = some (.int (-2)) ∧ zJ G M1 m0 ar 0 (nI co) (nI ac) gr F L)
    else r = some (.int (-1)) ∧ zJ G M1 m0 ar 0 (nI co) (nI ac) gr F L
abbrev zA1m (kind place pl : Int32) (day : Int64) : Prop := ¬ kind < 0 ∧ ¬ 6 < kind ∧ ¬ day < 0 ∧ ¬ 1000000000000 < day ∧ (kind = 2 → zPl place ∧ ¬ place = pl)
abbrev zLm (bd : Nat → Int32) (kind place : Int32) (day gr : Int64) (fro pl ty : Int32) : Prop := (kind = 2 ∧ ¬ bd (6 * place + ty).toNatClampNeg = 0) ∨ (kind = 0 ∧ ¬ day < gr ∧ fro = 2 ∧ ¬ bd (6 * pl + ty).toNatClampNeg = 0)
def zCF (F0 : Nat → Nat → Int32) (j : Nat) (kind place fro : Int32) : Nat → Nat → Int32 :=
  zuf (zuf (zuf (zuf (zuf F0 8 (upd (F0 8) (j + 1) (F0 8 (j + 1) + (if kind = 6 ∧ fro = 1 then F0 10 (F0 0 (j + 1)).toNatClampNeg else 0)))) 5 (upd (F0 5) (j + 1) kind)) 4 (upd (F0 4) (j + 1) (if kind = 2 then place else F0 4 (j + 1)))) 3 (upd (F0 3) (j + 1) (if kind = 0 ∧ ¬ F0 6 (j + 1) = 0 then F0 4 (j + 1) else F0 3 (j + 1)))) 7 (upd (F0 7) (j + 1) (-1))
def zBQ (k kind place : Int32) (day : Int64) : Option Value → zMap → Prop := fun r M1 => match zIx co k with
  | none => r = some (.int (-1)) ∧ zJ G M1 m0 ar 0 (nI co) (nI ac) gr F L
  | some j => if zA1m kind place (F 4 (j + 1)) day then
      (if zFm kind (zBe gr day (F 5 (j + 1)) (zms (F 11) (F 12) (L 14) (nI (j + 1)) day ac)) then
        (if zLm (F 9) kind place day gr (zBe gr day (F 5 (j + 1)) (zms (F 11) (F 12) (L 14) (nI (j + 1)) day ac)) (F 4 (j + 1)) (F 0 (j + 1)) then r = some (.int (-3)) ∧ zJ G M1 m0 ar 0 (nI co) (nI ac) gr F L
        else r = some (.int kind) ∧ zJ G M1 m0 ar 0 (nI co) (nI (ac + 1)) (if day ≤ gr then gr else day) (if day < gr then zEN F (zps (L 14) day ac) ac (nI (j + 1)) kind (zb (day < gr)) else zCF (zEN F (zps (L 14) day ac) ac (nI (j + 1)) kind (zb (day < gr))) j kind place (zBe gr day (F 5 (j + 1)) (zms (F 11) (F 12) (L 14) (nI (j + 1)) day ac))) (zuf L 14 (zpi (L 14) (zps (L 14) day ac) ac day)))
      else r = some (.int (-2)) ∧ zJ G M1 m0 ar 0 (nI co) (nI ac) gr F L)
    else r = some (.int (-1)) ∧ zJ G M1 m0 ar 0 (nI co) (nI ac) gr F L
end ZV
theorem zCF_eq {F0 : Nat → Nat → Int32} {j : Nat} {kind place fro vA vB vC : Int32} (hA : (if kind = 6 ∧ fro = 1 then F0 10 (F0 0 (j + 1)).toNatClampNeg else 0) = vA) (hB : (if kind = 2 then place else F0 4 (j + 1)) = vB) (hC : (if kind = 0 ∧ ¬ F0 6 (j + 1) = 0 then F0 4 (j + 1) else F0 3 (j + 1)) = vC) :
    zCF F0 j kind place fro = zuf (zuf (zuf (zuf (zuf F0 8 (upd (F0 8) (j + 1) (F0 8 (j + 1) + vA))) 5 (upd (F0 5) (j + 1) kind)) 4 (upd (F0 4) (j + 1) vB)) 3 (upd (F0 3) (j + 1) vC)) 7 (upd (F0 7) (j + 1) (-1)) := by
  unfold zCF
  rw [hA, hB, hC]
theorem zdiv10 {a : Nat} (ha : a < 2 ^ 63) : lN a / 10 = lN (a / 10) := pk_lDiv (b := 10) ha (by decide) (by decide)
theorem zmod10 {a : Nat} (ha : a < 2 ^ 63) : lN a - lN a / 10 * 10 = lN (a % 10) := pk_lRem (b := 10) ha (by decide) (by decide)
theorem zBc_eq {a : Nat} {dg : Int32} (ha : a < 2 ^ 63) : zBc (lN a) dg ↔ zchk (lN (a / 10)) dg = nI (a % 10) := by
  have hn : ¬ lN a < 0 := fun q => by
    have h9 : (0 : Int64) = lN 0 := rfl
    rw [h9, pk_lLT ha (by decide)] at q
    omega
  have e : (lN a - lN a / 10 * 10).toInt32 = nI (a % 10) := by rw [zmod10 ha, lN_i]
  constructor
  · intro h
    have h2 := h.2
    rw [e, zdiv10 ha] at h2
    exact h2
  · intro h
    refine ⟨hn, ?_⟩
    rw [e, zdiv10 ha]
    exact h
theorem zBc_dig {bc : Int64} {dg : Int32} (h : dg < 1 ∨ 12 < dg) : ¬ zBc bc dg := fun q => by
  obtain ⟨a, ha, rfl⟩ := pk_lOf q.1
  rw [zBc_eq ha] at q
  unfold zchk at q
  rw [if_pos (Or.inr h)] at q
  exact zne1 (z := a % 10) (by omega) q.symm
theorem zBc_big {a K : Nat} (ha : a < 2 ^ 63) (h1 : 1 ≤ K) (h2 : K ≤ 12) (h : zten (K + 1) ≤ lN a) : ¬ zBc (lN a) (nI K) := fun q => by
  rw [zBc_eq ha] at q
  rw [zten_eq, pk_lLE (zten_lt (by omega)) ha] at h
  have h3 : 10 ^ K ≤ a / 10 := by
    rw [Nat.le_div_iff_mul_le (by decide), ← Nat.pow_succ]
    exact h
  rw [zchk_big (Nat.lt_of_le_of_lt (Nat.div_le_self _ _) ha) h1 h2 (fun z => by
    rw [zten_eq, pk_lLT (Nat.lt_of_le_of_lt (Nat.div_le_self _ _) ha) (zten_lt (by omega))] at z
    omega)] at q
  exact zne1 (z := a % 10) (by omega) q.symm
theorem zBc_sg {a K K0 : Nat} (ha : a < 2 ^ 63) (h1 : 1 ≤ K) (h2 : K ≤ 12) (h : ¬ zten (K + 1) ≤ lN a) (h0 : a / 10 / 10 ^ K0 = 0) : ((zrm (10 - zrm (zsS (lN (a / 10)) K0) 10) 10).toInt64 = lN a - lN a / 10 * 10) ↔ zBc (lN a) (nI K) := by
  have ha10 : a / 10 < 2 ^ 63 := Nat.lt_of_le_of_lt (Nat.div_le_self _ _) ha
  rw [zten_eq, pk_lLE (zten_lt (by omega)) ha] at h
  have h3 : a / 10 < 10 ^ K := by
    rw [Nat.div_lt_iff_lt_mul (by decide), ← Nat.pow_succ]
    omega
  rw [zBc_eq ha, zmod10 ha, zchk_sign ha10 h1 h2 (by rw [zten_eq, pk_lLT ha10 (zten_lt (by omega))]; exact h3) h0]
  constructor
  · intro q
    have q2 := congrArg Int64.toInt32 q
    rw [lN_i] at q2
    rw [← q2]
    simp
  · intro q
    rw [q, nI_l (by omega)]
def zNF (F : Nat → Nat → Int32) (co : Nat) (ty dg hm : Int32) : Nat → Nat → Int32 :=
  zuf (zuf (zuf (zuf (zuf (zuf F 0 (upd (F 0) (co + 1) ty)) 2 (upd (F 2) (co + 1) dg)) 3 (upd (F 3) (co + 1) hm)) 4 (upd (F 4) (co + 1) hm)) 5 (upd (F 5) (co + 1) 3)) 7 (upd (F 7) (co + 1) (-1))
theorem zinj : ∀ {l : List Nat} (_ : l.Nodup) (i j : Nat), i < l.length → j < l.length → l.getD i 0 = l.getD j 0 → i = j
  | [], _, i, _, h, _, _ => absurd h (Nat.not_lt_zero i)
  | a :: l, hn, i, j, hi, hj, e => by
    have hn2 := List.nodup_cons.mp hn
    cases i with
    | zero =>
      cases j with
      | zero => rfl
      | succ j =>
        exfalso
        have hj2 : j < l.length := Nat.lt_of_succ_lt_succ hj
        have e2 : a = l.getD j 0 := e
        rw [List.getD_eq_getElem?_getD, List.getElem?_eq_getElem hj2] at e2
        exact hn2.1 (by rw [e2]; exact List.getElem_mem hj2)
    | succ i =>
      have hi2 : i < l.length := Nat.lt_of_succ_lt_succ hi
      cases j with
      | zero =>
        exfalso
        have e2 : l.getD i 0 = a := e
        rw [List.getD_eq_getElem?_getD, List.getElem?_eq_getElem hi2] at e2
        exact hn2.1 (by rw [← e2]; exact List.getElem_mem hi2)
      | succ j => rw [zinj hn2.2 i j hi2 (Nat.lt_of_succ_lt_succ hj) e]
