def zT (dA : Nat → ClassId) : List (ClassId × FieldType) := [(dA 0, .int), (dA 1, .boolean), (dA 2, .object "ItemStates$Copy"), (dA 3, .long)]
abbrev zMap : Type := Nat → Option va_E
def zu (M : zMap) (a : Nat) (e : va_E) : zMap := fun b => if b = a then some e else M b
theorem zu_s (M : zMap) (a : Nat) (e : va_E) : zu M a e a = some e := if_pos rfl
theorem zu_n {M : zMap} {a b : Nat} {e : va_E} (h : b ≠ a) : zu M a e b = M b := if_neg h
theorem zu_u (M : zMap) (a : Nat) (e e' : va_E) : zu (zu M a e) a e' = zu M a e' := by
  funext b
  by_cases h : b = a
  · subst h; rw [zu_s, zu_s]
  · rw [zu_n h, zu_n h, zu_n h]
theorem zu_c (M : zMap) {a b : Nat} (e e' : va_E) (h : a ≠ b) : zu (zu M a e) b e' = zu (zu M b e') a e := by
  funext x
  by_cases h1 : x = b
  · subst h1; rw [zu_s, zu_n (Ne.symm h), zu_s]
  · by_cases h2 : x = a
    · subst h2; rw [zu_n h1, zu_s, zu_s]
    · rw [zu_n h1, zu_n h2, zu_n h2, zu_n h1]
theorem zu_id {M : zMap} {a : Nat} {e : va_E} (h : M a = some e) : zu M a e = M := by
  funext b
  by_cases h1 : b = a
  · subst h1; rw [zu_s, h]
  · rw [zu_n h1]
theorem zne {M : zMap} {a b : Nat} {x y : va_E} (ha : M a = some x) (hb : M b = some y) (h : x ≠ y) : a ≠ b := fun e => h (Option.some.inj (ha.symm.trans (e ▸ hb)))
abbrev zG : Type := (Nat → ClassId) × (Nat → Nat → Nat) × (Nat → ClassId)
abbrev zD (G : zG) : va_G := (G.1, G.2.1)
def zM (A : Nat → Prop) (G : zG) (M : zMap) (H : Heap) : Prop := ∀ (a : Nat) (e : va_E), M a = some e → A a ∧ va_at (zD G) vwCl (a, e) H
theorem zM.one {A : Nat → Prop} {G : zG} {M : zMap} {H : Heap} {a : Nat} {e : va_E} (h : zM A G M H) (he : M a = some e) : va_P (zD G) vwCl [(a, e)] H := by
  intro k q hk
  have hz : k < 1 := (List.getElem?_eq_some_iff.mp hk).1
  rw [show k = 0 by omega] at hk
  cases hk
  exact (h a e he).2
theorem zM.lt {A : Nat → Prop} {G : zG} {M : zMap} {H : Heap} {a : Nat} {e : va_E} (h : zM A G M H) (he : M a = some e) : a < H.size := (h a e he).2.lt
theorem zM.fresh {A : Nat → Prop} {G : zG} {M : zMap} {H : Heap} {a : Nat} (h : zM A G M H) (ha : H.size ≤ a) : M a = none := by
  cases hq : M a with
  | none => rfl
  | some e => exact absurd (h.lt hq) (by omega)
theorem zM.put {A : Nat → Prop} {G : zG} {M : zMap} {H H1 : Heap} {a : Nat} {e : va_E} (h : zM A G M H) (ha : A a) (he : va_at (zD G) vwCl (a, e) H1) (oq : ∀ q : Nat, q ≠ a → H1[q]? = H[q]?) : zM A G (zu M a e) H1 := by
  intro b x hb
  by_cases hba : b = a
  · subst hba
    rw [zu_s] at hb
    cases hb
    exact ⟨ha, he⟩
  · rw [zu_n hba] at hb
    exact ⟨(h b x hb).1, (h b x hb).2.kept (oq b hba)⟩
theorem zM.new {A : Nat → Prop} {G : zG} {M : zMap} {H H1 : Heap} {e : va_E} (h : zM A G M H) (ha : A H.size) (he : va_at (zD G) vwCl (H.size, e) H1) (oq : ∀ q : Nat, q < H.size → H1[q]? = H[q]?) : zM A G (zu M H.size e) H1 := by
  intro b x hb
  by_cases hba : b = H.size
  · subst hba
    rw [zu_s] at hb
    cases hb
    exact ⟨ha, he⟩
  · rw [zu_n hba] at hb
    exact ⟨(h b x hb).1, (h b x hb).2.kept (oq b (h.lt hb))⟩
def zB : List Cond := lw_tbl.filter goodWord
def zIsN : Cond → Bool
  | .fieldLinkNest .. => true
  | .methodLinkNest .. => true
  | .arrayOver (.object _) => true
  | _ => false
def zNest : List Cond := lw_tbl.filter zIsN
theorem zB_in {w : Cond} (h : w ∈ lw_tbl) (hg : goodWord w = true) : w ∈ zB := List.mem_filter.mpr ⟨h, hg⟩
theorem zN_in {w : Cond} (h : w ∈ lw_tbl) (hg : zIsN w = true) : w ∈ zNest := List.mem_filter.mpr ⟨h, hg⟩
theorem zNw_warm {w : Cond} (hw : zIsN w = true) {s U : State} (hW : s.WarmedH U.vm) (h : va_Nw w s) : va_Nw w U := by
  cases w with
  | fieldLinkNest => exact va_Nw.warmF hW h
  | methodLinkNest => exact va_Nw.warmM hW h
  | arrayOver ty =>
    cases ty with
    | object C => exact va_AO.moved hW.alike h
    | _ => cases hw
  | _ => cases hw
theorem zNw_same {w : Cond} (hw : zIsN w = true) {s U : State} (hv : s.vm = U.vm) (h : va_Nw w s) : va_Nw w U := by
  cases w with
  | fieldLinkNest => exact va_Nw.same rfl hv h
  | methodLinkNest => exact va_Nw.same rfl hv h
  | arrayOver ty =>
    cases ty with
    | object C => exact va_AO.moved (by rw [hv]; exact Vm.Alike.refl _) h
    | _ => cases hw
  | _ => cases hw
def zK (G : zG) (U : State) : Prop := va_K (zD G) vwCl (zT G.2.2) U ∧ ∀ w ∈ zNest, va_Nw w U
theorem zK.warm {G : zG} {s U : State} (h : zK G s) (hW : s.WarmedH U.vm) : zK G U := ⟨va_K.moved hW.alike h.1, fun w hw => zNw_warm (List.mem_filter.mp hw).2 hW (h.2 w hw)⟩
theorem zK.same {G : zG} {s U : State} (h : zK G s) (hv : s.vm = U.vm) : zK G U := ⟨va_K.moved (by rw [hv]; exact Vm.Alike.refl _) h.1, fun w hw => zNw_same (List.mem_filter.mp hw).2 hv (h.2 w hw)⟩
def zw (y : MethodName) (cc : ByteArray) (maxL : Nat) (ret : Option FieldType) : List Cond := .code y cc maxL ret :: zB
theorem zgood {y : MethodName} {cc : ByteArray} {maxL : Nat} {ret : Option FieldType} (h : Cond.code y cc maxL ret ∈ zB) : GoodIn zB (zw y cc maxL ret) := by
  intro w hw
  have h1 : w ∈ zB := by
    rcases List.mem_cons.mp hw with h2 | h2
    · rw [h2]; exact h
    · exact h2
  exact ⟨h1, good_of_word (List.mem_filter.mp h1).2⟩
def zPc (av : List Value) (A : Nat → Prop) (G : zG) (M : zMap) : Array Value → State → Prop := fun v U => v = av.toArray ∧ zK G U ∧ zM A G M U.heap ∧ ∀ q : Nat, U.heap.size ≤ q → A q
def zQ (A : Nat → Prop) (G : zG) (post : Option Value → zMap → Prop) : Array Value → State → Outcome → State → Prop := fun _ st oc t => (∃ (r : Option Value) (M1 : zMap), oc = .returned r ∧ post r M1 ∧ zM A G M1 t.heap) ∧ va_F A st t
theorem zPc.blind {av : List Value} {A : Nat → Prop} {G : zG} {M : zMap} : FrameBlind (zPc av A G M) := fun _ U _ _ q => ⟨q.1, q.2.1.same (s := U) rfl, q.2.2.1, q.2.2.2⟩
def zMet (l : Launch) (y : MethodName) (cc : ByteArray) (maxL : Nat) (ret : Option FieldType) (rm : Room) (av : List Value) (A : Nat → Prop) (G : zG) (M : zMap) (post : Option Value → zMap → Prop) : Prop :=
  Met l y (zw y cc maxL ret) rm (zPc av A G M) (zQ A G post) rm.cells rm.slots A
def zCls (ci : Nat) (C : String) (T : u_T) (N : Nat) (ty : Nat → FieldType) : Prop := vwCl[ci]? = some (C, T, N) ∧ (∀ w ∈ u_ws C T N, w ∈ zB) ∧ (∀ k, k < N → parseFieldDescriptor (T k).2.2.1 = some (ty k)) ∧ ∀ a, a < N → ∀ b, b < N → a ≠ b → (T a).2.1 ≠ (T b).2.1
def zOK (y : MethodName) (bytes : ByteArray) (maxL : Nat) (ret : Option FieldType) (n : Nat) : Prop := Cond.code y bytes maxL ret ∈ zB ∧ Cond.initialized y.cls ∈ zB ∧ y.cls ≠ "java/lang/invoke/MethodHandle" ∧ y.cls ≠ "java/lang/invoke/VarHandle" ∧ (parseMethodDescriptor y.desc).map (fun d => d.parameters.length) = some n
section ZW
variable {p : Program} {l : Launch} {e : Env} {R : Room} {s : State} {m : MethodId} {args : Array Value} {below : List Frame} {meth : Method} {c : Code} {H : Heap} {locs : List Loc} {cells slots : Nat} {Q : State → Prop}
variable {cc : ByteArray} {pc nL : Nat} {ls : Array Slot} {rest : List Value} {A : Nat → Prop} {G : zG} {M : zMap} {a : Nat} {H0 : Heap} {own : String}
theorem zMet.of {y : MethodName} {maxL : Nat} {ret : Option FieldType} {rm : Room} {av : List Value} {post : Option Value → zMap → Prop} (hy : plainName y.cls = true) (hlen : (lg_sl av).length ≤ maxL)
    (body : ∀ (p : Program) (e : Env) (s : State) (m : MethodId) (args : Array Value) (below : List Frame) (meth : Method) (c : Code) (ls : Array Slot), CallFix p m c cc maxL s args zB y.cls → meth.sig.returnType = ret → meth.locks = false → meth.name = y.name → zK G s → zM A G M s.heap → (∀ q : Nat, s.heap.size ≤ q → A q) → va_S A s.heap s.heap [] → lv_has ls maxL (lv_args 0 av) →
      W p l e rm s m args below meth c s.heap [] 0 0 (MQ below (zQ A G post) args s rm.cells rm.slots A) (F0 m 0 ls [])) : zMet l y cc maxL ret rm av A G M post := by
  refine Met.ofW (cc := cc) (maxL := maxL) (ret := ret) hy rfl ?_
  intro p e s m args below meth c s₁ B hml hv
  obtain ⟨rfl, hK, hM, hA⟩ := hv
  have hts := atoms_spec (ws := zw y cc maxL ret) B.pre
  rw [lg_entry_eq]
  exact body p e s m _ below meth c _ ⟨B.exec, B.bytes, hml, findClass_of_methodNamed B.named, fun w h => hts w (List.mem_cons_of_mem _ h)⟩ B.returns B.notSynchronized (name_of_methodNamed B.named B.method).1 hK hM hA va_S.rf (lv_entry av hlen)
theorem z_get (S : CallFix p m c cc nL s args zB own) {C : String} {T : u_T} {N ci index : Nat} {ty : Nat → FieldType} (hC : zCls ci C T N ty) (hK : zK G s) (hM : zM A G M H) {fs : List Value} (he : M a = some (.inr (ci, fs))) (k : Nat) (hk : k < N) (hl : Cond.fieldLink own index (T k).1 (T k).2.1 (T k).2.2.1 ∈ zB) {v : Value} (hv : fs[k]? = some v) (hdg : decode cc pc = .ok (.getfield index, 3))
    (kk : W p l e R s m args below meth c H locs cells slots Q (F0 m (pc + 3) ls (v :: rest))) : W p l e R s m args below meth c H locs cells slots Q (F0 m pc ls (.ref a :: rest)) :=
  va_get S.1 S.2.1 S.2.2.2.2 hC.2.1 S.2.2.2.1 hK.1 (hM.one he) 0 rfl hC.1 k hk (S.2.2.2.2 _ hl) (fun _ h => h) hv hdg kk
theorem z_getN (S : CallFix p m c cc nL s args zB own) {C host : String} {T : u_T} {N ci index : Nat} {ty : Nat → FieldType} (hC : zCls ci C T N ty) (hK : zK G s) (hM : zM A G M H) {fs : List Value} (he : M a = some (.inr (ci, fs))) (k : Nat) (hk : k < N) (hl : Cond.fieldLinkNest own index (T k).1 (T k).2.1 (T k).2.2.1 host ∈ zNest) {v : Value} (hv : fs[k]? = some v) (hdg : decode cc pc = .ok (.getfield index, 3))
    (kk : W p l e R s m args below meth c H locs cells slots Q (F0 m (pc + 3) ls (v :: rest))) : W p l e R s m args below meth c H locs cells slots Q (F0 m pc ls (.ref a :: rest)) :=
  va_getN S.1 S.2.1 S.2.2.2.2 hC.2.1 S.2.2.2.1 hK.1 (hM.one he) 0 rfl hC.1 k hk (va_Nw.use rfl (hK.2 _ hl)) (fun _ h => h) hv hdg kk
theorem z_put (S : CallFix p m c cc nL s args zB own) {C : String} {T : u_T} {N ci index : Nat} {ty : Nat → FieldType} (hC : zCls ci C T N ty) (hK : zK G s) (hM : zM A G M H) (hS0 : va_S A H0 H locs) {fs : List Value} (he : M a = some (.inr (ci, fs))) (k : Nat) (hk : k < N) (hl : Cond.fieldLink own index (T k).1 (T k).2.1 (T k).2.2.1 ∈ zB) (hfin : (T k).2.2.2 = false) {v : Value} (hn : narrow (ty k) v = v) (hfit : fits (ty k) v = true) (hlen : k < fs.length) (hdg : decode cc pc = .ok (.putfield index, 3))
    (kk : ∀ (H1 : Heap) (locs1 : List Loc), zM A G (zu M a (.inr (ci, fs.set k v))) H1 → va_S A H0 H1 locs1 → W p l e R s m args below meth c H1 locs1 cells slots Q (F0 m (pc + 3) ls rest)) : W p l e R s m args below meth c H locs cells slots Q (F0 m pc ls (v :: .ref a :: rest)) := by
  obtain ⟨hc, hin, hty, hnm⟩ := hC
  have hts := S.2.2.2.2
  have hap := va_apart (own := own) hts hin ty hty hnm hK.1 hc
  obtain ⟨ha, r, h1, cell, q1, q2, q3, q4⟩ := hM a _ he
  have hr : r = (C, T, N) := Option.some.inj (h1.symm.trans hc)
  subst hr
  obtain ⟨hS, hfc, kC, hkC, hkind⟩ := hK.1.1 ci _ hc
  obtain ⟨cf, kf, fi, f, hi, hsl⟩ := hS k hk
  have hlay := hts _ (hin _ (u_in_lay hk))
  unfold u_lay at hlay
  rw [if_neg (by rw [hfin]; decide)] at hlay
  have hst := (u_facts hfc hkC (u_lays hts hin hk) hi).1
  have h6 := u_store hfc hkC hkind hlay hi (hty k hk) hn hfit
  refine W.putK S.1 S.2.1 (f := f) ⟨S.2.2.2.1, hts _ hl, ⟨_, _, _, hi⟩, hst⟩ (by rw [q2]; exact h6) q1 q3 (by rw [hsl]; exact k2_hasslot (q4 k hk)) rfl rfl hdg fun H' e1 e2 e3 => ?_
  rw [hsl] at e1 ⊢
  exact kk H' _ (hM.put ha ⟨_, hc, t_OB.to (V := updV (vp_V fs) k v) ⟨_, e1, q2, q3, t_set q4 hap hk v⟩ (fun j _ => vp_updV_set hlen v j)⟩ e3) (hS0.put e2 e3 ha)
theorem z_putN (S : CallFix p m c cc nL s args zB own) {C host : String} {T : u_T} {N ci index : Nat} {ty : Nat → FieldType} (hC : zCls ci C T N ty) (hK : zK G s) (hM : zM A G M H) (hS0 : va_S A H0 H locs) {fs : List Value} (he : M a = some (.inr (ci, fs))) (k : Nat) (hk : k < N) (hl : Cond.fieldLinkNest own index (T k).1 (T k).2.1 (T k).2.2.1 host ∈ zNest) (hfin : (T k).2.2.2 = false) {v : Value} (hn : narrow (ty k) v = v) (hfit : fits (ty k) v = true) (hlen : k < fs.length) (hdg : decode cc pc = .ok (.putfield index, 3))
    (kk : ∀ (H1 : Heap) (locs1 : List Loc), zM A G (zu M a (.inr (ci, fs.set k v))) H1 → va_S A H0 H1 locs1 → W p l e R s m args below meth c H1 locs1 cells slots Q (F0 m (pc + 3) ls rest)) : W p l e R s m args below meth c H locs cells slots Q (F0 m pc ls (v :: .ref a :: rest)) := by
  obtain ⟨hc, hin, hty, hnm⟩ := hC
  have hts := S.2.2.2.2
  have hap := va_apart (own := own) hts hin ty hty hnm hK.1 hc
  obtain ⟨ha, r, h1, cell, q1, q2, q3, q4⟩ := hM a _ he
  have hr : r = (C, T, N) := Option.some.inj (h1.symm.trans hc)
  subst hr
  obtain ⟨hS, hfc, kC, hkC, hkind⟩ := hK.1.1 ci _ hc
  obtain ⟨cf, kf, fi, f, hi, hsl⟩ := hS k hk
  have hlay := hts _ (hin _ (u_in_lay hk))
  unfold u_lay at hlay
  rw [if_neg (by rw [hfin]; decide)] at hlay
  have hst := (u_facts hfc hkC (u_lays hts hin hk) hi).1
  have h6 := u_store hfc hkC hkind hlay hi (hty k hk) hn hfit
  refine va_WputK S.1 S.2.1 (f := f) S.2.2.2.1 (va_Nw.use rfl (hK.2 _ hl)) hi hst (by rw [q2]; exact h6) q1 q3 (by rw [hsl]; exact k2_hasslot (q4 k hk)) rfl rfl hdg fun H' e1 e2 e3 => ?_
  rw [hsl] at e1 ⊢
  exact kk H' _ (hM.put ha ⟨_, hc, t_OB.to (V := updV (vp_V fs) k v) ⟨_, e1, q2, q3, t_set q4 hap hk v⟩ (fun j _ => vp_updV_set hlen v j)⟩ e3) (hS0.put e2 e3 ha)
theorem z_putF (S : CallFix p m c cc nL s args zB own) {C : String} {T : u_T} {N ci index : Nat} {ty : Nat → FieldType} (hC : zCls ci C T N ty) (hK : zK G s) (hM : zM A G M H) (hS0 : va_S A H0 H locs) {fs : List Value} (he : M a = some (.inr (ci, fs))) (k : Nat) (hk : k < N) (hl : Cond.fieldLink own index (T k).1 (T k).2.1 (T k).2.2.1 ∈ zB) (hfin : (T k).2.2.2 = true) (hin2 : meth.name = "<init>") (hdecl : (T k).1 = own) {v : Value} (hn : narrow (ty k) v = v) (hfit : fits (ty k) v = true) (hlen : k < fs.length) (hdg : decode cc pc = .ok (.putfield index, 3))
    (kk : ∀ (H1 : Heap) (locs1 : List Loc), zM A G (zu M a (.inr (ci, fs.set k v))) H1 → va_S A H0 H1 locs1 → W p l e R s m args below meth c H1 locs1 cells slots Q (F0 m (pc + 3) ls rest)) : W p l e R s m args below meth c H locs cells slots Q (F0 m pc ls (v :: .ref a :: rest)) := by
  obtain ⟨hc, hin, hty, hnm⟩ := hC
  have hts := S.2.2.2.2
  have hown := S.2.2.2.1
  have hap := va_apart (own := own) hts hin ty hty hnm hK.1 hc
  obtain ⟨ha, r, h1, cell, q1, q2, q3, q4⟩ := hM a _ he
  have hr : r = (C, T, N) := Option.some.inj (h1.symm.trans hc)
  subst hr
  obtain ⟨hS, hfc, kC, hkC, hkind⟩ := hK.1.1 ci _ hc
  obtain ⟨cf, kf, fi, f, hi, hsl⟩ := hS k hk
  have hlay := hts _ (hin _ (u_in_lay hk))
  unfold u_lay at hlay
  rw [if_pos hfin] at hlay
  have hst := (u_facts hfc hkC (u_lays hts hin hk) hi).1
  have hcf : m.cls = cf := by
    obtain ⟨_, _, c', _, _, _, -, -, hf', -, -, -, hown2, -⟩ := Cond.laysFinal_spec hlay
    have e1 : c' = cf := by have := hi.symm.trans hf'; simp at this; exact this.1.symm
    rw [hdecl] at hown2
    rw [← e1]; exact Option.some.inj (hown.symm.trans hown2)
  have h6 := u_fits hfc hkC hkind (Or.inr hlay) hi (hty k hk) hn hfit
  refine W.putFinK S.1 S.2.1 hown (hts _ hl) hi hst hcf hin2 (by rw [q2]; exact h6) q1 q3 (by rw [hsl]; exact k2_hasslot (q4 k hk)) rfl rfl hdg fun H' e1 e2 e3 => ?_
  rw [hsl] at e1 ⊢
  exact kk H' _ (hM.put ha ⟨_, hc, t_OB.to (V := updV (vp_V fs) k v) ⟨_, e1, q2, q3, t_set q4 hap hk v⟩ (fun j _ => vp_updV_set hlen v j)⟩ e3) (hS0.put e2 e3 ha)
theorem z_new (S : CallFix p m c cc nL s args zB own) {C : String} {T : u_T} {N ci index : Nat} {ty : Nat → FieldType} (hC : zCls ci C T N ty) (hK : zK G s) (hM : zM A G M H) (hS : va_S A H0 H locs) (hA : ∀ q : Nat, H0.size ≤ q → A q) (hcl : Cond.classLink own index C ∈ zB) (hinst : Cond.instantiable C N ∈ zB) (hini : Cond.initialized C ∈ zB) {fs : List Value} (hfs : ∀ j, j < N → defaultValue (ty j) = vp_V fs j) (hcells : cells + 1 ≤ R.cells) (hslots : slots + N ≤ R.slots) (hdg : decode cc pc = .ok (.new index, 3))
    (kk : ∀ (q : Nat) (H1 : Heap), M q = none → A q → zM A G (zu M q (.inr (ci, fs))) H1 → va_S A H0 H1 locs →
      W p l e R s m args below meth c H1 locs (cells + 1) (slots + N) Q (F0 m (pc + 3) ls (.ref q :: rest))) : W p l e R s m args below meth c H locs cells slots Q (F0 m pc ls rest) := by
  obtain ⟨hc, hin, hty, hnm⟩ := hC
  have hts := S.2.2.2.2
  have hKn := hK.1.1 ci _ hc
  refine W.newcK S.1 S.2.1 S.2.2.2.1 (hts _ hcl) (hts _ hinst) (hts _ hini) rfl hdg hcells hslots hKn.2.1 rfl fun H1 kC hkC e1 z1 o1 => ?_
  exact kk H.size H1 (hM.fresh (Nat.le_refl _)) (hA _ hS.1) (hM.new (hA _ hS.1) ⟨_, hc, (u_born ty hts hin hKn hkC e1 hty).to hfs⟩ o1) ⟨Nat.le_trans hS.1 (by omega), fun x h1 h2 => (o1 x (Nat.lt_of_lt_of_le h1 hS.1)).trans (hS.2.1 x h1 h2), hS.2.2⟩
theorem z_newa (S : CallFix p m c cc nL s args zB own) (hK : zK G s) (hM : zM A G M H) (hS : va_S A H0 H locs) (hA : ∀ q : Nat, H0.size ≤ q → A q) {atype : ArrayType} (harr : Cond.arrayClass (newarray.typeOf atype) ∈ zB) {ty : FieldType} (hty : newarray.typeOf atype = ty) (t0 : Nat) {cA : ClassId} (ht : (zT G.2.2)[t0]? = some (cA, ty)) (hob : ∀ C, ty ≠ .object C)
    {n : Int32} {N' : Nat} {a0 : vp_A} (ha : ∀ cA : ClassId, vp_cell cA a0 = arrV cA N' (fun _ => defaultValue ty)) (hn : ¬ n < 0) (hN : n.toNatClampNeg = N') (hbytes : N' * componentBytes ty ≤ 536870912) (hcells : cells + 1 ≤ R.cells) (hslots : slots + N' ≤ R.slots) (hdg : decode cc pc = .ok (.newarray atype, 2))
    (kk : ∀ (q : Nat) (H1 : Heap), M q = none → A q → zM A G (zu M q (.inl (cA, a0))) H1 → va_S A H0 H1 locs →
      W p l e R s m args below meth c H1 locs (cells + 1) (slots + N') Q (F0 m (pc + 2) ls (.ref q :: rest))) : W p l e R s m args below meth c H locs cells slots Q (F0 m pc ls (.int n :: rest)) := by
  subst hty
  have hRA := (hK.1.2 t0 _ ht).2
  refine va_newaK S.1 S.2.1 (S.2.2.2.2 _ harr) rfl hdg rfl hn hN hbytes hcells hslots rfl fun H1 cB e1 z1 o1 hAr hNm => ?_
  have hcc : cB = cA := by
    revert hRA hNm hob
    generalize newarray.typeOf atype = ty
    intro hob hRA hNm
    cases ty with
    | object C => exact absurd rfl (hob C)
    | _ => exact Option.some.inj (hNm.symm.trans hRA)
  subst hcc
  exact kk H.size H1 (hM.fresh (Nat.le_refl _)) (hA _ hS.1) (hM.new (hA _ hS.1) (by show H1[H.size]? = some (vp_cell _ _); rw [ha]; exact e1) o1) ⟨Nat.le_trans hS.1 (by omega), fun x h1 h2 => (o1 x (Nat.lt_of_lt_of_le h1 hS.1)).trans (hS.2.1 x h1 h2), hS.2.2⟩
theorem z_newq (S : CallFix p m c cc nL s args zB own) (hK : zK G s) (hM : zM A G M H) (hS : va_S A H0 H locs) (hA : ∀ q : Nat, H0.size ≤ q → A q) {C : String} {index : Nat} (hclink : Cond.classLink own index C ∈ zB) (hover : Cond.arrayOver (.object C) ∈ zNest) (t0 : Nat) {cA : ClassId} (ht : (zT G.2.2)[t0]? = some (cA, .object C))
    {n : Int32} {N' : Nat} (hn : ¬ n < 0) (hN : n.toNatClampNeg = N') (hbytes : N' * 4 ≤ 536870912) (hcells : cells + 1 ≤ R.cells) (hslots : slots + N' ≤ R.slots) (hdg : decode cc pc = .ok (.anewarray index, 3))
    (kk : ∀ (q : Nat) (H1 : Heap), M q = none → A q → zM A G (zu M q (.inl (cA, N', .inr (.inr (.inr (.inr (fun _ => none))))))) H1 → va_S A H0 H1 locs →
      W p l e R s m args below meth c H1 locs (cells + 1) (slots + N') Q (F0 m (pc + 3) ls (.ref q :: rest))) : W p l e R s m args below meth c H locs cells slots Q (F0 m pc ls (.int n :: rest)) := by
  subst hN
  obtain ⟨kA0, comp0, r1, r2, r3, r4⟩ := (hK.1.2 t0 _ ht).2
  refine W.anew S.1 S.2.1 S.2.2.2.1 (S.2.2.2.2 _ hclink) (va_AO.use (hK.2 _ hover)) rfl hdg rfl hn hbytes hcells hslots fun cB kA comp f1 f2 f3 f4 => ?_
  have hcc : cB = cA := Option.some.inj (f1.symm.trans r4)
  subst hcc
  generalize hH1 : H.push ({ cls := cB, slots := Array.replicate n.toNatClampNeg .null, vm := .none } : Cell) = H1
  have z1 : H1.size = H.size + 1 := by rw [← hH1, Array.size_push]
  have e1 : H1[H.size]? = some (arrV cB n.toNatClampNeg (fun _ => .null)) := by rw [← hH1, Array.getElem?_push_size, ← arrV_new]
  have o1 : ∀ q : Nat, q < H.size → H1[q]? = H[q]? := fun q hq => by rw [← hH1, Array.getElem?_push, if_neg (Nat.ne_of_lt hq)]
  exact kk H.size H1 (hM.fresh (Nat.le_refl _)) (hA _ hS.1) (hM.new (hA _ hS.1) e1 o1) ⟨Nat.le_trans hS.1 (by omega), fun x h1 h2 => (o1 x (Nat.lt_of_lt_of_le h1 hS.1)).trans (hS.2.1 x h1 h2), hS.2.2⟩
theorem z_iald (S : CallFix p m c cc nL s args zB own) (hK : zK G s) (hM : zM A G M H) (t0 : Nat) {cA : ClassId} {n : Nat} {f : Nat → Int32} (ha : M a = some (.inl (cA, n, .inl f))) (ht : (zT G.2.2)[t0]? = some (cA, .int)) {i : Int32} (hin : vp_in i n) (hdg : decode cc pc = .ok (.iaload, 1))
    (kk : W p l e R s m args below meth c H locs cells slots Q (F0 m (pc + 1) ls (.int (f i.toNatClampNeg) :: rest))) : W p l e R s m args below meth c H locs cells slots Q (F0 m pc ls (.int i :: .ref a :: rest)) :=
  va_iald S.1 S.2.1 hK.1 (hM.one ha) 0 t0 rfl ht hin hdg kk
theorem z_lald (S : CallFix p m c cc nL s args zB own) (hK : zK G s) (hM : zM A G M H) (t0 : Nat) {cA : ClassId} {n : Nat} {f : Nat → Int64} (ha : M a = some (.inl (cA, n, .inr (.inl f)))) (ht : (zT G.2.2)[t0]? = some (cA, .long)) {i : Int32} (hin : vp_in i n) (hdg : decode cc pc = .ok (.laload, 1))
    (kk : W p l e R s m args below meth c H locs cells slots Q (F0 m (pc + 1) ls (.long (f i.toNatClampNeg) :: rest))) : W p l e R s m args below meth c H locs cells slots Q (F0 m pc ls (.int i :: .ref a :: rest)) :=
  va_lald S.1 S.2.1 hK.1 (hM.one ha) 0 t0 rfl ht hin hdg kk
theorem z_zald (S : CallFix p m c cc nL s args zB own) (hK : zK G s) (hM : zM A G M H) (t0 : Nat) {cA : ClassId} {n : Nat} {f : Nat → Int32} (ha : M a = some (.inl (cA, n, .inl f))) (ht : (zT G.2.2)[t0]? = some (cA, .boolean)) {i : Int32} (hin : vp_in i n) (hdg : decode cc pc = .ok (.baload, 1))
    (kk : W p l e R s m args below meth c H locs cells slots Q (F0 m (pc + 1) ls (.int (f i.toNatClampNeg) :: rest))) : W p l e R s m args below meth c H locs cells slots Q (F0 m pc ls (.int i :: .ref a :: rest)) :=
  va_zald S.1 S.2.1 hK.1 (hM.one ha) 0 t0 rfl ht hin hdg kk
theorem z_aald (S : CallFix p m c cc nL s args zB own) (hK : zK G s) (hM : zM A G M H) (t0 : Nat) {cA : ClassId} {C : String} {n : Nat} {f : Nat → Option Nat} (ha : M a = some (.inl (cA, n, .inr (.inr (.inr (.inr f)))))) (ht : (zT G.2.2)[t0]? = some (cA, .object C)) {i : Int32} (hin : vp_in i n) (hdg : decode cc pc = .ok (.aaload, 1))
    (kk : W p l e R s m args below meth c H locs cells slots Q (F0 m (pc + 1) ls (va_rf (f i.toNatClampNeg) :: rest))) : W p l e R s m args below meth c H locs cells slots Q (F0 m pc ls (.int i :: .ref a :: rest)) :=
  va_aldq S.1 S.2.1 hK.1 (hM.one ha) 0 t0 rfl ht hin hdg kk
theorem z_alen (S : CallFix p m c cc nL s args zB own) (hK : zK G s) (hM : zM A G M H) (t0 : Nat) {cA : ClassId} {x : vp_A} (ha : M a = some (.inl (cA, x))) {ty : FieldType} (ht : (zT G.2.2)[t0]? = some (cA, ty)) {v : Int32} (hv : Int32.ofNat x.1 = v) (hdg : decode cc pc = .ok (.arraylength, 1))
    (kk : W p l e R s m args below meth c H locs cells slots Q (F0 m (pc + 1) ls (.int v :: rest))) : W p l e R s m args below meth c H locs cells slots Q (F0 m pc ls (.ref a :: rest)) :=
  va_alen S.1 S.2.1 hK.1 (hM.one ha) 0 t0 rfl ht hv hdg kk
theorem z_iast (S : CallFix p m c cc nL s args zB own) (hK : zK G s) (hM : zM A G M H) (hS : va_S A H0 H locs) (t0 : Nat) {cA : ClassId} {n : Nat} {f : Nat → Int32} (ha : M a = some (.inl (cA, n, .inl f))) (ht : (zT G.2.2)[t0]? = some (cA, .int)) {i x : Int32} (hin : vp_in i n) (hdg : decode cc pc = .ok (.iastore, 1))
    (kk : ∀ (H1 : Heap) (locs1 : List Loc), zM A G (zu M a (.inl (cA, n, .inl (upd f i.toNatClampNeg x)))) H1 → va_S A H0 H1 locs1 → W p l e R s m args below meth c H1 locs1 cells slots Q (F0 m (pc + 1) ls rest)) : W p l e R s m args below meth c H locs cells slots Q (F0 m pc ls (.int x :: .int i :: .ref a :: rest)) := by
  obtain ⟨hAa, hcell⟩ := hM a _ ha
  refine W.iast S.1 S.2.1 hcell ((hK.1.2 t0 _ ht).1 n (fun j => .int (f j))) (fun q => by cases q) (by show ¬ (i < 0 ∨ (arrV _ _ _).slots.size ≤ _); rw [arrV_size]; exact hin) rfl rfl hdg fun H1 e z oq => ?_
  refine kk H1 _ (hM.put hAa ?_ oq) (hS.put z oq hAa)
  show H1[a]? = some (vp_cell _ _)
  rw [e, vp_cell_i, vp_cell_i, arrV_store]
  congr 2
  funext q
  by_cases hq : q = i.toNatClampNeg
  · subst hq; simp [updV, upd]
  · simp [updV, upd, hq]
theorem z_last (S : CallFix p m c cc nL s args zB own) (hK : zK G s) (hM : zM A G M H) (hS : va_S A H0 H locs) (t0 : Nat) {cA : ClassId} {n : Nat} {f : Nat → Int64} (ha : M a = some (.inl (cA, n, .inr (.inl f)))) (ht : (zT G.2.2)[t0]? = some (cA, .long)) {i : Int32} {x : Int64} (hin : vp_in i n) (hdg : decode cc pc = .ok (.lastore, 1))
    (kk : ∀ (H1 : Heap) (locs1 : List Loc), zM A G (zu M a (.inl (cA, n, .inr (.inl (vp_updL f i.toNatClampNeg x))))) H1 → va_S A H0 H1 locs1 → W p l e R s m args below meth c H1 locs1 cells slots Q (F0 m (pc + 1) ls rest)) : W p l e R s m args below meth c H locs cells slots Q (F0 m pc ls (.long x :: .int i :: .ref a :: rest)) := by
  obtain ⟨hAa, hcell⟩ := hM a _ ha
  refine W.last S.1 S.2.1 hcell ((hK.1.2 t0 _ ht).1 n (fun j => .long (f j))) (fun q => by cases q) (by show ¬ (i < 0 ∨ (arrV _ _ _).slots.size ≤ _); rw [arrV_size]; exact hin) rfl rfl hdg fun H1 e z oq => ?_
  refine kk H1 _ (hM.put hAa ?_ oq) (hS.put z oq hAa)
  show H1[a]? = some (vp_cell _ _)
  rw [e, vp_cell_l, vp_cell_l, arrV_store]
  congr 2
  funext q
  by_cases hq : q = i.toNatClampNeg
  · subst hq; simp [updV, vp_updL]
  · simp [updV, vp_updL, hq]
theorem z_zast (S : CallFix p m c cc nL s args zB own) (hK : zK G s) (hM : zM A G M H) (hS : va_S A H0 H locs) (t0 : Nat) {cA : ClassId} {n : Nat} {f : Nat → Int32} (ha : M a = some (.inl (cA, n, .inl f))) (ht : (zT G.2.2)[t0]? = some (cA, .boolean)) {i x : Int32} (hin : vp_in i n) (hnx : narrow .boolean (.int x) = .int x) (hdg : decode cc pc = .ok (.bastore, 1))
    (kk : ∀ (H1 : Heap) (locs1 : List Loc), zM A G (zu M a (.inl (cA, n, .inl (upd f i.toNatClampNeg x)))) H1 → va_S A H0 H1 locs1 → W p l e R s m args below meth c H1 locs1 cells slots Q (F0 m (pc + 1) ls rest)) : W p l e R s m args below meth c H locs cells slots Q (F0 m pc ls (.int x :: .int i :: .ref a :: rest)) := by
  obtain ⟨hAa, hcell⟩ := hM a _ ha
  refine W.zast S.1 S.2.1 hcell ((hK.1.2 t0 _ ht).1 n (fun j => .int (f j))) (fun q => by cases q) (by show ¬ (i < 0 ∨ (arrV _ _ _).slots.size ≤ _); rw [arrV_size]; exact hin) rfl rfl hdg fun H1 e z oq => ?_
  rw [hnx] at e
  refine kk H1 _ (hM.put hAa ?_ oq) (hS.put z oq hAa)
  show H1[a]? = some (vp_cell _ _)
  rw [e, vp_cell_i, vp_cell_i, arrV_store]
  congr 2
  funext q
  by_cases hq : q = i.toNatClampNeg
  · subst hq; simp [updV, upd]
  · simp [updV, upd, hq]
theorem z_aast (S : CallFix p m c cc nL s args zB own) (hK : zK G s) (hM : zM A G M H) (hS : va_S A H0 H locs) (t0 : Nat) {ci : Nat} {cA : ClassId} {r : vw_C} {n v : Nat} {vs : List Value} {f : Nat → Option Nat} (ha : M a = some (.inl (cA, n, .inr (.inr (.inr (.inr f)))))) (ht : (zT G.2.2)[t0]? = some (cA, .object r.1)) (hv : M v = some (.inr (ci, vs))) (hc : vwCl[ci]? = some r) {i : Int32} (hin : vp_in i n) (hdg : decode cc pc = .ok (.aastore, 1))
    (kk : ∀ (H1 : Heap) (locs1 : List Loc), zM A G (zu M a (.inl (cA, n, .inr (.inr (.inr (.inr (va_up f i.toNatClampNeg (some v)))))))) H1 → va_S A H0 H1 locs1 → W p l e R s m args below meth c H1 locs1 cells slots Q (F0 m (pc + 1) ls rest)) : W p l e R s m args below meth c H locs cells slots Q (F0 m pc ls (.ref v :: .int i :: .ref a :: rest)) := by
  have hlt : i.toNatClampNeg < n := Nat.not_le.mp fun q => hin (Or.inr q)
  have h0 : ¬ i < 0 := fun q => hin (Or.inl q)
  obtain ⟨hAa, hcell⟩ := hM a _ ha
  obtain ⟨-, r', hr', cellV, g1, g2, g3, -⟩ := hM v _ hv
  have hcls := (hK.1.1 ci r hc).2
  obtain ⟨kA, comp, k1, k2, k3, -⟩ := (hK.1.2 t0 _ ht).2
  have hcomp : comp = G.1 ci := Option.some.inj (k3.symm.trans hcls.1)
  subst hcomp
  obtain ⟨kC, hkC, -⟩ := hcls.2
  refine W.aast S.1 S.2.1 hcell (fun q h => by cases h) (fun h => by cases h) k1 k2 rfl hkC ⟨h0, by show _ < (arrV _ _ _).slots.size; rw [arrV_size]; exact hlt⟩ g1 (fun q h => by rw [g3] at h; cases h) (by rw [g2]; exact hkC) (by rw [g2]; exact va_assign hcls) rfl rfl hdg fun H1 e z oq => ?_
  refine kk H1 _ (hM.put hAa ?_ oq) (hS.put z oq hAa)
  show H1[a]? = some (vp_cell _ _)
  rw [e, vp_cell_q, vp_cell_q, arrV_store]
  congr 2
  funext q
  by_cases hq : q = i.toNatClampNeg
  · subst hq; simp [updV, va_up, va_rf]
  · simp [updV, va_up, hq]
theorem z_objInit (S : CallFix p m c cc nL s args zB own) (hn : ls.size = nL) {idx : Nat} (hl : Cond.methodLink own idx Lib.objectInit ∈ zB) (hi : Cond.instanceMethod Lib.objectInit ∈ zB) (hcd : Cond.code Lib.objectInit ⟨#[0xb1]⟩ 1 none ∈ zB) (hdg : decode cc pc = .ok (.invokespecial idx, 3)) (hframes : 1 ≤ R.frames) (hlocals : (rest.map fun v => v.category).sum + 12 ≤ R.locals)
    (kk : W p l e R s m args below meth c H locs cells slots Q (F0 m (pc + 3) ls rest)) : W p l e R s m args below meth c H locs cells slots Q (F0 m pc ls (.ref a :: rest)) :=
  W.objInit S.1 S.2.1 S.2.2.2.1 (S.2.2.2.2 _ hl) (S.2.2.2.2 _ hi) (S.2.2.2.2 _ hcd) rfl (by rw [S.2.2.1]; exact hn) rfl hdg hframes (by show 2 * 0 + _ + 12 ≤ _; omega) kk
theorem z_call {mc ms : Nat} {st0 : List Value} {av : Array Value} {post : Option Value → zMap → Prop} (hr : va_Run p l e R s m args below meth c H locs cells slots mc ms (F0 m pc ls st0) rest (zQ A G post av) A) (hS : va_S A H0 H locs)
    (kk : ∀ (r : Option Value) (M1 : zMap) (H1 : Heap) (locs1 : List Loc), post r M1 → zM A G M1 H1 → va_S A H0 H1 locs1 → W p l e R s m args below meth c H1 locs1 (cells + mc) (slots + ms) Q (F0 m (pc + 3) ls (r.toList ++ rest))) : W p l e R s m args below meth c H locs cells slots Q (F0 m pc ls st0) := by
  intro T hT X
  obtain ⟨v, st₀, t, T', L, h0, X', hL, e1, e2, ⟨⟨r, M1, hv, hp, hM1⟩, hz, hk⟩, st⟩ := hr T hT X
  cases hv
  rw [h0] at hz hk
  obtain ⟨t2, a1, b1⟩ := kk v M1 T'.heap (locs ++ L) hp (by rw [e1]; exact hM1)
    ⟨Nat.le_trans hS.1 (by rw [e1]; exact hz), fun q h1 h2 => by rw [e1, hk q (Nat.lt_of_lt_of_le h1 hS.1) h2]; exact hS.2.1 q h1 h2, fun q hq => by
      rcases List.mem_append.mp hq with h | h
      · exact hS.2.2 q h
      · exact hL q h⟩ T' rfl X'
  exact ⟨t2, st t2 a1, b1⟩
theorem zCallB {y : MethodName} {bytes : ByteArray} {maxL index n : Nat} {ret : Option FieldType} {rm : Room} (S : CallFix p m c cc nL s args zB own) (ok : zOK y bytes maxL ret n) (hl : Cond.methodLink own index y ∈ zB) (hR : rm.frames + 1 ≤ R.frames ∧ 8 + (maxL + 11) + rm.locals ≤ R.locals) : CallB R s args own index y bytes maxL ret (zw y bytes maxL ret) rm rm.cells rm.slots n :=
  callB_of n S.2.2.2.2 (zgood ok.1) rfl rfl rfl (S.2.2.2.2 _ ok.2.1) (S.2.2.2.2 _ hl) ok.2.2 hR
theorem zPre {av : List Value} (hK : zK G s) (hM : zM A G M H) (hS : va_S A H0 H locs) (hA : ∀ q : Nat, H0.size ≤ q → A q) (U : State) (hU : U.heap = H) (hW : s.WarmedH U.vm) : zPc av A G M av.toArray U :=
  ⟨rfl, hK.warm hW, by rw [hU]; exact hM, fun q h => hA q (Nat.le_trans hS.1 (by rw [← hU]; exact h))⟩
theorem z_callV {y : MethodName} {bytes : ByteArray} {maxL index n : Nat} {ret : Option FieldType} {rm : Room} {b : Nat} {As st0 : List Value} {post : Option Value → zMap → Prop} (S : CallFix p m c cc nL s args zB own) (hm : zMet l y bytes maxL ret rm (.ref b :: As) A G M post) (ok : zOK y bytes maxL ret n) (hl : Cond.methodLink own index y ∈ zB) (hi : Cond.instanceMethod y ∈ zB) (hse : Cond.selects y.cls y y ∈ zB) (hR : rm.frames + 1 ≤ R.frames ∧ 8 + (maxL + 11) + rm.locals ≤ R.locals) (hK : zK G s) (hM : zM A G M H) (hS : va_S A H0 H locs) (hA : ∀ q : Nat, H0.size ≤ q → A q)
    {ci N : Nat} {T : u_T} {fs : List Value} (he : M b = some (.inr (ci, fs))) (hc : vwCl[ci]? = some (y.cls, T, N)) (hn : As.length = n) (hsz : ls.size = nL) (hst : st0 = As.reverse ++ .ref b :: rest) (hw : (rest.map fun v => v.category).sum ≤ 8) (hdg : decode cc pc = .ok (.invokevirtual index, 3)) (hf : cells + rm.cells ≤ R.cells ∧ slots + rm.slots ≤ R.slots)
    (kk : ∀ (r : Option Value) (M1 : zMap) (H1 : Heap) (locs1 : List Loc), post r M1 → zM A G M1 H1 → va_S A H0 H1 locs1 → W p l e R s m args below meth c H1 locs1 (cells + rm.cells) (slots + rm.slots) Q (F0 m (pc + 3) ls (r.toList ++ rest))) : W p l e R s m args below meth c H locs cells slots Q (F0 m pc ls st0) :=
  z_call (va_runV S hm ⟨zCallB S ok hl hR, S.2.2.2.2 _ hi, S.2.2.2.2 _ hse⟩ ⟨zPc.blind, va_recv hK.1 (hM.one he) hc (q0 := 0) rfl, zPre hK hM hS hA⟩ rfl hn hsz hst (lv_room (m := m) (pc := pc) (ls := ls) (rest := st0) hw) hdg hf) hS kk
theorem z_callS {y : MethodName} {bytes : ByteArray} {maxL index n : Nat} {ret : Option FieldType} {rm : Room} {As st0 : List Value} {post : Option Value → zMap → Prop} (S : CallFix p m c cc nL s args zB own) (hm : zMet l y bytes maxL ret rm As A G M post) (ok : zOK y bytes maxL ret n) (hl : Cond.methodLink own index y ∈ zB) (hstat : Cond.static y ∈ zB) (hR : rm.frames + 1 ≤ R.frames ∧ 8 + (maxL + 11) + rm.locals ≤ R.locals) (hK : zK G s) (hM : zM A G M H) (hS : va_S A H0 H locs) (hA : ∀ q : Nat, H0.size ≤ q → A q)
    (hn : As.length = n) (hsz : ls.size = nL) (hst : st0 = As.reverse ++ rest) (hw : (rest.map fun v => v.category).sum ≤ 8) (hdg : decode cc pc = .ok (.invokestatic index, 3)) (hf : cells + rm.cells ≤ R.cells ∧ slots + rm.slots ≤ R.slots)
    (kk : ∀ (r : Option Value) (M1 : zMap) (H1 : Heap) (locs1 : List Loc), post r M1 → zM A G M1 H1 → va_S A H0 H1 locs1 → W p l e R s m args below meth c H1 locs1 (cells + rm.cells) (slots + rm.slots) Q (F0 m (pc + 3) ls (r.toList ++ rest))) : W p l e R s m args below meth c H locs cells slots Q (F0 m pc ls st0) :=
  z_call (va_runS S hm ⟨zCallB S ok hl hR, S.2.2.2.2 _ hstat⟩ ⟨zPc.blind, zPre hK hM hS hA⟩ rfl hn hsz hst (lv_room (m := m) (pc := pc) (ls := ls) (rest := st0) hw) hdg hf) hS kk
theorem z_callI {y : MethodName} {bytes : ByteArray} {maxL index n : Nat} {rm : Room} {b : Nat} {As st0 : List Value} {post : Option Value → zMap → Prop} (S : CallFix p m c cc nL s args zB own) (hm : zMet l y bytes maxL none rm (.ref b :: As) A G M post) (ok : zOK y bytes maxL none n) (hl : Cond.methodLink own index y ∈ zB) (hi : Cond.instanceMethod y ∈ zB) (hy : y.name = "<init>") (hR : rm.frames + 1 ≤ R.frames ∧ 8 + (maxL + 11) + rm.locals ≤ R.locals) (hK : zK G s) (hM : zM A G M H) (hS : va_S A H0 H locs) (hA : ∀ q : Nat, H0.size ≤ q → A q)
    (hn : As.length = n) (hsz : ls.size = nL) (hst : st0 = As.reverse ++ .ref b :: rest) (hw : (rest.map fun v => v.category).sum ≤ 8) (hdg : decode cc pc = .ok (.invokespecial index, 3)) (hf : cells + rm.cells ≤ R.cells ∧ slots + rm.slots ≤ R.slots)
    (kk : ∀ (r : Option Value) (M1 : zMap) (H1 : Heap) (locs1 : List Loc), post r M1 → zM A G M1 H1 → va_S A H0 H1 locs1 → W p l e R s m args below meth c H1 locs1 (cells + rm.cells) (slots + rm.slots) Q (F0 m (pc + 3) ls (r.toList ++ rest))) : W p l e R s m args below meth c H locs cells slots Q (F0 m pc ls st0) :=
  z_call (va_runI S hm ⟨zCallB S ok hl hR, hy, S.2.2.2.2 _ hi⟩ ⟨zPc.blind, zPre hK hM hS hA⟩ rfl hn hsz hst (lv_room (m := m) (pc := pc) (ls := ls) (rest := st0) hw) hdg hf) hS kk
theorem z_callIN {y : MethodName} {bytes : ByteArray} {host : String} {maxL index n : Nat} {rm : Room} {b : Nat} {As st0 : List Value} {post : Option Value → zMap → Prop} (S : CallFix p m c cc nL s args zB own) (hm : zMet l y bytes maxL none rm (.ref b :: As) A G M post) (ok : zOK y bytes maxL none n) (hl : Cond.methodLinkNest own index y host ∈ zNest) (hi : Cond.instanceMethod y ∈ zB) (hy : y.name = "<init>") (hR : rm.frames + 1 ≤ R.frames ∧ 8 + (maxL + 11) + rm.locals ≤ R.locals) (hK : zK G s) (hM : zM A G M H) (hS : va_S A H0 H locs) (hA : ∀ q : Nat, H0.size ≤ q → A q)
    (hn : As.length = n) (hsz : ls.size = nL) (hst : st0 = As.reverse ++ .ref b :: rest) (hw : (rest.map fun v => v.category).sum ≤ 8) (hdg : decode cc pc = .ok (.invokespecial index, 3)) (hf : cells + rm.cells ≤ R.cells ∧ slots + rm.slots ≤ R.slots)
    (kk : ∀ (r : Option Value) (M1 : zMap) (H1 : Heap) (locs1 : List Loc), post r M1 → zM A G M1 H1 → va_S A H0 H1 locs1 → W p l e R s m args below meth c H1 locs1 (cells + rm.cells) (slots + rm.slots) Q (F0 m (pc + 3) ls (r.toList ++ rest))) : W p l e R s m args below meth c H locs cells slots Q (F0 m pc ls st0) :=
  z_call (va_runIN S hm ⟨va_cnB n S.2.2.2.2 (zgood ok.1) rfl rfl rfl (hK.2 _ hl) (S.2.2.2.2 _ ok.2.1) ok.2.2 hR, hy, S.2.2.2.2 _ hi⟩ ⟨zPc.blind, zPre hK hM hS hA⟩ rfl hn hsz hst (lv_room (m := m) (pc := pc) (ls := ls) (rest := st0) hw) hdg hf) hS kk
theorem z_qq {post : Option Value → zMap → Prop} {r : Option Value} (hM : zM A G M H) (hS : va_S A s.heap H locs) (hp : post r M) : ∀ t : State, t.heap = H → s.WarmedH t.vm → zQ A G post args s (.returned r) t :=
  fun t ht _ => ⟨⟨r, M, rfl, hp, by rw [ht]; exact hM⟩, hS.F ht⟩
theorem z_iret (S : CallFix p m c cc nL s args zB own) {post : Option Value → zMap → Prop} {mc ms : Nat} {v : Int32} (hr : meth.sig.returnType = some .int) (hlocks : meth.locks = false) (hM : zM A G M H) (hS : va_S A s.heap H locs) (hp : post (some (.int v)) M) (hc : cells ≤ mc) (hs : slots ≤ ms) (hdg : decode cc pc = .ok (.ireturn, 1)) : W p l e R s m args below meth c H locs cells slots (MQ below (zQ A G post) args s mc ms A) (F0 m pc ls [.int v]) :=
  W.widen hc hs (W.iret S.1 S.2.1 hr (z_qq hM hS hp) hS.2.2 hdg hlocks)
theorem z_zret (S : CallFix p m c cc nL s args zB own) {post : Option Value → zMap → Prop} {mc ms : Nat} {v : Int32} (hr : meth.sig.returnType = some .boolean) (hlocks : meth.locks = false) (hn : narrow .boolean (.int v) = .int v) (hM : zM A G M H) (hS : va_S A s.heap H locs) (hp : post (some (.int v)) M) (hc : cells ≤ mc) (hs : slots ≤ ms) (hdg : decode cc pc = .ok (.ireturn, 1)) : W p l e R s m args below meth c H locs cells slots (MQ below (zQ A G post) args s mc ms A) (F0 m pc ls [.int v]) :=
  W.widen hc hs (W.zret S.1 S.2.1 hr hn (z_qq hM hS hp) hS.2.2 hdg hlocks)
theorem z_lret (S : CallFix p m c cc nL s args zB own) {post : Option Value → zMap → Prop} {mc ms : Nat} {v : Int64} (hr : meth.sig.returnType = some .long) (hlocks : meth.locks = false) (hM : zM A G M H) (hS : va_S A s.heap H locs) (hp : post (some (.long v)) M) (hc : cells ≤ mc) (hs : slots ≤ ms) (hdg : decode cc pc = .ok (.lreturn, 1)) : W p l e R s m args below meth c H locs cells slots (MQ below (zQ A G post) args s mc ms A) (F0 m pc ls [.long v]) :=
  W.widen hc hs (W.lret S.1 S.2.1 hr (z_qq hM hS hp) hS.2.2 hdg hlocks)
theorem z_vret (S : CallFix p m c cc nL s args zB own) {post : Option Value → zMap → Prop} {mc ms : Nat} (hr : meth.sig.returnType = none) (hlocks : meth.locks = false) (hM : zM A G M H) (hS : va_S A s.heap H locs) (hp : post none M) (hc : cells ≤ mc) (hs : slots ≤ ms) (hdg : decode cc pc = .ok (.return_, 1)) : W p l e R s m args below meth c H locs cells slots (MQ below (zQ A G post) args s mc ms A) (F0 m pc ls []) :=
  W.widen hc hs (W.vret S.1 S.2.1 hr (z_qq hM hS hp) hS.2.2 hdg hlocks)
theorem z_aret (S : CallFix p m c cc nL s args zB own) {post : Option Value → zMap → Prop} {mc ms : Nat} {C : String} {v : Value} (hr : meth.sig.returnType = some (.object C)) (hlocks : meth.locks = false) (hv : v = .null ∨ ∃ a, v = .ref a) (hM : zM A G M H) (hS : va_S A s.heap H locs) (hp : post (some v) M) (hc : cells ≤ mc) (hs : slots ≤ ms) (hdg : decode cc pc = .ok (.areturn, 1)) : W p l e R s m args below meth c H locs cells slots (MQ below (zQ A G post) args s mc ms A) (F0 m pc ls [v]) :=
  W.widen hc hs (W.aret S.1 S.2.1 hr (Or.inl ⟨C, rfl⟩) hv (z_qq hM hS hp) hS.2.2 hdg hlocks)
end ZW
def zb (P : Prop) [Decidable P] : Int32 := if P then 1 else 0
theorem zb_t {P : Prop} [Decidable P] (h : P) : zb P = 1 := if_pos h
theorem zb_f {P : Prop} [Decidable P] (h : ¬ P) : zb P = 0 := if_neg h
theorem zb_0 {P : Prop} [Decidable P] : (zb P = 0) ↔ ¬ P := by
  by_cases h : P
  · rw [zb_t h]; exact ⟨fun q => absurd q (by decide), fun q => absurd h q⟩
  · rw [zb_f h]; exact ⟨fun _ => h, fun _ => rfl⟩
theorem zb_0n {P : Prop} [Decidable P] : (¬ zb P = 0) ↔ P := by
  rw [zb_0]; exact Decidable.not_not
theorem zb_c {P P' : Prop} [Decidable P] [Decidable P'] (h : P ↔ P') : zb P = zb P' := by
  by_cases hp : P
  · rw [zb_t hp, zb_t (h.mp hp)]
  · rw [zb_f hp, zb_f (fun q => hp (h.mpr q))]
def zbool (x : Int32) : Prop := x = 0 ∨ x = 1
theorem zb_bool {P : Prop} [Decidable P] : zbool (zb P) := by
  by_cases h : P
  · exact Or.inr (zb_t h)
  · exact Or.inl (zb_f h)
theorem z_nb {x : Int32} (h : zbool x) : narrow .boolean (.int x) = .int x := by rcases h with rfl | rfl <;> rfl
theorem z_fb {x : Int32} (h : zbool x) : fits .boolean (.int x) = true := by rcases h with rfl | rfl <;> rfl
theorem zbool_1 {x : Int32} (h : zbool x) (hn : ¬ x = 0) : x = 1 := h.resolve_left hn
theorem z_nq (C : String) (r : Option Nat) : narrow (.object C) (va_rf r) = va_rf r := by cases r <;> rfl
theorem z_fq (C : String) (r : Option Nat) : fits (.object C) (va_rf r) = true := by cases r <;> rfl
theorem z_cat1 (r : Option Nat) : (va_rf r).category = 1 := by cases r <;> rfl
theorem z_rf (r : Option Nat) : va_rf r = .null ∨ ∃ a, va_rf r = .ref a := by
  cases r with
  | none => exact Or.inl rfl
  | some a => exact Or.inr ⟨a, rfl⟩
section ZQ
variable {p : Program} {l : Launch} {e : Env} {R : Room} {s : State} {m : MethodId} {args : Array Value} {below : List Frame} {meth : Method} {c : Code} {H : Heap} {locs : List Loc} {cells slots : Nat} {Q : State → Prop}
variable {cc : ByteArray} {pc nL : Nat} {ls : Array Slot} {rest : List Value}
theorem z_aload_nq (hexec : p.tables.exec = Jvm.exec) (hb : c.code = cc) {k : Fin 4} {i : Nat} {r : Option Nat} (hdg : decode cc pc = .ok (.aload_n k, 1)) (hi : (k : Nat) = i) (hl : ls[i]? = some (.val (va_rf r)))
    (kk : W p l e R s m args below meth c H locs cells slots Q (F0 m (pc + 1) ls (va_rf r :: rest))) : W p l e R s m args below meth c H locs cells slots Q (F0 m pc ls rest) := by
  cases r with
  | none => exact lv_aload_nN hexec hb hdg hi hl kk
  | some a => exact lv_aload_n hexec hb hdg hi hl kk
theorem z_aloadq (hexec : p.tables.exec = Jvm.exec) (hb : c.code = cc) {i : Nat} {r : Option Nat} (hdg : decode cc pc = .ok (.aload i, 2)) (hl : ls[i]? = some (.val (va_rf r)))
    (kk : W p l e R s m args below meth c H locs cells slots Q (F0 m (pc + 2) ls (va_rf r :: rest))) : W p l e R s m args below meth c H locs cells slots Q (F0 m pc ls rest) := by
  cases r with
  | none => exact lv_aloadN hexec hb hdg hl kk
  | some a => exact lv_aload hexec hb hdg hl kk
theorem z_astore_nq (hexec : p.tables.exec = Jvm.exec) (hb : c.code = cc) {k : Fin 4} {i nL : Nat} {r : Option Nat} {lv lv' : List (Nat × Value)} (hdg : decode cc pc = .ok (.astore_n k, 1)) (hi : (k : Nat) = i) (h : lv_has ls nL lv) (hn : i < nL) (hl : (i, va_rf r) :: lv.filter (fun q => !(q.1 == i) && !(q.1 + 1 == i && q.2.category == 2)) = lv')
    (kk : ∀ ls' : Array Slot, lv_has ls' nL lv' → W p l e R s m args below meth c H locs cells slots Q (F0 m (pc + 1) ls' rest)) : W p l e R s m args below meth c H locs cells slots Q (F0 m pc ls (va_rf r :: rest)) := by
  cases r with
  | none => exact lv_astore_nN hexec hb hdg hi h hn hl kk
  | some a => exact lv_astore_n hexec hb hdg hi h hn hl kk
theorem z_astoreq (hexec : p.tables.exec = Jvm.exec) (hb : c.code = cc) {i nL : Nat} {r : Option Nat} {lv lv' : List (Nat × Value)} (hdg : decode cc pc = .ok (.astore i, 2)) (h : lv_has ls nL lv) (hn : i < nL) (hl : (i, va_rf r) :: lv.filter (fun q => !(q.1 == i) && !(q.1 + 1 == i && q.2.category == 2)) = lv')
    (kk : ∀ ls' : Array Slot, lv_has ls' nL lv' → W p l e R s m args below meth c H locs cells slots Q (F0 m (pc + 2) ls' rest)) : W p l e R s m args below meth c H locs cells slots Q (F0 m pc ls (va_rf r :: rest)) := by
  cases r with
  | none => exact lv_astoreN hexec hb hdg h hn hl kk
  | some a => exact lv_astore hexec hb hdg h hn hl kk
theorem z_loop {σ : Type} (I : σ → Array Slot → Heap → List Loc → Prop) (mu : σ → Nat) (x0 : σ) (h0 : I x0 ls H locs)
    (step : ∀ (x : σ) (ls : Array Slot) (H : Heap) (locs : List Loc), I x ls H locs → (∀ (x' : σ) (ls' : Array Slot) (H' : Heap) (locs' : List Loc), I x' ls' H' locs' → mu x' < mu x → W p l e R s m args below meth c H' locs' cells slots Q (F0 m pc ls' rest)) → W p l e R s m args below meth c H locs cells slots Q (F0 m pc ls rest)) :
    W p l e R s m args below meth c H locs cells slots Q (F0 m pc ls rest) := by
  have key : ∀ (n : Nat) (x : σ) (ls : Array Slot) (H : Heap) (locs : List Loc), mu x < n → I x ls H locs → W p l e R s m args below meth c H locs cells slots Q (F0 m pc ls rest) := by
    intro n
    induction n with
    | zero => intro x ls H locs h; omega
    | succ n ih => intro x ls H locs hn hI; exact step x ls H locs hI (fun x' ls' H' locs' h' hm => ih x' ls' H' locs' (by omega) h')
  exact key _ x0 ls H locs (Nat.lt_succ_self _) h0
end ZQ
section ZL
variable {p : Program} {l : Launch} {e : Env} {R : Room} {s : State} {m : MethodId} {args : Array Value} {below : List Frame} {meth : Method} {c : Code} {H : Heap} {locs : List Loc} {cells slots : Nat} {Q : State → Prop}
variable {cc : ByteArray} {pc nL : Nat} {ls : Array Slot} {rest : List Value} {A A0 : Nat → Prop} {G : zG} {M : zMap} {a : Nat} {H0 : Heap} {own : String}
theorem z_callX {mc ms : Nat} {st0 : List Value} {av : Array Value} {post : Option Value → zMap → Prop} (hr : va_Run p l e R s m args below meth c H locs cells slots mc ms (F0 m pc ls st0) rest (zQ A G post av) A) (hS : va_S A0 H0 H locs) (hAA : ∀ q, A q → A0 q)
    (kk : ∀ (r : Option Value) (M1 : zMap) (H1 : Heap) (locs1 : List Loc), post r M1 → zM A G M1 H1 → H.size ≤ H1.size → (∀ q : Nat, q < H.size → ¬ A q → H1[q]? = H[q]?) → va_S A0 H0 H1 locs1 → W p l e R s m args below meth c H1 locs1 (cells + mc) (slots + ms) Q (F0 m (pc + 3) ls (r.toList ++ rest))) : W p l e R s m args below meth c H locs cells slots Q (F0 m pc ls st0) := by
  intro T hT X
  obtain ⟨v, st₀, t, T', L, h0, X', hL, e1, e2, ⟨⟨r, M1, hv, hp, hM1⟩, hz, hk⟩, st⟩ := hr T hT X
  cases hv
  rw [h0] at hz hk
  obtain ⟨t2, a1, b1⟩ := kk v M1 T'.heap (locs ++ L) hp (by rw [e1]; exact hM1) (by rw [e1]; exact hz) (fun q h1 h2 => by rw [e1]; exact hk q h1 h2)
    ⟨Nat.le_trans hS.1 (by rw [e1]; exact hz), fun q h1 h2 => by rw [e1, hk q (Nat.lt_of_lt_of_le h1 hS.1) (fun z => h2 (hAA q z))]; exact hS.2.1 q h1 h2, fun q hq => by
      rcases List.mem_append.mp hq with h | h
      · exact hS.2.2 q h
      · exact hAA _ (hL q h)⟩ T' rfl X'
  exact ⟨t2, st t2 a1, b1⟩
theorem zPreX {av : List Value} (hK : zK G s) (hM : zM A G M H) (hA : ∀ q : Nat, H.size ≤ q → A q) (U : State) (hU : U.heap = H) (hW : s.WarmedH U.vm) : zPc av A G M av.toArray U :=
  ⟨rfl, hK.warm hW, by rw [hU]; exact hM, fun q h => hA q (by rw [← hU]; exact h)⟩
theorem z_callVX {y : MethodName} {bytes : ByteArray} {maxL index n : Nat} {ret : Option FieldType} {rm : Room} {b : Nat} {As st0 : List Value} {post : Option Value → zMap → Prop} (S : CallFix p m c cc nL s args zB own) (hm : zMet l y bytes maxL ret rm (.ref b :: As) A G M post) (ok : zOK y bytes maxL ret n) (hl : Cond.methodLink own index y ∈ zB) (hi : Cond.instanceMethod y ∈ zB) (hse : Cond.selects y.cls y y ∈ zB) (hR : rm.frames + 1 ≤ R.frames ∧ 8 + (maxL + 11) + rm.locals ≤ R.locals) (hK : zK G s) (hM : zM A G M H) (hS : va_S A0 H0 H locs) (hA : ∀ q : Nat, H.size ≤ q → A q) (hAA : ∀ q, A q → A0 q)
    {ci N : Nat} {T : u_T} {fs : List Value} (he : M b = some (.inr (ci, fs))) (hc : vwCl[ci]? = some (y.cls, T, N)) (hn : As.length = n) (hsz : ls.size = nL) (hst : st0 = As.reverse ++ .ref b :: rest) (hw : (rest.map fun v => v.category).sum ≤ 8) (hdg : decode cc pc = .ok (.invokevirtual index, 3)) (hf : cells + rm.cells ≤ R.cells ∧ slots + rm.slots ≤ R.slots)
    (kk : ∀ (r : Option Value) (M1 : zMap) (H1 : Heap) (locs1 : List Loc), post r M1 → zM A G M1 H1 → H.size ≤ H1.size → (∀ q : Nat, q < H.size → ¬ A q → H1[q]? = H[q]?) → va_S A0 H0 H1 locs1 → W p l e R s m args below meth c H1 locs1 (cells + rm.cells) (slots + rm.slots) Q (F0 m (pc + 3) ls (r.toList ++ rest))) : W p l e R s m args below meth c H locs cells slots Q (F0 m pc ls st0) :=
  z_callX (va_runV S hm ⟨zCallB S ok hl hR, S.2.2.2.2 _ hi, S.2.2.2.2 _ hse⟩ ⟨zPc.blind, va_recv hK.1 (hM.one he) hc (q0 := 0) rfl, zPreX hK hM hA⟩ rfl hn hsz hst (lv_room (m := m) (pc := pc) (ls := ls) (rest := st0) hw) hdg hf) hS hAA kk
theorem z_callIX {y : MethodName} {bytes : ByteArray} {maxL index n : Nat} {rm : Room} {b : Nat} {As st0 : List Value} {post : Option Value → zMap → Prop} (S : CallFix p m c cc nL s args zB own) (hm : zMet l y bytes maxL none rm (.ref b :: As) A G M post) (ok : zOK y bytes maxL none n) (hl : Cond.methodLink own index y ∈ zB) (hi : Cond.instanceMethod y ∈ zB) (hy : y.name = "<init>") (hR : rm.frames + 1 ≤ R.frames ∧ 8 + (maxL + 11) + rm.locals ≤ R.locals) (hK : zK G s) (hM : zM A G M H) (hS : va_S A0 H0 H locs) (hA : ∀ q : Nat, H.size ≤ q → A q) (hAA : ∀ q, A q → A0 q)
    (hn : As.length = n) (hsz : ls.size = nL) (hst : st0 = As.reverse ++ .ref b :: rest) (hw : (rest.map fun v => v.category).sum ≤ 8) (hdg : decode cc pc = .ok (.invokespecial index, 3)) (hf : cells + rm.cells ≤ R.cells ∧ slots + rm.slots ≤ R.slots)
    (kk : ∀ (r : Option Value) (M1 : zMap) (H1 : Heap) (locs1 : List Loc), post r M1 → zM A G M1 H1 → H.size ≤ H1.size → (∀ q : Nat, q < H.size → ¬ A q → H1[q]? = H[q]?) → va_S A0 H0 H1 locs1 → W p l e R s m args below meth c H1 locs1 (cells + rm.cells) (slots + rm.slots) Q (F0 m (pc + 3) ls (r.toList ++ rest))) : W p l e R s m args below meth c H locs cells slots Q (F0 m pc ls st0) :=
  z_callX (va_runI S hm ⟨zCallB S ok hl hR, hy, S.2.2.2.2 _ hi⟩ ⟨zPc.blind, zPreX hK hM hA⟩ rfl hn hsz hst (lv_room (m := m) (pc := pc) (ls := ls) (rest := st0) hw) hdg hf) hS hAA kk
end ZL
