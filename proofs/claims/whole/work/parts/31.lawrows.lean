def R_law : String := "ItemStatesLaw"
def lw_P (b : Addr) (xs : List Int32) (args : Array Value) (s : State) : Prop := args = #[.ref b] ∧ s.IntsAt b xs ∧ xs.length ≤ 3072 ∧ (Jvm.Cond.and given_1 narrow_1).before args s = true
def lw_Q (_ : Array Value) (s : State) (o : Outcome) (t : State) : Prop := o = .returned (some (.int 1)) ∧ Framed s o t [] 600000 7302250
def lw_Z (below : List Frame) (a : Array Value) (s : State) : State → Prop := fun t => ∃ o, t.status = .running ∧ Ended t below o ∧ lw_Q a s o t
theorem lw_ret {p : Program} {l : Launch} {e : Env} {s : State} {m : MethodId} {below : List Frame} {meth : Method} {c : Code} {b : Nat} (hx : p.tables.exec = Jvm.exec) (hb : c.code = code) (hr : meth.sig.returnType = ret) (hlocks : meth.locks = false) {pc : Nat} {H : Heap} {ls : Array Slot} (hdg : decode code pc = .ok (.ireturn, 1)) : W p l e room_1 s m #[Value.ref b] below meth c H [] 600000 7302250 (lw_Z below #[Value.ref b] s) (F0 m pc ls [.int 1]) := by
  intro T hT X
  obtain ⟨fs, hret, hrun, hended, hW, hframe⟩ := X.leave (v := some (.int 1)) (hlocks := hlocks) (fun h => by rw [hr] at h; cases h)
  have hmeth' : T.vm.method? m = some meth := X.method'
  refine ⟨T.setFrames fs, ?_, .returned (some (.int 1)), hrun, hended, rfl, ⟨_, rfl⟩, hW, hframe⟩
  jvm_step X.here [X.here.top, hx, hb, hdg, hmeth', hr, ret, narrow_b1]
  (try refine ⟨rfl, ?_⟩); (try refine ⟨rfl, ?_⟩)
  first | (intro acts; rw [hret _ acts rfl rfl rfl]) | rw [hret _ _ rfl rfl rfl]
  exact Steps.refl _
def lw_At (p : Program) (s : State) (m : MethodId) (meth : Method) (c : Code) (b L : Nat) (xs : Nat → Int32) : Prop :=
  p.tables.exec = Jvm.exec ∧ c.code = code ∧ meth.sig.returnType = ret ∧ c.maxLocals = 4 ∧ s.vm.findClass R_law = some m.cls ∧ (∀ w ∈ lw_tbl, w.before #[Value.ref b] s = true) ∧ va_X b L xs s s.heap ∧ b < s.heap.size ∧ meth.locks = false ∧ (Jvm.Cond.and given_1 narrow_1).before #[Value.ref b] s = true
def zA (z : Nat) (M : zMap) : Nat → Prop := fun q => z ≤ q ∧ M q = none
theorem zM.swap {z : Nat} {G : zG} {M M' M1 : zMap} {H H1 : Heap} (hM' : zM (zA z M) G M' H) (hM1 : zM (zA z M') G M1 H1) (hk : ∀ q : Nat, q < H.size → ¬ zA z M' q → H1[q]? = H[q]?) : zM (zA z M1) G M' H1 := by
  intro a e he
  obtain ⟨⟨hz, -⟩, hat⟩ := hM' a e he
  have hlt := hat.lt
  have hn : ¬ zA z M' a := fun q => by rw [q.2] at he; cases he
  refine ⟨⟨hz, ?_⟩, hat.kept (hk a hlt hn)⟩
  cases h1 : M1 a with
  | none => rfl
  | some x => exact absurd (hM1 a x h1).1 hn
section ZLC
variable {p : Program} {l : Launch} {e : Env} {R : Room} {s : State} {m : MethodId} {args : Array Value} {below : List Frame} {meth : Method} {c : Code} {H : Heap} {locs : List Loc} {cells slots : Nat} {Q : State → Prop}
variable {cc : ByteArray} {pc nL : Nat} {ls : Array Slot} {rest : List Value} {G : zG} {M M' : zMap} {own : String}
theorem zl_call {y : MethodName} {bytes : ByteArray} {maxL index n : Nat} {ret : Option FieldType} {rm : Room} {b : Nat} {As st0 : List Value} {post : Option Value → zMap → Prop} (S : CallFix p m c cc nL s args zB own) (hm : zMet l y bytes maxL ret rm (.ref b :: As) (zA s.heap.size M') G M post) (ok : zOK y bytes maxL ret n) (hl : Cond.methodLink own index y ∈ zB) (hi : Cond.instanceMethod y ∈ zB) (hse : Cond.selects y.cls y y ∈ zB) (hR : rm.frames + 1 ≤ R.frames ∧ 8 + (maxL + 11) + rm.locals ≤ R.locals) (hK : zK G s) (hM : zM (zA s.heap.size M') G M H) (hM' : zM (zA s.heap.size M) G M' H) (hS : va_S (fun q => s.heap.size ≤ q) s.heap H locs)
    {ci N : Nat} {T : u_T} {fs : List Value} (he : M b = some (.inr (ci, fs))) (hc : vwCl[ci]? = some (y.cls, T, N)) (hn : As.length = n) (hsz : ls.size = nL) (hst : st0 = As.reverse ++ .ref b :: rest) (hw : (rest.map fun v => v.category).sum ≤ 8) (hdg : decode cc pc = .ok (.invokevirtual index, 3)) (hf : cells + rm.cells ≤ R.cells ∧ slots + rm.slots ≤ R.slots)
    (kk : ∀ (r : Option Value) (M1 : zMap) (H1 : Heap) (locs1 : List Loc), post r M1 → zM (zA s.heap.size M') G M1 H1 → zM (zA s.heap.size M1) G M' H1 → va_S (fun q => s.heap.size ≤ q) s.heap H1 locs1 → W p l e R s m args below meth c H1 locs1 (cells + rm.cells) (slots + rm.slots) Q (F0 m (pc + 3) ls (r.toList ++ rest))) : W p l e R s m args below meth c H locs cells slots Q (F0 m pc ls st0) :=
  z_callVX S hm ok hl hi hse hR hK hM hS (fun q h => ⟨Nat.le_trans hS.1 h, hM'.fresh h⟩) (fun q h => h.1) he hc hn hsz hst hw hdg hf (fun r M1 H1 locs1 hp h1 _ h3 h4 => kk r M1 H1 locs1 hp h1 (hM'.swap h1 h3) h4)
end ZLC
section ZLR
variable {G : zG} {M1 M2 : zMap} {h0 m0 cps den fee N : Nat} {ca : Nat → Nat} {ch : Nat → List (Nat × zEV)} {ar : Nat → Nat} {ac t : Nat} {gr : Int64} {F : Nat → Nat → Int32} {L : Nat → Nat → Int64}
theorem zAQ_r {cv : Nat → zCV} {dn fe : Nat → Int32} {k kind place : Int32} {day : Int64} {r : Option Value} (h : zAQ G h0 cps den fee N ca cv ch dn fe gr ac k kind place day r M1) : ∃ x, r = some (.int x) := by
  unfold zAQ at h
  cases hz : zIx N k with
  | none => rw [hz] at h; exact ⟨_, h.1⟩
  | some j =>
    rw [hz] at h
    dsimp only at h
    repeat' split at h
    all_goals exact ⟨_, h.1⟩
theorem zWQ_r {cv : Nat → zCV} {dn fe : Nat → Int32} {k who : Int32} {r : Option Value} (h : zWQ G h0 cps den fee N ca cv ch dn fe gr ac k who r M1) : ∃ x, r = some (.int x) := by
  unfold zWQ at h
  cases hz : zIx N k with
  | none => rw [hz] at h; exact ⟨_, h.1⟩
  | some j =>
    rw [hz] at h
    dsimp only at h
    repeat' split at h
    all_goals exact ⟨_, h.1⟩
theorem sm_copy2 {ty : Int32} {bc : Int64} {dg hm : Int32} (h1 : (¬ (zCk N (cvm F L) ty bc dg hm ∧ zRi (F 9) hm ty) ∧ zI G M1 h0 cps den fee N ca (cvm F L) ch (F 9) (F 10) gr ac) ∨ ((zCk N (cvm F L) ty bc dg hm ∧ zRi (F 9) hm ty) ∧ ∃ q, zI G M1 h0 cps den fee (N + 1) (zuf ca N q) (zuf (cvm F L) N (ty, bc, dg, hm, hm, 3, 0, 0, -1)) (zuf ch N []) (F 9) (F 10) gr ac)) (h2 : (¬ (zCk N (cvm F L) ty bc dg hm ∧ zRi (F 9) hm ty) ∧ zJ G M2 m0 ar 0 (nI N) (nI ac) gr F L) ∨ ((zCk N (cvm F L) ty bc dg hm ∧ zRi (F 9) hm ty) ∧ zJ G M2 m0 ar 0 (nI (N + 1)) (nI ac) gr (zNF F N ty dg hm) (zuf L 1 (vp_updL (L 1) (N + 1) bc)))) (h : zSm N ch ac F L t) : zSim G M1 M2 h0 m0 (t + 1) := by
  rcases h1 with ⟨c1, hI⟩ | ⟨c1, q, hI⟩
  · rcases h2 with ⟨-, hJ⟩ | ⟨c2, -⟩
    · exact sm_same hI hJ h
    · exact absurd c2 c1
  · rcases h2 with ⟨c2, -⟩ | ⟨-, hJ⟩
    · exact absurd c1 c2
    · exact sm_copy c1.2.2.1 c1.2.1 hI hJ h
end ZLR
