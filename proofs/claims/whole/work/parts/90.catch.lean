/-! methods with handlers: what they catch, their contracts, their calls -/
/-- the handlers take an exception of class X thrown at pc, and go on at hp -/
def wc_ok (own : String) (pc : Nat) (X : String) : List (Nat × Nat × Nat × Nat) → Nat → Prop
  | [], _ => False
  | q :: qs, hp => q.1 ≤ pc ∧ pc < q.2.1 ∧ q.2.2.2 ≠ 0 ∧ ((q.2.2.1 = hp ∧ Cond.classLink own q.2.2.2 X ∈ wl_ALL) ∨ ∃ Y, Cond.classLink own q.2.2.2 Y ∈ wl_ALL ∧ Cond.not (.castable X Y) ∈ wl_JW ∧ wc_ok own pc X qs hp)
section WfCatch
theorem wc_row {Q : Handler → Pre} {Ec : CtlPost} {e : Env} {dd : Bool} {acts : List Action} {s : State} {f : JFrame} {a : Addr} {x : ExceptionTableEntry} {tl : List ExceptionTableEntry} {c : ClassId} {cell : Cell} (hx : covers x f.pc = true) (h0 : x.catchType ≠ 0)
    (hl : s.vm.ClassLinks e.platform f.method.cls x.catchType c) (hcell : s.heap[a]? = some cell) (hobj : ∀ k, cell.vm ≠ .statics k) (hk : ∃ k, s.vm.classes[cell.cls]? = some k) (hc : ∃ k, s.vm.classes[c]? = some k) {z : Bool} (hz : s.vm.assignable cell.cls c = z) :
    wp (findHandler.go f a (x :: tl)) Q Ec e dd acts s ↔ if z = true then Q (.found x.handlerPc) dd acts (s.setVm (s.vm.noted f.method.cls x.catchType (.cls c))) else wp (findHandler.go f a tl) Q Ec e dd acts (s.setVm (s.vm.noted f.method.cls x.catchType (.cls c))) := by
  simp only [covers] at hx
  obtain ⟨r1, r2⟩ := (resolveClass_links e.toSetting hl).op (op := VmOp.resolveClass f.method.cls x.catchType) rfl
  have ha : s.vm.Alike (s.vm.noted f.method.cls x.catchType (.cls c)) := (Vm.Alike.refl s.vm).noted _ _ _
  obtain ⟨k1, hk1⟩ := hk
  obtain ⟨k2, hk2⟩ := hc
  obtain ⟨k1', hk1', -⟩ := ha.2.2 _ _ hk1
  obtain ⟨k2', hk2', -⟩ := ha.2.2 _ _ hk2
  have hz' : (s.vm.noted f.method.cls x.catchType (.cls c)).assignable cell.cls c = z := by rw [ha.assignable]; exact hz
  cases z <;> simp [findHandler.go, hx, h0, r1, r2, hcell, hobj, hk1', hk2', hz', VmOp.dirties, VmOp.acts]
theorem wc_refl (vm : Vm) (c : ClassId) : vm.assignable c c = true := by
  show vm.assignableAux (255 + 1) c c = true
  rw [Vm.assignableAux]
  simp
theorem wc_go {e : Env} {s : State} {args : Array Value} {f : JFrame} {a : Addr} {cell : Cell} {own X : String} {hp : Nat} (hpl : e.platform.magicAccessors = ({} : Platform).magicAccessors) (hown : s.vm.findClass own = some f.method.cls) (hw : ∀ w ∈ wl_ALL, w.before args s = true) (hj : ∀ w ∈ wl_JW, w.before args s = true) (hobj : ∀ k, cell.vm ≠ .statics k) (hX : s.vm.findClass X = some cell.cls) :
    ∀ (hs : List (Nat × Nat × Nat × Nat)) (tl : List ExceptionTableEntry) (S : State), tl.map (fun h => (h.startPc, h.endPc, h.handlerPc, h.catchType)) = hs → wc_ok own f.pc X hs hp → s.WarmedH S.vm → S.heap[a]? = some cell →
      ∃ vm', s.WarmedH vm' ∧ ∀ (Q : Handler → Pre) (Ec : CtlPost) (dd : Bool) (acts : List Action), wp (findHandler.go f a tl) Q Ec e dd acts S ↔ Q (.found hp) dd acts (S.setVm vm') := by
  intro hs
  induction hs with
  | nil => intro tl S _ h; exact h.elim
  | cons q qs ih =>
    intro tl S hmap hok hW hcell
    cases tl with
    | nil => cases hmap
    | cons x tl =>
      rw [List.map_cons, List.cons.injEq] at hmap
      obtain ⟨rfl, hmap⟩ := hmap
      obtain ⟨c1, c2, c3, hok⟩ := hok
      simp only at c1 c2 c3
      have hx : covers x f.pc = true := by simp [covers, c1, c2]
      have hkX := Vm.classAt_of_findClass hX
      obtain ⟨k0, hk0⟩ := hkX
      obtain ⟨k0', hk0', -⟩ := hW.alike.2.2 _ _ hk0
      rcases hok with ⟨hh, hl⟩ | ⟨Y, hl, hno, hok⟩
      · obtain ⟨c', hc', hcl⟩ := Cond.classLink_spec hown (hw _ hl) e.platform hpl
        cases hX.symm.trans hc'
        obtain ⟨dk, _, _, kt, hd, _, _, _, _, hkt, _, hopen⟩ := hcl.here
        refine ⟨_, hW.noted hd hopen (State.rightAt_cls hcl), fun Q Ec dd acts => ?_⟩
        rw [wc_row hx c3 (hW.classLinks hcl) hcell hobj ⟨k0', hk0'⟩ ⟨k0', hk0'⟩ (wc_refl _ _), if_pos rfl, ← hh]
      · obtain ⟨c', hc', hcl⟩ := Cond.classLink_spec hown (hw _ hl) e.platform hpl
        obtain ⟨dk, _, _, kt, hd, _, _, _, _, hkt, _, hopen⟩ := hcl.here
        obtain ⟨kt', hkt', -⟩ := hW.alike.2.2 _ _ hkt
        have hnv := Cond.holds_not_iff.mp (hj _ hno)
        simp only [Cond.value, hX, hc'] at hnv
        obtain ⟨vm', hW', hq⟩ := ih tl (S.setVm (S.vm.noted f.method.cls x.catchType (.cls c'))) hmap hok (hW.noted hd hopen (State.rightAt_cls hcl)) hcell
        refine ⟨vm', hW', fun Q Ec dd acts => ?_⟩
        rw [wc_row hx c3 (hW.classLinks hcl) hcell hobj ⟨k0', hk0'⟩ ⟨kt', hkt'⟩ (z := false) (by rw [hW.alike.assignable]; exact Option.some.inj hnv), if_neg (by decide)]
        exact hq Q Ec dd acts
/-- from the throw into the handler -/
theorem wc_step {tb : Tables} {e : Env} {T target : State} {g : JFrame} {c : Code} {below : List Frame} {a : Addr} (h : At T g.method c below) {pc : Nat} {vm' : Vm}
    (hf : ∀ (Q : Handler → Pre) (Ec : CtlPost) (dd : Bool) (acts : List Action), wp (findHandler g a) Q Ec e dd acts ((T.setTop g).pushFrame (.throwing a)) ↔ Q (.found pc) dd acts (((T.setTop g).pushFrame (.throwing a)).setVm vm'))
    (hrest : Steps tb e below ((T.setVm vm').setTop { g with pc := pc, stack := [.ref a] }) target) : Steps tb e below ((T.setTop g).pushFrame (.throwing a)) target := by
  obtain ⟨h1, h2⟩ := h.throwing a
  refine Steps.head h1 h2 ?_
  have key : (stepThrowing e ((T.setTop g).pushFrame (.throwing a)) a (.java g :: T.frames.tail)).Is ((((T.setTop g).pushFrame (.throwing a)).setVm vm').setFrames (.java { g with pc := pc, stack := [.ref a] } :: T.frames.tail)) [] := by
    simp only [stepThrowing, searchFrame, vmDo]
    generalize hr : Sem.go _ e false [] _ = res
    obtain ⟨as, rfl, ha⟩ := Sem.eq_ok_of hr (a := Handler.found pc) (s' := ((T.setTop g).pushFrame (.throwing a)).setVm vm') (acts' := []) (by simp [hf _ _ _ _])
    exact ⟨rfl, ha⟩
  rw [stepThread_throwing (frames_entered h.top _), key.1]
  obtain ⟨g0, hg⟩ := Option.isSome_iff_exists.mp h.top
  obtain ⟨fr, hr⟩ := State.topJava?_eq_some.mp hg
  have e1 : ((T.setTop g).pushFrame (.throwing a)).setVm vm' = ((T.setVm vm').setTop g).pushFrame (.throwing a) := rfl
  have hr' : (T.setVm vm').frames = .java g0 :: fr := hr
  rw [State.setTop_of_frames _ hr'] at hrest
  rw [e1, State.pushFrame, State.setTop_of_frames _ hr', State.setFrames_setFrames, State.setFrames_setFrames, hr]
  exact hrest
variable {l : Launch} {E : We} {n0 : Nat} {M : Wm} {d mc ms : Nat} {Q : Wq} {bk bn pc : Nat} {L : List (Nat × Value)} {st : List Value} {nx : Nat} {t : Wt} {r : Wr} {i : Wi} {g : Wl}
/-- a contract of a method with handlers -/
def Cw (l : Launch) (E : We) (n0 : Nat) (M : Wm) (d mc ms : Nat) (av : List Value) (nx : Nat) (t : Wt) (r : Wr) (i : Wi) (g : Wl) (Q : Wq) : Prop :=
  MetFree l M.1 (headSpec wl_ALL (wf_rm d mc ms)) (wf_P E n0 av nx t r i g) (fun _ _ _ _ _ => True) (fun a st o u => wf_Q E n0 Q a st o u ∧ wf_F n0 mc ms st u)
theorem Cw.of {av : List Value} (hy : plainName M.1.cls = true) (hn : (lg_sl av).length ≤ M.2.2.1) (hw : Cond.codeWith M.1 M.2.1 M.2.2.1 M.2.2.2 (wl_H M.1) ∈ wl_ALL) (h : Wf l E n0 M d mc ms Q mc ms 0 (lv_args 0 av) [] nx t r i g) : Cw l E n0 M d mc ms av nx t r i g Q := by
  refine MetFree.of_bodyS (code := M.2.1) (maxLocals := M.2.2.1) (ret := M.2.2.2) hy ?_ ?_
  · intro args s m h hn
    obtain ⟨m', meth, c, h0, h1, h2, h3, h4, -, h5, h6, -⟩ := Cond.codeWith_spec (atoms_spec (ws := wl_ALL) h _ hw)
    cases hn.symm.trans h0
    exact ⟨meth, c, h1, h2, h3, h4, h5, h6⟩
  · intro p e s m args below meth c s₁ B hml hP _
    obtain ⟨rfl, hR, hK, hJ⟩ := hP
    have hh0 : s₁.heap = s.heap := by rw [B.state]; rfl
    have hts := atoms_spec (ws := wl_ALL) B.pre
    have htb : c.exceptionTable.toList.map (fun h => (h.startPc, h.endPc, h.handlerPc, h.catchType)) = wl_H M.1 := by
      obtain ⟨m', meth', c', q0, q1, q2, -, -, q3, -, -, -⟩ := Cond.codeWith_spec (hts _ hw)
      have X0 := Stand.of_body B
      cases B.named.symm.trans q0
      cases X0.method.symm.trans q1
      cases X0.code.symm.trans q2
      exact q3
    have C : wf_C E n0 M p s m av.toArray meth c := ⟨B.exec, B.bytes, hml, B.returns, findClass_of_methodNamed B.named, fun w hw => hts w hw, B.notSynchronized, ⟨(name_of_methodNamed B.named B.method).1, htb⟩, hK, hJ⟩
    have K := h p e s m av.toArray below meth c C s.heap [] 0 0 _ (by omega) (by omega) hR (fun _ _ => rfl) (fun q hq => by cases hq) (lv_entry av hn)
    rw [← lg_entry_eq] at K
    obtain ⟨u, a1, o, b1, b2, b3, b4⟩ := K s₁ hh0 (Stand.of_body B)
    exact ⟨u, o, a1, b1, b2, b3, b4⟩
/-- a call of a method by its contract, however it ends -/
theorem wc_call {p : Program} {e : Env} {R rm : Room} {s T : State} {m : MethodId} {args : Array Value} {below : List Frame} {meth : Method} {c : Code} {locs : List Loc} {cells slots : Nat} {y : MethodName} {ws : List Cond} {P : Array Value → State → Prop} {Qc : Array Value → State → Outcome → State → Prop}
    (X : Stand p l e R s m args below meth c T locs cells slots) {f : JFrame} (hg : f.method = m) (hsize : f.locals.size = c.maxLocals) {ig : Instr} {len : Nat} (hdg : decode c.code f.pc = .ok (ig, len)) (hM : MetFree l y (headSpec ws rm) P (fun _ _ _ _ _ => True) Qc)
    {mk : MethodId} {methY : Method} {cY : Code} {kY : Class} {a : Array Value} (hn : T.methodNamed? y = some mk) (hmY : T.vm.method? mk = some methY) (hcY : methY.code = some cY) (hkY : T.vm.classes[mk.cls]? = some kY) (hini : kY.init = .initialized) (hws : ∀ w ∈ ws, w.before a T = true)
    (hfr : rm.frames + 1 ≤ R.frames) (hlo : 2 * f.monitorRoom + (f.stack.map fun v => v.category).sum + (cY.maxLocals + 11) + rm.locals ≤ R.locals) (hce : cells + rm.cells ≤ R.cells) (hsl : slots + rm.slots ≤ R.slots) (hP : P a (T.calling f mk a)) :
    ∃ o s₂, Steps p.tables e below (doInvoke e (T.setTop f) [] mk a).1 s₂ ∧ Ended s₂ (.java f :: below) o ∧ Qc a (T.calling f mk a) o s₂ := by
  subst hg
  have h : At T f.method c below := X.here
  have happ : (headSpec ws rm).appliesLoose y e.platform (T.calling f mk a) = true := Spec.appliesLoose_calling (g := f) h hdg hn hkY hini (X.room_calling (g := f) (R' := rm) hsize hmY hcY hfr hlo hce hsl) (atoms_intro fun w hw => hws w hw)
  have hfs : (T.setTop f).frames = [.java f] ++ below := by rw [State.frames_setTop' f h.top, X.tail]; rfl
  obtain ⟨o, s₂, h1, -, h2, h3⟩ := Steps.callFree hM p X.admits X.cas X.clock (acts := []) hfs happ hP trivial
  rw [hfs] at h2
  exact ⟨o, s₂, h1, h2, h3⟩
end WfCatch
