/-! exceptions: a method that makes one and throws it; a method that catches what a callee throws -/
section WfThrow
/-- a walk begun anew where it stands: what has been made and written till here is no more looked at -/
theorem wf_rebase {p : Program} {l : Launch} {e : Env} {R R' : Room} {s : State} {m : MethodId} {args : Array Value} {below : List Frame} {meth : Method} {c : Code} {T : State} {locs : List Loc} {cells slots : Nat}
    (X : Stand p l e R s m args below meth c T locs cells slots) (hf : R'.frames ≤ R.frames) (hl : R'.locals ≤ R.locals) (hc : cells + R'.cells ≤ R.cells) (hs : slots + R'.slots ≤ R.slots) : Stand p l e R' (T.setFrames (.invoking m args :: below)) m args below meth c T [] 0 0 := by
  obtain ⟨g₀, hfr⟩ := X.frames_eq
  have hcur : T.cur < T.threads.size := State.cur_lt_of_frames hfr
  have hF : (T.setFrames (.invoking m args :: below)).frames = .invoking m args :: below := State.frames_setFrames _ hcur
  have hm : ∀ q, T.vm.method? q = s.vm.method? q := fun q => by rw [X.warmed.alike.method?]
  refine ⟨X.admits, X.cas, X.clock, hF, ?_, ?_, X.method', X.code, X.here, X.tail, State.WarmedH.refl (T.setFrames (.invoking m args :: below)), (State.stackLimits_setFrames ..).symm, (State.stackBytes_setFrames ..).symm, ?_⟩
  · obtain ⟨r1, r2, r3, r4⟩ := State.hasRoom_stack X.room
    have r5 := State.hasRoom_real X.room
    have h := X.room
    simp only [State.hasRoom, Bool.and_eq_true, decide_eq_true_eq] at h
    rw [State.localsInUse_invoking X.frames X.method X.code] at r3 r4 r5
    rw [X.frames, List.length_cons] at r1 r2
    have hU := State.localsInUse_invoking hF (meth := meth) (c := c) X.method' X.code
    have q1 := X.heapSize
    have q2 := X.used
    simp only [State.hasRoom, Bool.and_eq_true, decide_eq_true_eq, hF, hU, List.length_cons, State.stackLimits_setFrames, State.stackBytes_setFrames, X.limits, X.bytes]
    refine ⟨⟨⟨⟨by omega, by omega, by omega, by omega, by omega, h.1.1.1.2.2.2.2.2⟩, ?_⟩, ?_⟩, X.book⟩
    · have := h.1.1.2
      show T.heap.size + R'.cells ≤ e.platform.maxCells
      omega
    · have := h.1.2
      show T.slotsUsed + R'.slots ≤ e.platform.maxSlots
      omega
  · have hh := X.hears
    rcases below with _ | ⟨y, q⟩
    · simp only [State.hears] at hh ⊢
      show (T.vm.method? m).any _ = true
      rw [hm]; exact hh
    · cases y <;> simp only [State.hears, State.code?_eq] at hh ⊢ <;> first | exact hh | (rw [show (T.setFrames _).vm = T.vm from rfl, hm]; exact hh)
  · obtain ⟨t, ht, -⟩ := State.frames_cons hF
    have h := (State.sameButNew.refl (T.setFrames (.invoking m args :: below)) ht).setFrames T.frames (State.cur_lt_of_frames hF)
    obtain ⟨th, hth, -⟩ := State.frames_cons hfr
    rw [State.setFrames_setFrames, State.setFrames_self hth] at h
    exact h
theorem wf_same_eq {s u : State} {mc ms : Nat} (h : s.sameButNew u [] mc ms) {q : Nat} (hq : q < s.heap.size) : u.heap[q]? = s.heap[q]? := by
  obtain ⟨c', h1, h2, h3, h4⟩ := h.2.2.2.2.2 q s.heap[q] (Array.getElem?_eq_getElem hq)
  rw [h1, Array.getElem?_eq_getElem hq, h2]
  have : c'.slots = s.heap[q].slots := Array.ext_getElem? fun j => h4 j (fun z => by cases z)
  rw [this]
/-- the words of an exception's making: its class, the class ahead of it (entry ix of its pool, in code cc), the classes ahead of that -/
def wf_xa (own : String) (ic : Nat) (X : String) (ix : Nat) (cc : ByteArray) (Y : String) (nm : List String) : List Cond := Bundle.throwableAtoms ++ (Bundle.throwableSAtoms ++ (Bundle.passSAtoms X Y ix cc ++ (Bundle.chainSAtoms Y nm ++ [.methodLink own ic (Bundle.initS X), .instantiable X 6, .selects X Bundle.tFill0 Bundle.tFill0, .selects X Bundle.tFill Bundle.tFill, .lays X Bundle.tN "cause" "Ljava/lang/Throwable;", .lays X Bundle.tN "stackTrace" Bundle.steD, .lays X Bundle.tN "suppressedExceptions" Bundle.listD, .lays X Bundle.tN "detailMessage" "Ljava/lang/String;", .isRef (.static Bundle.tN "UNASSIGNED_STACK" Bundle.steD), .isRef (.static Bundle.tN "SUPPRESSED_SENTINEL" Bundle.listD), .fieldLink Bundle.tN 198 Bundle.tN "backtrace" "Ljava/lang/Object;", .lays Bundle.tN Bundle.tN "backtrace" "Ljava/lang/Object;", .lays X Bundle.tN "backtrace" "Ljava/lang/Object;"])))
section WfMade
variable {p : Program} {l : Launch} {e : Env} {R : Room} {s : State} {m₀ : MethodId} {args : Array Value} {below : List Frame} {meth : Method} {c : Code} {W : State} {locs : List Loc} {cells slots : Nat}
/-- an exception that a method makes with a message and throws -/
theorem wf_made (X : Stand p l e R s m₀ args below meth c W locs cells slots) (hexec : p.tables.exec = Jvm.exec) (htr : e.platform.stackTraces = false) {own cls Y : String} {nm : List String} {ic ix : Nat} {cc : ByteArray}
    (hown : s.vm.findClass own = some m₀.cls) (hcls : Bundle.fit cls = true) (hY : Bundle.fit Y = true) (hnm : ∀ n ∈ nm, Bundle.fit n = true)
    (d0 : decode cc 0 = .ok (.aload_n 0, 1)) (d1 : decode cc 1 = .ok (.aload_n 1, 1)) (d2 : decode cc 2 = .ok (.invokespecial ix, 3)) (d5 : decode cc 5 = .ok (.return_, 1))
    (hw : ∀ w ∈ wf_xa own ic cls ix cc Y nm, w.before args s = true) (hlocs : ∀ x ∈ locs, ∀ cell, s.heap[x.base]? = some cell → cell.vm.isStatics = false)
    {a : Addr} {cX : ClassId} {kX : Class} (hfX : s.vm.findClass cls = some cX) (hkX : s.vm.classes[cX]? = some kX) (hcell : W.heap[a]? = some (freshCell cX kX)) (hnew : s.heap.size ≤ a)
    {msg : Value} (hmsg : msg.isRef = true) {g : JFrame} (hg : g.method = m₀) (hsize : g.locals.size = c.maxLocals) (hlk : g.locked = none) (hen : g.entered = []) {rest : List Value} (hst : g.stack = msg :: .ref a :: .ref a :: rest)
    (k1 : decode c.code g.pc = .ok (.invokespecial ic, 3)) (k2 : decode c.code (g.pc + 3) = .ok (.athrow, 1)) (hout : ∀ x ∈ c.exceptionTable.toList, covers x (g.pc + 3) = false)
    (hRf : nm.length + 4 < R.frames) (hRl : 2 * g.monitorRoom + ((Value.ref a :: rest).map fun v => v.category).sum + (13 * (nm.length + 2) + 42) ≤ R.locals) (hlocks : meth.locks = false) :
    ∃ (U : State) (ce : Cell), Steps p.tables e below (W.setTop g) U ∧ U.status = .running ∧ Ended U below (.threw a) ∧ s.WarmedH U.vm ∧ s.sameButNew ({ U with vm := s.vm } : State) locs cells slots ∧ U.heap[a]? = some ce ∧ ce.vm = .none ∧ ce.cls = cX := by
  have hpl : e.platform.magicAccessors = ({} : Platform).magicAccessors := by rw [X.admits.platform]
  have wd : ∀ w, w ∈ wf_xa own ic cls ix cc Y nm → w.holds args s none s [] = true := fun w h => hw w h
  -- Throwable's own things, and the classes between
  obtain ⟨T, Z0, L, -, V⟩ := ThrowableC.of_atoms (args := args) (s := s) (by rw [X.admits.platform]) (by rw [X.admits.platform]) hpl (fun x hx => hw x (by simp [wf_xa, hx]))
  obtain ⟨Z, M, LZ, LM, hnZ⟩ := Init0T.ofS_atoms (args := args) hpl L V (fun x hx => hw x (by simp [wf_xa, hx]))
  obtain ⟨Q, LQ, hQm, hQs⟩ := PassC.ofS_atoms (args := args) (s := s) hpl (Bundle.fit_spec hcls).1 (Bundle.fit_spec hY).2 d0 d1 d2 d5 (fun x hx => hw x (by simp [wf_xa, hx]))
  obtain ⟨P1, Ps, hlen, L1, hL, hP1m, hs1, hsr⟩ := Bundle.chainS (args := args) hpl hnZ nm Y hY hnm (fun x hx => hw x (by simp [wf_xa, hx]))
  have hQP : Q.sup = P1.m := Option.some.inj (hQs.symm.trans hP1m)
  have hfQ : s.vm.findClass cls = some Q.m.cls := findClass_of_methodNamed hQm
  cases Option.some.inj (hfX.symm.trans hfQ)
  obtain ⟨c1, k1', hc1, hk, hord, -, -, -⟩ := Cond.instantiable_spec (wd (.instantiable cls 6) (by simp [wf_xa]))
  cases Option.some.inj (hc1.symm.trans hfQ)
  cases Option.some.inj (hkX.symm.trans hk)
  have hsel : ∀ (x : MethodName) (mx : MethodId), s.methodNamed? x = some mx → x.cls ≠ "java/lang/invoke/MethodHandle" ∧ x.cls ≠ "java/lang/invoke/VarHandle" → (Cond.selects cls x x).holds args s none s [] = true → selectMethod e.platform s.vm Q.m.cls mx = .method mx := fun x mx hx hne hh => by
    obtain ⟨c2, r2, m2, q1, q2, q3, q4, -⟩ := Cond.selects_spec hh
    cases Option.some.inj (q1.symm.trans hfQ)
    cases Option.some.inj (q2.symm.trans (State.methodFound?_of_named hx hne))
    cases Option.some.inj (q3.symm.trans hx)
    rw [Launch.admits_selectMethod X.admits]
    exact q4
  have sel0 := hsel Bundle.tFill0 T.fill0 V.fill0 (by decide) (wd _ (by simp [wf_xa]))
  have selF := hsel Bundle.tFill T.fill V.fill (by decide) (wd _ (by simp [wf_xa]))
  -- the static fields
  obtain ⟨cS, hcS, hcv⟩ := V.statics
  obtain ⟨u0, hu0⟩ := Cond.staticRefV V.unassigned L.unassignedStatic L.statics hcS hcv (wd (.isRef (.static Bundle.tN "UNASSIGNED_STACK" Bundle.steD)) (by simp [wf_xa]))
  obtain ⟨sn, hsn⟩ := Cond.staticRefV V.sentinel L.sentinelStatic L.statics hcS hcv (wd (.isRef (.static Bundle.tN "SUPPRESSED_SENTINEL" Bundle.listD)) (by simp [wf_xa]))
  obtain ⟨cS', hcS', hvm', -, hkp⟩ := X.same.2.2.2.2.2 T.aS cS hcS
  have hnl : ∀ j, (⟨T.aS, j⟩ : Loc) ∉ locs := fun j hj => by
    have := hlocs _ hj cS hcS
    rw [hcv] at this
    cases this
  have hne : T.aS ≠ a := Nat.ne_of_lt (Nat.lt_of_lt_of_le (Array.getElem?_eq_some_iff.mp hcS).1 hnew)
  have hkn : cS'.vm ≠ .unknown := fun z => by
    rw [hvm'] at z
    rw [show cS.vm = .unknown from z] at hcv
    cases hcv
  -- the fields' places
  obtain ⟨ci, i2, fB, b1, b2, b3, b4, -, b5, b6, b7⟩ := Cond.ownField (t := .object "java/lang/Object") V.found L.cls (by decide +kernel) (wd (.fieldLink Bundle.tN 198 Bundle.tN "backtrace" "Ljava/lang/Object;") (by simp [wf_xa])) (wd (.lays Bundle.tN Bundle.tN "backtrace" "Ljava/lang/Object;") (by simp [wf_xa])) e.platform hpl
  obtain ⟨iM, hM⟩ := V.msg
  obtain ⟨tC, dC, eC, nC⟩ := Cond.laysAt hfQ hk V.cause (wd (.lays cls Bundle.tN "cause" "Ljava/lang/Throwable;") (by simp [wf_xa]))
  obtain ⟨tS, dS, eS, nS⟩ := Cond.laysAt hfQ hk V.stack (wd (.lays cls Bundle.tN "stackTrace" Bundle.steD) (by simp [wf_xa]))
  obtain ⟨tP, dP, eP, nP⟩ := Cond.laysAt hfQ hk V.supp (wd (.lays cls Bundle.tN "suppressedExceptions" Bundle.listD) (by simp [wf_xa]))
  obtain ⟨tM, dM, eM, nM⟩ := Cond.laysAt hfQ hk hM (wd (.lays cls Bundle.tN "detailMessage" "Ljava/lang/String;") (by simp [wf_xa]))
  obtain ⟨tB, dB, eB, nB⟩ := Cond.laysAt hfQ hk b7 (wd (.lays cls Bundle.tN "backtrace" "Ljava/lang/Object;") (by simp [wf_xa]))
  have aC := Cond.laysApart eB eC nB nC (by rw [b5, V.causeName]; decide)
  have aS := Cond.laysApart eB eS nB nS (by rw [b5, V.stackName]; decide)
  have aP := Cond.laysApart eB eP nB nP (by rw [b5, V.suppName]; decide)
  have hskip : SkipFacts T e.platform s (fun u => u) u0 ((preparedCellV T.toThrowableT (freshCell Q.m.cls kX) a u0 sn).withEntry W.cur) := by
    refine ⟨{ ci198 := ci, i198 := i2, fBack := fB }, ⟨b1, b2, b3, b4⟩, ?_, fun _ _ => rfl⟩
    have hd := fresh_default (c := Q.m.cls) tB
    rw [b6] at hd
    simpa [preparedCellV, Cell.setSlot, Cell.withEntry, Array.getElem?_setIfInBounds, aC, aS, aP, aC.symm, aS.symm, aP.symm, defaultValue] using hd
  -- the call of the constructor, then the throw
  obtain ⟨tm, methC, cdC, kC, vm1, hnC, -, -, -, -, -, -, -, hW1, go1⟩ := Steps.initColdS (tb := p.tables) (e := e) (below := below) (s := s) (U := W) X.here hexec X.warmed hpl hown (t := Bundle.initS cls) rfl rfl (Bundle.fit_spec hcls).2 (wd (.methodLink own ic (Bundle.initS cls)) (by simp [wf_xa])) (hw (.instanceMethod (Bundle.initS cls)) (by simp [wf_xa, Bundle.passSAtoms])) (bytes := cc) (maxL := 2) (hw (.code (Bundle.initS cls) cc 2 none) (by simp [wf_xa, Bundle.passSAtoms])) (f := g) hg (a := a) (msg := msg) (rest := .ref a :: rest) hst k1
  cases Option.some.inj (hnC.symm.trans hQm)
  obtain ⟨vm2, X2, go2⟩ := (X.noted hW1).ctorMessageOffV hexec (g := { g with stack := .ref a :: rest }) hg hsize T L Z LZ M LM (Q :: P1 :: Ps) (fun P hP => by
      rcases List.mem_cons.mp hP with rfl | hP
      · exact LQ
      rcases List.mem_cons.mp hP with rfl | hP
      · exact L1
      · exact hL P hP) ⟨hQP, hs1, hsr⟩ (u0 := u0) (sen := sn) (self := a) hmsg (cell := freshCell Q.m.cls kX) (cellS := cS') hcell (fun _ => by simp) (by simp) rfl rfl sel0 selF hcS' hne hkn (by rw [hkp _ (hnl _)]; exact hu0) (by rw [hkp _ (hnl _)]; exact hsn)
    (Takes.of_laid hk hord tC (by rw [V.causeType]; rfl)) (Takes.of_laid hk hord tS (by rw [V.stackType]; exact fits_refV_array _ u0)) (Takes.of_laid hk hord tP (by rw [V.suppType]; exact fits_refV_object _ sn)) (Takes.of_laid hk hord tM (by rw [V.msgType]; exact fits_refV_object _ ⟨msg, hmsg⟩)) V.objLocals hskip htr [] k1
    (by simp only [List.length_cons, hlen]; omega) (by simp only [List.length_cons, hlen]; exact hRl)
  obtain ⟨hgo, hrun, hend, hWU, hsame⟩ := X2.athrowLeaves hexec (g := { g with stack := .ref a :: rest, pc := g.pc + 3 }) hg hlk hen hout (a := a) (rest := rest) rfl k2 hlocks
  have hlt : a < ((W.setVm vm1).setVm vm2).heap.size := (Array.getElem?_eq_some_iff.mp hcell).1
  refine ⟨_, _, go1 _ (fun acts => ?_), hrun, hend, hWU, hsame.weaken (fun y hy hy2 => ?_) (Nat.le_refl _) (Nat.le_refl _), heapAt_setCell_self (s := (W.setVm vm1).setVm vm2) (plainBareV T.toThrowableT (freshCell Q.m.cls kX) a u0 sn msg) hlt, rfl, rfl⟩
  · rw [doInvoke_state]
    exact go2 _ hgo
  · rcases List.mem_append.mp hy with h1 | h1
    · exact h1
    · exfalso
      have : y.base = a := by
        simp only [List.mem_cons, List.not_mem_nil, or_false] at h1
        rcases h1 with rfl | rfl | rfl | rfl | rfl <;> rfl
      rw [this] at hy2
      exact Nat.not_lt.mpr hnew hy2
end WfMade
/-- what the tables say of a class of exceptions that a class throws: new, constructor, message -/
def wf_xw (own : String) (ix is ic : Nat) (X : String) (jx : Nat) (cc : ByteArray) (Y : String) (nm : List String) (text : String) : Prop := (Cond.classLink own ix X ∈ wl_ALL ∧ Cond.instantiable X 6 ∈ wl_ALL ∧ Cond.initialized X ∈ wl_ALL ∧ Cond.stringRef own is text ∈ wl_JW) ∧ (Bundle.fit X = true ∧ Bundle.fit Y = true ∧ (∀ n ∈ nm, Bundle.fit n = true) ∧ nm.length ≤ 1) ∧ (decode cc 0 = .ok (.aload_n 0, 1) ∧ decode cc 1 = .ok (.aload_n 1, 1) ∧ decode cc 2 = .ok (.invokespecial jx, 3) ∧ decode cc 5 = .ok (.return_, 1)) ∧ ∀ w ∈ wf_xa own ic X jx cc Y nm, w ∈ wl_ALL ∨ w ∈ wl_JW
variable {l : Launch} {E : We} {n0 : Nat} {M : Wm} {d mc ms : Nat} {Q : Wq} {bk bn pc : Nat} {L : List (Nat × Value)} {st : List Value} {nx : Nat} {t : Wt} {r : Wr} {i : Wi} {g : Wl}
theorem wf_throw {ix is ic jx : Nat} {X Yc text : String} {nm : List String} {cc : ByteArray} (hl : l.stackTraces = false) (hx : wf_xw M.1.cls ix is ic X jx cc Yc nm text) (hH : wl_H M.1 = []) (h0 : decode M.2.1 pc = .ok (.new ix, 3)) (h1 : decode M.2.1 (pc + 3) = .ok (.dup, 1)) (h2 : decode M.2.1 (pc + 4) = .ok (.ldc is, 2)) (h3 : decode M.2.1 (pc + 6) = .ok (.invokespecial ic, 3)) (h4 : decode M.2.1 (pc + 9) = .ok (.athrow, 1))
    (hk : 1 ≤ bk) (hn : 6 ≤ bn) (hd : 6 ≤ d) (hq : Q (.inr X) (nx + 1) t r i g) : Wf l E n0 M d mc ms Q bk bn pc L [] nx t r i g := by
  intro p e s m args below meth c C H locs cells slots ls a1 a2 a3 a4 a5 a6 T hT Y
  obtain ⟨⟨x1, x2, x3, x4⟩, ⟨x5, x6, x7, x7'⟩, ⟨e0, e1, e2, e5⟩, x8⟩ := hx
  have Y0 := wf_rebase (R' := wf_rm d 1 6) Y (Nat.le_refl _) (Nat.le_refl _) (show cells + 1 ≤ mc by omega) (show slots + 6 ≤ ms by omega)
  generalize hs' : T.setFrames (.invoking m args :: below) = s' at Y0
  have hvm : s'.vm = T.vm := by rw [← hs']; rfl
  have hhp : s'.heap = H := by rw [← hs', ← hT]; rfl
  have hW : s.WarmedH s'.vm := by rw [hvm]; exact Y.warmed
  have htr : e.platform.stackTraces = false := (show e.platform.stackTraces = l.stackTraces by rw [Y.admits.platform]).trans hl
  have hown : s'.vm.findClass M.1.cls = some m.cls := by rw [hW.alike.findClass]; exact C.2.2.2.2.1
  have hwd : ∀ w ∈ wl_ALL, w.before args s' = true := fun w hw => word_at hW (wl_good _ hw) (C.2.2.2.2.2.1 _ hw)
  have hJ : wl_J n0 s' := wl_J_moved hW (fun q hq => by rw [hhp]; exact a4 q hq) C.2.2.2.2.2.2.2.2.2
  have hjd : ∀ w ∈ wl_JW, w.before args s' = true := fun w hw => wl_J_word hJ hw args
  have hat : ∀ w ∈ wf_xa M.1.cls ic X jx cc Yc nm, w.before args s' = true := fun w hw => (x8 w hw).elim (hwd w) (hjd w)
  have htb : c.exceptionTable.toList = [] := List.map_eq_nil_iff.mp (C.2.2.2.2.2.2.2.1.2.trans hH)
  obtain ⟨k0, cf, i0, a0, hk0, hcf, hc0, hv0, hr0, hev⟩ := Cond.stringRef_spec hown (hjd _ x4)
  have K : W p l e (wf_rm d 1 6) s' m args below meth c H [] 0 0 (fun U => U.status = .running ∧ Ended U below (.threw H.size) ∧ s'.WarmedH U.vm ∧ s'.sameButNew ({ U with vm := s'.vm } : State) [] 1 6 ∧ ∃ ce, U.heap[H.size]? = some ce ∧ ce.vm = .none ∧ s'.vm.findClass X = some ce.cls) (F0 m pc ls []) := by
    refine W.newc (C := X) C.1 C.2.1 hown (hwd _ x1) (hwd _ x2) (hwd _ x3) rfl h0 (Nat.le_refl _) (Nat.le_refl _) fun cC kC b1 b2 b3 b4 => ?_
    refine lv_dup C.1 C.2.1 h1 rfl ?_
    intro T1 hT1 Y1
    have hcell : T1.heap[H.size]? = some (freshCell cC kC) := by
      rw [hT1, Array.getElem?_push_size]
    obtain ⟨U, ce, c1, c2, c3, c4, c5, c6, c7, c8⟩ := wf_made Y1 C.1 htr hown x5 x6 x7 e0 e1 e2 e5 hat (fun x hx => by cases hx) b1 b2 hcell (Nat.le_of_eq (by rw [hhp])) (msg := .ref a0) rfl (g := F0 m (pc + 3 + 1 + 2) ls [.ref a0, .ref H.size, .ref H.size]) rfl (a6.1.trans C.2.2.1.symm) rfl rfl (rest := []) rfl (by rw [C.2.1]; exact h3) (by rw [C.2.1]; exact h4) (fun x hx => by rw [htb] at hx; cases hx) (show nm.length + 4 < d by omega) (by show 2 * 0 + (1 + 0) + (13 * (nm.length + 2) + 42) ≤ 40 * d; omega) C.2.2.2.2.2.2.1
    exact ⟨U, Y1.ldcString C.1 hown (hjd _ x4) hev (g := F0 m (pc + 3 + 1) ls [.ref H.size, .ref H.size]) rfl (by rw [C.2.1]; exact h2) U c1, c2, c3, c4, c5, ce, c6, c7, by rw [c8]; exact b1⟩
  obtain ⟨U, u1, u2, u3, u4, u5, ce, u6, u7, u8⟩ := K T hT Y0
  have hsz : H.size = nx := a3.1
  have hz1 : U.heap.size = nx + 1 := by
    have z1 : U.heap.size ≤ s'.heap.size + 1 := u5.2.2.1
    have z2 : H.size < U.heap.size := (Array.getElem?_eq_some_iff.mp u6).1
    rw [hhp] at z1
    omega
  have hold : ∀ q : Nat, q < nx → U.heap[q]? = H[q]? := fun q hq => by
    have := wf_same_eq u5 (q := q) (by rw [hhp]; omega)
    rw [hhp] at this
    exact this
  refine ⟨U, u1, .threw H.size, u2, u3, ⟨.inr X, nx + 1, t, r, i, g, ⟨H.size, ce, rfl, by rw [hsz]; exact a3.2.1, u6, u7, ?_⟩, a3.grow hz1 (Nat.le_succ _) hold, fun q hq => (hold q (Nat.lt_of_lt_of_le hq a3.2.1)).trans (a4 q hq), hq⟩, locs, ?_, ?_, a5⟩
  · rw [← hW.alike.findClass]; exact u8
  · exact State.WarmedH.trans hW u4
  · have hA := Y.same.setFrames (.invoking m args :: below) Y.cur
    have hB : s.sameButNew (s'.setVm s.vm) locs cells slots := by rw [← hs']; exact hA
    have hC := hB.trans (u5.setVm s.vm)
    rw [List.append_nil] at hC
    exact State.sameButNew.weaken hC (fun y hy _ => hy) (show cells + 1 ≤ mc by omega) (show slots + 6 ≤ ms by omega)
end WfThrow
