/-! THE CLAIM OUT OF ONE WALK OF THE LAW'S BODY. Your part is whole_start (and what it stands on); all else here is the same for every law, but numbers. -/
def R_law : String := "LineRulesLaw"
def lw_P (b : Addr) (xs : List Int32) (args : Array Value) (s : State) : Prop := args = #[.ref b] ∧ s.IntsAt b xs ∧ xs.length ≤ 3072 ∧ (Jvm.Cond.and given_1 narrow_1).before args s = true
def lw_Q (_ : Array Value) (s : State) (o : Outcome) (t : State) : Prop := o = .returned (some (.int 1)) ∧ Framed s o t [] 601024 7293034
def lw_Z (below : List Frame) (a : Array Value) (s : State) : State → Prop := fun t => ∃ o, t.status = .running ∧ Ended t below o ∧ lw_Q a s o t
/-- the law's own end, with 1 on the stack, nothing written that was there before, its room as the claim has it -/
theorem lw_ret {p : Program} {l : Launch} {e : Env} {s : State} {m : MethodId} {below : List Frame} {meth : Method} {c : Code} {b : Nat} (hx : p.tables.exec = Jvm.exec) (hb : c.code = code) (hr : meth.sig.returnType = ret) (hlocks : meth.locks = false) {pc : Nat} {H : Heap} {ls : Array Slot} (hdg : decode code pc = .ok (.ireturn, 1)) : W p l e room_1 s m #[Value.ref b] below meth c H [] 601024 7293034 (lw_Z below #[Value.ref b] s) (F0 m pc ls [.int 1]) := by
  intro T hT X
  obtain ⟨fs, hret, hrun, hended, hW, hframe⟩ := X.leave (v := some (.int 1)) (hlocks := hlocks) (fun h => by rw [hr] at h; cases h)
  have hmeth' : T.vm.method? m = some meth := X.method'
  refine ⟨T.setFrames fs, ?_, .returned (some (.int 1)), hrun, hended, rfl, ⟨_, rfl⟩, hW, hframe⟩
  jvm_step X.here [X.here.top, hx, hb, hdg, hmeth', hr, ret, narrow_b1]
  (try refine ⟨rfl, ?_⟩); (try refine ⟨rfl, ?_⟩)
  first | (intro acts; rw [hret _ acts rfl rfl rfl]) | rw [hret _ _ rfl rfl rfl]
  exact Steps.refl _
/-- what holds at the law's entry: the machine, the code, the tables' words (any of lw_tbl by 'hts w (by decide +kernel)'), the script of L ints xs at the cell b, what the Statement gives of the start (any of its parts by flat_of_before) -/
def lw_At (p : Program) (s : State) (m : MethodId) (meth : Method) (c : Code) (b L : Nat) (xs : Nat → Int32) : Prop :=
  p.tables.exec = Jvm.exec ∧ c.code = code ∧ meth.sig.returnType = ret ∧ c.maxLocals = 7 ∧ s.vm.findClass R_law = some m.cls ∧ (∀ w ∈ lw_tbl, w.before #[Value.ref b] s = true) ∧ va_X b L xs s s.heap ∧ b < s.heap.size ∧ meth.locks = false ∧ (Jvm.Cond.and given_1 narrow_1).before #[Value.ref b] s = true ∧ meth.name = "law" ∧ c.exceptionTable.toList = []
/-! from the maps to the claim -/
/-- less room is enough -/
theorem st_room {p : Program} {l : Launch} {e : Env} {R R' : Room} {s : State} {m : MethodId} {args : Array Value} {below : List Frame} {meth : Method} {c : Code} {T : State} {locs : List Loc} {cells slots : Nat} (X : Stand p l e R s m args below meth c T locs cells slots) (h1 : R'.frames ≤ R.frames) (h2 : R'.cells ≤ R.cells) (h3 : R'.slots ≤ R.slots) (h4 : R'.locals ≤ R.locals) : Stand p l e R' s m args below meth c T locs cells slots := by
  have h := X.room
  simp only [State.hasRoom, Bool.and_eq_true, decide_eq_true_eq] at h
  obtain ⟨⟨⟨⟨a0, a1, a2, a3, a4, a5⟩, a6⟩, a7⟩, a8⟩ := h
  refine ⟨X.admits, X.cas, X.clock, X.frames, ?_, X.hears, X.method, X.code, X.here, X.tail, X.warmed, X.limits, X.bytes, X.same⟩
  simp only [State.hasRoom, Bool.and_eq_true, decide_eq_true_eq]
  exact ⟨⟨⟨⟨by omega, by omega, by omega, by omega, by omega, a5⟩, by omega⟩, by omega⟩, a8⟩
theorem st_E {s : State} {args : Array Value} {scr : Cell} (hts : ∀ w ∈ lw_tbl, w.before args s = true) (hscr : s.isArrayOf scr .int) : ∃ E : We, wf_K E s ∧ E.2.2 wl_AS = scr.cls := by
  have hw : ∀ w ∈ wl_ALL, w.before args s = true := fun w h => hts w (List.mem_filter.mp h).1
  have at' : ∀ (n : Nat) (w : Cond), lw_tbl[n]? = some w → w.before args s = true := fun n w h => hts w (List.mem_of_getElem? h)
  have hcl : ∀ c : Nat, ∃ z : ClassId × (Nat → Nat), ∀ q : vw_C, wl_CL[c]? = some q → u_Kn s q.1 q.2.1 q.2.2 z.1 z.2 := fun c => by
    have one : ∀ (q : vw_C) (n N : Nat), wl_CL[c]? = some q → lw_tbl[n]? = some (Cond.instantiable q.1 N) → ∃ z : ClassId × (Nat → Nat), ∀ q : vw_C, wl_CL[c]? = some q → u_Kn s q.1 q.2.1 q.2.2 z.1 z.2 := fun q n N hq hn => by
      obtain ⟨cC, iS, h⟩ := u_known hw (wl_ok c q hq).1 (at' n _ hn)
      refine ⟨(cC, iS), fun q' hq' => ?_⟩
      cases hq.symm.trans hq'
      exact h
    by_cases h : c < 9
    · have hc : c = 0 ∨ c = 1 ∨ c = 2 ∨ c = 3 ∨ c = 4 ∨ c = 5 ∨ c = 6 ∨ c = 7 ∨ c = 8 := by omega
      rcases hc with z | z | z | z | z | z | z | z | z <;> subst z
      · exact one _ 83 14 rfl (by decide +kernel)
      · exact one _ 196 5 rfl (by decide +kernel)
      · exact one _ 125 6 rfl (by decide +kernel)
      · exact one _ 242 2 rfl (by decide +kernel)
      · exact one _ 119 11 rfl (by decide +kernel)
      · exact one _ 91 2 rfl (by decide +kernel)
      · exact one _ 256 7 rfl (by decide +kernel)
      · exact one _ 222 3 rfl (by decide +kernel)
      · exact one _ 852 40 rfl (by decide +kernel)
    · refine ⟨(0, fun _ => 0), fun q hq => ?_⟩
      rw [List.getElem?_eq_none (Nat.not_lt.mp h)] at hq
      cases hq
  have prim : ∀ ty : FieldType, Cond.arrayClass ty ∈ wl_ALL → (∀ C, ty ≠ .object C) → ∃ cA, ArrOfT s cA ty ∧ va_RA s cA ty := fun ty h hno => by
    obtain ⟨cA, kA, comp, h1, h2, h3⟩ := Cond.arrayClass_spec (hw _ h)
    refine ⟨cA, fun n z => ⟨fun k q => (by cases q), kA, h2, comp, h3⟩, ?_⟩
    cases ty <;> first | exact h1 | exact absurd rfl (hno _)
  have obj : ∀ C : String, (Cond.arrayOver (.object C)).before args s = true → ∃ cA, ArrOfT s cA (.object C) ∧ va_RA s cA (.object C) := fun C h => by
    obtain ⟨comp, cA, kA, h1, -, h2, h3, h4⟩ := Cond.arrayOver_spec h
    exact ⟨cA, fun n z => ⟨fun k q => (by cases q), kA, h2, comp, h3⟩, kA, comp, h2, h3, h1, h4⟩
  have o3 : (Cond.arrayOver (.object "LineRules$Row")).before args s = true := at' 115 _ (by decide +kernel)
  have o4 : (Cond.arrayOver (.object "LineRules$Expression")).before args s = true := at' 117 _ (by decide +kernel)
  have o5 : (Cond.arrayOver (.object "LineRules$Rule")).before args s = true := at' 194 _ (by decide +kernel)
  have har : ∀ y : Nat, ∃ cA : ClassId, (y < wl_AN → ArrOfT s cA (wl_AT y) ∧ (y ≠ wl_AS → va_RA s cA (wl_AT y))) ∧ (y = wl_AS → cA = scr.cls) := fun y => by
    have mk : ∀ {ty}, wl_AT y = ty → y ≠ wl_AS → (∃ cA, ArrOfT s cA ty ∧ va_RA s cA ty) → ∃ cA : ClassId, (y < wl_AN → ArrOfT s cA (wl_AT y) ∧ (y ≠ wl_AS → va_RA s cA (wl_AT y))) ∧ (y = wl_AS → cA = scr.cls) := fun {ty} hy hs h => by
      obtain ⟨cA, h1, h2⟩ := h
      exact ⟨cA, fun _ => by rw [hy]; exact ⟨h1, fun _ => h2⟩, fun z => absurd z hs⟩
    by_cases h : y < 7
    · have hc : y = 0 ∨ y = 1 ∨ y = 2 ∨ y = 3 ∨ y = 4 ∨ y = 5 ∨ y = 6 := by omega
      rcases hc with z | z | z | z | z | z | z <;> subst z
      · exact mk (ty := .int) rfl (by decide) (prim _ ac_int (fun C z => by cases z))
      · exact mk (ty := .boolean) rfl (by decide) (prim _ ac_boolean (fun C z => by cases z))
      · exact mk (ty := .long) rfl (by decide) (prim _ ac_long (fun C z => by cases z))
      · exact mk rfl (by decide) (obj _ o3)
      · exact mk rfl (by decide) (obj _ o4)
      · exact mk rfl (by decide) (obj _ o5)
      · exact ⟨scr.cls, fun _ => ⟨fun n z => ⟨fun k q => (by cases q), hscr.2⟩, fun z => absurd rfl z⟩, fun _ => rfl⟩
    · exact ⟨0, fun z => absurd z h, fun z => absurd (show y < 7 by rw [z]; decide) h⟩
  obtain ⟨f, hf⟩ := Classical.axiomOfChoice hcl
  obtain ⟨a, ha⟩ := Classical.axiomOfChoice har
  refine ⟨(fun c => (f c).1, fun c => (f c).2, a), ⟨fun c q hq => hf c q hq, fun y hy => (ha y).1 hy, fun C0 hC => ?_⟩, (ha wl_AS).2 rfl⟩
  simp only [wl_OV, List.mem_cons, List.not_mem_nil, or_false] at hC
  rcases hC with rfl | rfl | rfl
  · exact va_AO.of o3
  · exact va_AO.of o4
  · exact va_AO.of o5
theorem jw_args {w : Cond} (h : wl_jw w = true) {A B : Array Value} {s : State} (hb : w.before A s = true) : w.before B s = true := by
  match w, h, hb with
  | .stringRef _ _ _, _, hb => exact hb
  | .laysStatic _ _ _, _, hb => exact hb
  | .isRef (.static _ _ _), _, hb => exact hb
  | .not (.castable _ _), _, hb => exact hb
  | .declares _, _, hb => exact hb
theorem whole_start {p : Program} {e : Env} {s : State} {m : MethodId} {below : List Frame} {meth : Method} {c : Code} (l : Launch) (hl : l.stackTraces = false) {b L : Nat} {xs : Nat → Int32} (hL : L ≤ 3072) (C0 : lw_At p s m meth c b L xs) : W p l e room_1 s m #[Value.ref b] below meth c s.heap [] 0 0 (lw_Z below #[Value.ref b] s) (entryFrame m ([Value.ref b] : List Value).toArray 7) := by
  obtain ⟨c1, c2, c3, c4, c5, hts, ⟨scr, q1, q2, q3, q4, q5⟩, hbl, hlk, hgv, hnm, htb⟩ := C0
  obtain ⟨E, hK, hE⟩ := st_E hts q2
  have hs := flat_of_before _ hgv
  have hall : ∀ w ∈ wl_NJ, w ∈ flatC (Jvm.Cond.and given_1 narrow_1) := by decide +kernel
  have hJ : wl_J s.heap.size s := ⟨s, rfl, State.WarmedH.refl s, fun _ _ => rfl, fun w hw => jw_args (wl_jw_all hw) (A := #[Value.ref b]) ((List.mem_append.mp hw).elim (fun h => hts w (List.mem_filter.mp h).1) (fun h => hs w (hall w h)))⟩
  have C : wf_C E s.heap.size mt_Law_law p s m #[Value.ref b] meth c := ⟨c1, c2, c4, c3, c5, fun w hw => hts w (List.mem_filter.mp hw).1, hlk, ⟨hnm, by rw [htb]; decide +kernel⟩, hK, hJ⟩
  have hR : wf_R E s.heap.size s.heap.size (fun a => if a = b then some (.inr (wl_AS, L)) else none) (fun _ _ => none) (fun a k => if a = b then xs k else 0) (fun _ _ => 0) s.heap := by
    refine ⟨rfl, Nat.le_refl _, fun a => ?_, fun a z hz => ?_, fun a ha => ?_⟩
    · by_cases hab : a = b
      · subst hab
        refine wf_A.iw (y := wl_AS) (n := L) (if_pos rfl) ⟨by decide, scr, q1, ?_⟩
        show scr.cls = E.2.2 wl_AS ∧ scr.vm ≠ .unknown ∧ (∀ k, scr.vm ≠ .statics k) ∧ scr.slots = _
        refine ⟨hE.symm, q3, q2.1, Array.ext_getElem? fun j => ?_⟩
        by_cases hj : j < L
        · rw [q5 j hj, arrV_read _ _ hj]
          show _ = some (Value.int (if a = a then xs j else 0))
          rw [if_pos rfl]
        · rw [Array.getElem?_eq_none (by rw [q4]; omega), Array.getElem?_eq_none (by rw [arrV_size]; omega)]
      · exact wf_A.in (if_neg hab)
    · dsimp only at hz
      by_cases hab : a = b
      · rw [if_pos hab] at hz
        cases hz
        exact Or.inr ⟨L, rfl⟩
      · rw [if_neg hab] at hz
        cases hz
    · have hab : a ≠ b := by omega
      exact ⟨if_neg hab, fun k => ⟨rfl, if_neg hab, rfl⟩⟩
  have K := law_all (l := l) (E := E) (n0 := s.heap.size) (d := 1998) (nx := s.heap.size) (t := fun a => if a = b then some (.inr (wl_AS, L)) else none) (r := fun _ _ => none) (i := fun a k => if a = b then xs k else 0) (g := fun _ _ => 0) (sc := b) (n := L) (Q := fun o _ _ _ _ _ => o = .inl (some (.int 1))) hl hL (fun _ _ _ _ _ => rfl) (if_pos rfl) hbl
  have K2 := K p e s m #[Value.ref b] below meth c C s.heap [] 0 0 _ (Nat.le_refl _) (Nat.le_refl _) hR (fun _ _ => rfl) (fun q hq => by cases hq) (lv_entry (n := 7) [Value.ref b] (Nat.le_of_ble_eq_true rfl))
  rw [← lg_entry_eq] at K2
  intro T hT X
  obtain ⟨u, a1, o, b1, b2, ⟨vo, nx', t', r', i', g', d1, -, -, d4⟩, L', f1, f2, f3⟩ := K2 T hT (st_room X (by decide) (by decide) (by decide) (by decide))
  subst d4
  have d1 : o = .returned (some (.int 1)) := d1
  subst d1
  exact ⟨u, a1, _, b1, b2, rfl, ⟨_, rfl⟩, f1, f2.weaken (fun y hy hy2 => absurd hy2 (Nat.not_lt.mpr (f3 y hy))) (Nat.le_refl _) (Nat.le_refl _)⟩
set_option maxHeartbeats 4000000 in
theorem lw_walk (l : Launch) (hl : l.stackTraces = false) (b : Addr) (xs : List Int32) : MetFree l x (headSpec (Jvm.Cond.code x code maxLocals ret :: tables_1) room_1) (lw_P b xs) (fun _ _ _ _ _ => True) lw_Q := by
  refine MetFree.of_bodyS (code := code) (maxLocals := maxLocals) (ret := ret) (by decide) ?_ ?_
  · intro args s m h hn
    obtain ⟨meth, c, h1, h2, h3, h4, h5, h6, -, -⟩ := Cond.code_spec hn (atoms_spec (ws := Jvm.Cond.code x code maxLocals ret :: tables_1) h _ List.mem_cons_self)
    exact ⟨meth, c, h1, h2, h3, h4, h5, h6⟩
  · intro p e s m args below meth c s₁ B hml0 hP _
    obtain ⟨rfl, hx, hbd, hgv⟩ := hP
    obtain ⟨scr, harrAt, hlist, hof, hsmall⟩ := hx
    obtain ⟨hcb, hkn, -, -⟩ := State.arrayAt?_spec harrAt
    have hown : s.vm.findClass R_law = some m.cls := findClass_of_methodNamed B.named
    have hts0 : ∀ c ∈ (Jvm.Cond.code x code maxLocals ret :: tables_1), c.before #[Value.ref b] s = true := atoms_spec (ws := Jvm.Cond.code x code maxLocals ret :: tables_1) B.pre
    have hts : ∀ w ∈ lw_tbl, w.before #[Value.ref b] s = true := k2_hts_sels lw_privs (fun w hw => hts0 w (List.mem_cons_of_mem _ hw)) lw_privs_ok
    have hml : c.maxLocals = 7 := B.maxLocals_eq (hts0 _ List.mem_cons_self)
    have X₀ : Stand p l e room_1 s m #[Value.ref b] below meth c s₁ [] 0 0 := Stand.of_body B
    have hh0 : s₁.heap = s.heap := by rw [B.state]; rfl
    have hsz : scr.slots.size = xs.length := by rw [← Array.length_toList, hlist, List.length_map]
    have hval : ∀ j : Nat, j < xs.length → scr.slots[j]? = some (.int (xs.getD j 0)) := fun j hj => by
      rw [← Array.getElem?_toList, hlist]
      simp [hj]
    have hbl : b < s.heap.size := (Array.getElem?_eq_some_iff.mp hcb).1
    have hX : va_X b xs.length (fun j => xs.getD j 0) s s.heap := ⟨scr, hcb, hof, hkn, hsz, hval⟩
    have K : W p l e room_1 s m #[Value.ref b] below meth c s₁.heap [] 0 0 (lw_Z below #[Value.ref b] s) (entryFrame m ([Value.ref b] : List Value).toArray 7) := by
      rw [hh0]
      exact whole_start l hl hbd ⟨B.exec, B.bytes, B.returns, hml, hown, hts, hX, hbl, B.notSynchronized, hgv, (name_of_methodNamed B.named B.method).1, by
        obtain ⟨meth', c', q1, q2, -, -, -, -, q7, -⟩ := Cond.code_spec B.named (hts0 _ List.mem_cons_self)
        cases X₀.method.symm.trans q1
        cases X₀.code.symm.trans q2
        simpa using q7⟩
    obtain ⟨t, a1, o, b1, b2, b3⟩ := K s₁ rfl X₀
    exact ⟨t, o, a1, b1, b2, b3⟩
theorem lw_pre_spec {args : Array Value} {s : State} (h : (Jvm.Cond.and given_1 narrow_1).before args s = true) (hr : rest_1_c.before args s = true) : ∃ (b : Addr) (xs : List Int32), lw_P b xs args s := by
  have hs := flat_of_before _ h
  have hq := flat_of_before _ hr
  have hc : (Cond.count 1).before args s = true := hs _ (by decide +kernel)
  have harr : (Cond.arrayOf (.arg 0) .int).before args s = true := hs _ (by decide +kernel)
  have hle : (Cond.le (.length (.arg 0)) (.int 3072)).before args s = true := hs _ (by decide +kernel)
  have hlen : (Cond.isInt (.length (.arg 0))).before args s = true := hq _ (by decide +kernel)
  have hall : (Cond.all (.arg 0) (.isInt (.elem (.arg 0) (.index 0)))).before args s = true := hq _ (by decide +kernel)
  obtain ⟨b, xs, hb, hx⟩ := State.ints_of_pre rfl harr hlen hall
  have hsm : xs.length < 2 ^ 31 := hx.choose_spec.2.2.2
  have hev : (Term.length (.arg 0)).eval args s none [] s = some (.int xs.length.toInt32) := hx.length_eval hb
  have hv := Cond.le_ints hev (show (Term.int 3072).eval args s none [] s = some (.int 3072) from rfl)
  have hd : xs.length.toInt32 ≤ 3072 := by
    simpa [Cond.before, Cond.holds, hv] using hle
  have hN : xs.length ≤ 3072 := (Int32.ofNat_le_ofNat hsm (by decide)).mp (show Int32.ofNat xs.length ≤ Int32.ofNat 3072 from hd)
  exact ⟨b, xs, Cond.one_arg hc (show args[0]? = some (.ref b) from hb), hx, hN, h⟩
theorem lw_comes (l : Launch) (hl : l.stackTraces = false) : Comes l x (Jvm.Cond.code x code maxLocals ret :: tables_1) room_1 (fun tb e args s => Calls_1 tb e args s ∧ rest_1 tb e args s ∧ Pre_1 tb e args s)
    (fun _ _ args s o t => lw_Q args s o t) := by
  intro p e ha hc hk s m args below hf hfit hheap happ hpre
  obtain ⟨b, xs, hP⟩ := lw_pre_spec hpre.2.2 hpre.2.1
  obtain ⟨k, o, h1, h2, h3, hQ⟩ := lw_walk l hl b xs p e ha hc hk s m args below hf ((Spec.applies_iff_loose hf).mp happ).1 hP trivial
  exact ⟨k, o, h1, h2, h3, hQ⟩
theorem lw_frame {s t : State} {o : Outcome} {args : Array Value} (h : Framed s o t [] 601024 7293034) :
    Framed s o t (fieldLocs frame_1_writes args s ++ arrayLocs frame_1_arrays args s ++ staticLocs frame_1_statics s) 601024 7293034 := h
theorem lw_limb (L : Cond) (hL : ∀ (args : Array Value) (s t : State), L.after args s (.returned (some (.int 1))) t = true) :
    ArmFor flags0 classFile x code maxLocals ret World_1 tables_1 room_1 Calls_1 rest_1 Pre_1
      (fun tb e a s o t => postC L tb e a s o t ∧ Framed s o t (fieldLocs frame_1_writes a s ++ arrayLocs frame_1_arrays a s ++ staticLocs frame_1_statics s) 601024 7293034) := by
  intro l hfl _ _ p e ha hc hk s m args below hf hfit hheap happ hpre
  obtain ⟨k, o, h1, h2, h3, rfl, hF⟩ := lw_comes l (by unfold Launch.stackTraces; rw [hfl]; decide) p e ha hc hk s m args below hf hfit hheap happ hpre
  exact ⟨k, _, h1, h2, h3, hL args s _, lw_frame hF⟩
theorem i_vc : Claimed_1_1 ∧ Claimed_1_2 := ⟨lw_limb limb_1_1 (fun args s t => by simp [limb_1_1, Cond.after, Cond.holds, Cond.value]), lw_limb limb_1_2 (fun args s t => Cond.after_iff.mpr (by
  first | (rw [show limb_1_2 = Cond.eq .result (.int 1) from rfl, Cond.eq_ints (x := 1) (y := 1) rfl rfl]; simp; done) | (simp [limb_1_2, Cond.value, Term.eval]; done)))⟩
