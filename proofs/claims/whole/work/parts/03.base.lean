/-! The layer over the kit: a heap as four maps (kinds, references, ints, longs), split by slot; Wf: the machine inside a method, seen through these maps; Ct: a method's contract. Cells from n0 on are the run's own; of the older ones the script's alone is seen (kind wl_AS), and nothing older is written. -/
abbrev Wt : Type := Nat → Option (Nat ⊕ (Nat × Nat))
abbrev Wr : Type := Nat → Nat → Option Nat
abbrev Wi : Type := Nat → Nat → Int32
abbrev Wl : Type := Nat → Nat → Int64
/-- class numbers, slots, array classes -/
abbrev We : Type := (Nat → ClassId) × (Nat → Nat → Nat) × (Nat → ClassId)
/-- a method: name, bytes, locals, answer -/
abbrev Wm : Type := MethodName × ByteArray × Nat × Option FieldType
/-- how a method ends: an answer, or an exception of a class -/
abbrev Wo : Type := Option Value ⊕ String
abbrev Wq : Type := Wo → Nat → Wt → Wr → Wi → Wl → Prop
def wf_up1 {α : Type} (f : Nat → α) (a : Nat) (v : α) : Nat → α := fun b => if b = a then v else f b
def wf_up {α : Type} (f : Nat → Nat → α) (a k : Nat) (v : α) : Nat → Nat → α := fun b j => if b = a ∧ j = k then v else f b j
theorem wf_up1_s {α : Type} {f : Nat → α} {a : Nat} {v : α} : wf_up1 f a v a = v := if_pos rfl
theorem wf_up1_n {α : Type} {f : Nat → α} {a b : Nat} {v : α} (h : b ≠ a) : wf_up1 f a v b = f b := if_neg h
theorem wf_up_s {α : Type} {f : Nat → Nat → α} {a k : Nat} {v : α} : wf_up f a k v a k = v := if_pos ⟨rfl, rfl⟩
theorem wf_up_a {α : Type} {f : Nat → Nat → α} {a b k j : Nat} {v : α} (h : b ≠ a) : wf_up f a k v b j = f b j := if_neg fun q => h q.1
theorem wf_up_k {α : Type} {f : Nat → Nat → α} {a b k j : Nat} {v : α} (h : j ≠ k) : wf_up f a k v b j = f b j := if_neg fun q => h q.2
/-- 0: an int's slot; 1: a long's; 2: a reference's -/
def wf_kd : FieldType → Nat
  | .long => 1
  | .object _ => 2
  | .array _ => 2
  | _ => 0
/-- the value in slot k of cell a, by its type -/
def wf_v (y : FieldType) (r : Wr) (i : Wi) (g : Wl) (a k : Nat) : Value := match wf_kd y with
  | 1 => .long (g a k)
  | 2 => va_rf (r a k)
  | _ => .int (i a k)
theorem wf_v_c {y : FieldType} {r r' : Wr} {i i' : Wi} {g g' : Wl} {a k : Nat} (h1 : r' a k = r a k) (h2 : i' a k = i a k) (h3 : g' a k = g a k) : wf_v y r' i' g' a k = wf_v y r i g a k := by
  unfold wf_v
  rw [h1, h2, h3]
theorem wf_v_i {y : FieldType} {r : Wr} {i : Wi} {g : Wl} {a k : Nat} (h : wf_kd y = 0) : wf_v y r i g a k = .int (i a k) := by
  unfold wf_v
  rw [h]
  rfl
theorem wf_v_l {y : FieldType} {r : Wr} {i : Wi} {g : Wl} {a k : Nat} (h : wf_kd y = 1) : wf_v y r i g a k = .long (g a k) := by
  unfold wf_v
  rw [h]
  rfl
theorem wf_v_r {y : FieldType} {r : Wr} {i : Wi} {g : Wl} {a k : Nat} (h : wf_kd y = 2) : wf_v y r i g a k = va_rf (r a k) := by
  unfold wf_v
  rw [h]
  rfl
/-- an array's cell: one of the run's own, or the script's, which may be marked in ways that nobody looks at -/
def wf_ce (old : Bool) (cA : ClassId) (n : Nat) (f : Nat → Value) (ce : Cell) : Prop := match old with
  | false => ce = arrV cA n f
  | true => ce.cls = cA ∧ ce.vm ≠ .unknown ∧ (∀ k, ce.vm ≠ .statics k) ∧ ce.slots = (arrV cA n f).slots
theorem wf_ce.r {old : Bool} {cA : ClassId} {n : Nat} {f : Nat → Value} {ce : Cell} (h : wf_ce old cA n f ce) : ce.cls = cA ∧ ce.vm ≠ .unknown ∧ (∀ k, ce.vm ≠ .statics k) ∧ ce.slots = (arrV cA n f).slots := by
  cases old with
  | true => exact h
  | false =>
    have h : ce = arrV cA n f := h
    subst h
    exact ⟨rfl, fun q => (by cases q), fun k q => (by cases q), rfl⟩
theorem wf_beq {y : Nat} (h : y ≠ wl_AS) : Nat.beq y wl_AS = false := by
  cases hb : Nat.beq y wl_AS with
  | false => rfl
  | true => exact absurd (Nat.eq_of_beq_eq_true hb) h
def wf_A (E : We) (t : Wt) (r : Wr) (i : Wi) (g : Wl) (a : Nat) (H : Heap) : Prop := match t a with
  | none => True
  | some (.inl c) => ∃ q : vw_C, wl_CL[c]? = some q ∧ t_OB a (E.1 c) q.2.2 (E.2.1 c) H (fun k => wf_v (wl_TY c k) r i g a k)
  | some (.inr (y, n)) => y < wl_AN ∧ ∃ ce : Cell, H[a]? = some ce ∧ wf_ce (Nat.beq y wl_AS) (E.2.2 y) n (fun j => wf_v (wl_AT y) r i g a j) ce
theorem wf_A.o {E : We} {t : Wt} {r : Wr} {i : Wi} {g : Wl} {a c : Nat} {H : Heap} (h : wf_A E t r i g a H) (ht : t a = some (.inl c)) : ∃ q : vw_C, wl_CL[c]? = some q ∧ t_OB a (E.1 c) q.2.2 (E.2.1 c) H (fun k => wf_v (wl_TY c k) r i g a k) := by
  unfold wf_A at h
  rw [ht] at h
  exact h
theorem wf_A.w {E : We} {t : Wt} {r : Wr} {i : Wi} {g : Wl} {a y n : Nat} {H : Heap} (h : wf_A E t r i g a H) (ht : t a = some (.inr (y, n))) : y < wl_AN ∧ ∃ ce : Cell, H[a]? = some ce ∧ wf_ce (Nat.beq y wl_AS) (E.2.2 y) n (fun j => wf_v (wl_AT y) r i g a j) ce := by
  unfold wf_A at h
  rw [ht] at h
  exact h
theorem wf_A.a {E : We} {t : Wt} {r : Wr} {i : Wi} {g : Wl} {a y n : Nat} {H : Heap} (h : wf_A E t r i g a H) (ht : t a = some (.inr (y, n))) (hs : y ≠ wl_AS) : y < wl_AN ∧ H[a]? = some (arrV (E.2.2 y) n (fun j => wf_v (wl_AT y) r i g a j)) := by
  obtain ⟨h1, ce, h2, h3⟩ := h.w ht
  rw [wf_beq hs] at h3
  have h3 : ce = _ := h3
  exact ⟨h1, by rw [h2, h3]⟩
theorem wf_A.io {E : We} {t : Wt} {r : Wr} {i : Wi} {g : Wl} {a c : Nat} {H : Heap} (ht : t a = some (.inl c)) (h : ∃ q : vw_C, wl_CL[c]? = some q ∧ t_OB a (E.1 c) q.2.2 (E.2.1 c) H (fun k => wf_v (wl_TY c k) r i g a k)) : wf_A E t r i g a H := by
  unfold wf_A
  rw [ht]
  exact h
theorem wf_A.iw {E : We} {t : Wt} {r : Wr} {i : Wi} {g : Wl} {a y n : Nat} {H : Heap} (ht : t a = some (.inr (y, n))) (h : y < wl_AN ∧ ∃ ce : Cell, H[a]? = some ce ∧ wf_ce (Nat.beq y wl_AS) (E.2.2 y) n (fun j => wf_v (wl_AT y) r i g a j) ce) : wf_A E t r i g a H := by
  unfold wf_A
  rw [ht]
  exact h
theorem wf_A.ia {E : We} {t : Wt} {r : Wr} {i : Wi} {g : Wl} {a y n : Nat} {H : Heap} (hs : y ≠ wl_AS) (ht : t a = some (.inr (y, n))) (h : y < wl_AN ∧ H[a]? = some (arrV (E.2.2 y) n (fun j => wf_v (wl_AT y) r i g a j))) : wf_A E t r i g a H := wf_A.iw ht ⟨h.1, _, h.2, by rw [wf_beq hs]; rfl⟩
theorem wf_A.in {E : We} {t : Wt} {r : Wr} {i : Wi} {g : Wl} {a : Nat} {H : Heap} (ht : t a = none) : wf_A E t r i g a H := by
  unfold wf_A
  rw [ht]
  trivial
theorem wf_A.tr {E : We} {t t' : Wt} {r r' : Wr} {i i' : Wi} {g g' : Wl} {b : Nat} {H H' : Heap} (h : wf_A E t r i g b H) (ht : t' b = t b) (hq : H'[b]? = H[b]?) (ho : ∀ k, r' b k = r b k ∧ i' b k = i b k ∧ g' b k = g b k) : wf_A E t' r' i' g' b H' := by
  cases hb : t b with
  | none => exact wf_A.in (ht.trans hb)
  | some z =>
    cases z with
    | inl c =>
      obtain ⟨q, h1, h2⟩ := h.o hb
      exact wf_A.io (ht.trans hb) ⟨q, h1, (h2.kept hq).to (fun k _ => (wf_v_c (ho k).1 (ho k).2.1 (ho k).2.2).symm)⟩
    | inr z =>
      obtain ⟨y, n⟩ := z
      obtain ⟨h1, ce, h2, h3⟩ := h.w hb
      have hf : (fun k => wf_v (wl_AT y) r' i' g' b k) = (fun k => wf_v (wl_AT y) r i g b k) := funext fun k => wf_v_c (ho k).1 (ho k).2.1 (ho k).2.2
      exact wf_A.iw (ht.trans hb) ⟨h1, ce, hq.trans h2, by rw [hf]; exact h3⟩
def wf_R (E : We) (n0 nx : Nat) (t : Wt) (r : Wr) (i : Wi) (g : Wl) (H : Heap) : Prop :=
  H.size = nx ∧ n0 ≤ nx ∧ (∀ a, wf_A E t r i g a H) ∧ (∀ a z, t a = some z → n0 ≤ a ∨ ∃ n, z = .inr (wl_AS, n)) ∧ ∀ a, nx ≤ a → t a = none ∧ ∀ k, r a k = none ∧ i a k = 0 ∧ g a k = 0
theorem wf_R.lt {E : We} {n0 nx : Nat} {t : Wt} {r : Wr} {i : Wi} {g : Wl} {H : Heap} {a : Nat} {z : Nat ⊕ (Nat × Nat)} (h : wf_R E n0 nx t r i g H) (ha : t a = some z) : a < nx :=
  Nat.not_le.mp fun q => by
    have h1 := (h.2.2.2.2 a q).1
    rw [ha] at h1
    cases h1
/-- one cell is written -/
theorem wf_R.put {E : We} {n0 nx : Nat} {t : Wt} {r r' : Wr} {i i' : Wi} {g g' : Wl} {H H' : Heap} {a : Nat} {z : Nat ⊕ (Nat × Nat)} (h : wf_R E n0 nx t r i g H) (hz : H'.size = H.size) (hq : ∀ q : Nat, q ≠ a → H'[q]? = H[q]?) (ha : t a = some z) (hA : wf_A E t r' i' g' a H')
    (ho : ∀ b, b ≠ a → ∀ k, r' b k = r b k ∧ i' b k = i b k ∧ g' b k = g b k) : wf_R E n0 nx t r' i' g' H' := by
  refine ⟨hz.trans h.1, h.2.1, fun b => ?_, h.2.2.2.1, fun b hb => ?_⟩
  · by_cases hba : b = a
    · rw [hba]; exact hA
    · exact (h.2.2.1 b).tr rfl (hq b hba) (ho b hba)
  · have hne : b ≠ a := fun q => by
      have := h.lt ha
      omega
    obtain ⟨h1, h2⟩ := h.2.2.2.2 b hb
    refine ⟨h1, fun k => ?_⟩
    rw [(ho b hne k).1, (ho b hne k).2.1, (ho b hne k).2.2]
    exact h2 k
/-- one cell comes -/
theorem wf_R.new {E : We} {n0 nx : Nat} {t : Wt} {r : Wr} {i : Wi} {g : Wl} {H H' : Heap} {z : Nat ⊕ (Nat × Nat)} (h : wf_R E n0 nx t r i g H) (hz : H'.size = nx + 1) (hq : ∀ q : Nat, q < nx → H'[q]? = H[q]?) (hA : wf_A E (wf_up1 t nx (some z)) r i g nx H') : wf_R E n0 (nx + 1) (wf_up1 t nx (some z)) r i g H' := by
  refine ⟨hz, Nat.le_succ_of_le h.2.1, fun b => ?_, fun b w hb => ?_, fun b hb => ?_⟩
  · by_cases hba : b = nx
    · rw [hba]; exact hA
    · by_cases hlt : b < nx
      · exact (h.2.2.1 b).tr (wf_up1_n hba) (hq b hlt) (fun k => ⟨rfl, rfl, rfl⟩)
      · exact wf_A.in (by rw [wf_up1_n hba]; exact (h.2.2.2.2 b (by omega)).1)
  · by_cases hba : b = nx
    · rw [hba]; exact Or.inl h.2.1
    · rw [wf_up1_n hba] at hb
      exact h.2.2.2.1 b w hb
  · rw [wf_up1_n (by omega)]
    exact h.2.2.2.2 b (by omega)
/-- cells come that nobody looks at -/
theorem wf_R.grow {E : We} {n0 nx nx' : Nat} {t : Wt} {r : Wr} {i : Wi} {g : Wl} {H H' : Heap} (h : wf_R E n0 nx t r i g H) (hz : H'.size = nx') (hl : nx ≤ nx') (hq : ∀ q : Nat, q < nx → H'[q]? = H[q]?) : wf_R E n0 nx' t r i g H' := by
  refine ⟨hz, Nat.le_trans h.2.1 hl, fun b => ?_, h.2.2.2.1, fun b hb => h.2.2.2.2 b (Nat.le_trans hl hb)⟩
  cases hb : t b with
  | none => exact wf_A.in hb
  | some z => exact (h.2.2.1 b).tr rfl (hq b (h.lt hb)) (fun k => ⟨rfl, rfl, rfl⟩)
def wf_K (E : We) (U : State) : Prop := (∀ (c : Nat) (q : vw_C), wl_CL[c]? = some q → u_Kn U q.1 q.2.1 q.2.2 (E.1 c) (E.2.1 c)) ∧ (∀ y, y < wl_AN → ArrOfT U (E.2.2 y) (wl_AT y) ∧ (y ≠ wl_AS → va_RA U (E.2.2 y) (wl_AT y))) ∧ ∀ C0 ∈ wl_OV, va_AO C0 U
theorem wf_K.moved {E : We} {u U : State} (hvm : u.vm.Alike U.vm) (h : wf_K E u) : wf_K E U := ⟨fun c q hq => u_Kn_moved hvm (h.1 c q hq), fun y hy => ⟨arrOfT_moved hvm (h.2.1 y hy).1, fun hs => ((h.2.1 y hy).2 hs).moved hvm⟩, fun C0 hC => (h.2.2 C0 hC).moved hvm⟩
/-- old cells are as they were -/
def wf_O (n0 : Nat) (H0 H : Heap) : Prop := ∀ q : Nat, q < n0 → H[q]? = H0[q]?
def wf_out (n0 : Nat) (s t : State) (o : Outcome) : Wo → Prop
  | .inl v => o = .returned v
  | .inr X => ∃ (a : Nat) (ce : Cell), o = .threw a ∧ n0 ≤ a ∧ t.heap[a]? = some ce ∧ ce.vm = .none ∧ s.vm.findClass X = some ce.cls
def wf_Q (E : We) (n0 : Nat) (Q : Wq) : Array Value → State → Outcome → State → Prop := fun _ st o u => ∃ (v : Wo) (nx : Nat) (t : Wt) (r : Wr) (i : Wi) (g : Wl), wf_out n0 st u o v ∧ wf_R E n0 nx t r i g u.heap ∧ wf_O n0 st.heap u.heap ∧ Q v nx t r i g
def wf_F (n0 mc ms : Nat) (st : State) (u : State) : Prop := ∃ L : List Loc, st.WarmedH u.vm ∧ st.sameButNew ({ u with vm := st.vm } : State) L mc ms ∧ ∀ q ∈ L, n0 ≤ q.base
def wf_rm (d mc ms : Nat) : Room := { frames := d, cells := mc, slots := ms, locals := 40 * d }
abbrev wf_ws (M : Wm) : List Cond := Cond.code M.1 M.2.1 M.2.2.1 M.2.2.2 :: wl_ALL
/-- what a method begins with -/
def wf_P (E : We) (n0 : Nat) (av : List Value) (nx : Nat) (t : Wt) (r : Wr) (i : Wi) (g : Wl) : Array Value → State → Prop := va_Pc av (fun U => wf_R E n0 nx t r i g U.heap ∧ wf_K E U ∧ wl_J n0 U)
/-- A CONTRACT: method M, called with av over the maps, ends as Q says; d frames, mc cells of ms slots -/
def Ct (l : Launch) (E : We) (n0 : Nat) (M : Wm) (d mc ms : Nat) (av : List Value) (nx : Nat) (t : Wt) (r : Wr) (i : Wi) (g : Wl) (Q : Wq) : Prop :=
  MetFree l M.1 (headSpec (wf_ws M) (wf_rm d mc ms)) (wf_P E n0 av nx t r i g) (fun _ _ _ _ _ => True) (fun a st o u => wf_Q E n0 Q a st o u ∧ wf_F n0 mc ms st u)
theorem Ct.mono {l : Launch} {E : We} {n0 : Nat} {M : Wm} {d mc ms : Nat} {av : List Value} {nx : Nat} {t : Wt} {r : Wr} {i : Wi} {g : Wl} {Q Q' : Wq} (h : Ct l E n0 M d mc ms av nx t r i g Q) (hq : ∀ v nx t r i g, Q v nx t r i g → Q' v nx t r i g) : Ct l E n0 M d mc ms av nx t r i g Q' := by
  intro p e h1 h2 h3 s m args below h4 h5 h6 h7
  obtain ⟨n, o, a1, a2, a3, ⟨v, nx', t', r', i', g', b1, b2, b3, b4⟩, a5⟩ := h p e h1 h2 h3 s m args below h4 h5 h6 h7
  exact ⟨n, o, a1, a2, a3, ⟨v, nx', t', r', i', g', b1, b2, b3, hq _ _ _ _ _ _ b4⟩, a5⟩
/-- a contract of a method that always answers, as the kit has it -/
theorem Ct.met {l : Launch} {E : We} {n0 : Nat} {M : Wm} {d mc ms : Nat} {av : List Value} {nx : Nat} {t : Wt} {r : Wr} {i : Wi} {g : Wl} {Q : Wq} (h : Ct l E n0 M d mc ms av nx t r i g Q) (hq : ∀ X nx t r i g, ¬ Q (.inr X) nx t r i g) :
    Met l M.1 (wf_ws M) (wf_rm d mc ms) (wf_P E n0 av nx t r i g) (wf_Q E n0 Q) mc ms (fun q => n0 ≤ q) := by
  intro p e h1 h2 h3 s m args below h4 h5 h6 h7
  obtain ⟨n, o, a1, a2, a3, ⟨v, nx', t', r', i', g', b1, b2, b3, b4⟩, L, c1, c2, c3⟩ := h p e h1 h2 h3 s m args below h4 h5 h6 h7
  refine ⟨n, o, a1, a2, a3, ⟨v, nx', t', r', i', g', b1, b2, b3, b4⟩, L, ⟨?_, c1, c2⟩, c3⟩
  cases v with
  | inl v => exact ⟨v, b1⟩
  | inr X => exact absurd b4 (hq _ _ _ _ _ _)
/-- what holds of the machine inside a method -/
def wf_C (E : We) (n0 : Nat) (M : Wm) (p : Program) (s : State) (m : MethodId) (args : Array Value) (meth : Method) (c : Code) : Prop :=
  p.tables.exec = Jvm.exec ∧ c.code = M.2.1 ∧ c.maxLocals = M.2.2.1 ∧ meth.sig.returnType = M.2.2.2 ∧ s.vm.findClass M.1.cls = some m.cls ∧ (∀ w ∈ wl_ALL, w.before args s = true) ∧ meth.locks = false ∧ (meth.name = M.1.name ∧ c.exceptionTable.toList.map (fun h => (h.startPc, h.endPc, h.handlerPc, h.catchType)) = wl_H M.1) ∧ wf_K E s ∧ wl_J n0 s
/-- the end of a method -/
def wf_Z (E : We) (n0 mc ms : Nat) (Q : Wq) (below : List Frame) (args : Array Value) (s : State) : State → Prop := fun u => ∃ o, u.status = .running ∧ Ended u below o ∧ wf_Q E n0 Q args s o u ∧ wf_F n0 mc ms s u
/-- THE MACHINE INSIDE A METHOD: at pc, with the locals L, the operand stack st, over the maps; bk cells of bn slots may still be made -/
def Wf (l : Launch) (E : We) (n0 : Nat) (M : Wm) (d mc ms : Nat) (Q : Wq) (bk bn : Nat) (pc : Nat) (L : List (Nat × Value)) (st : List Value) (nx : Nat) (t : Wt) (r : Wr) (i : Wi) (g : Wl) : Prop :=
  ∀ (p : Program) (e : Env) (s : State) (m : MethodId) (args : Array Value) (below : List Frame) (meth : Method) (c : Code), wf_C E n0 M p s m args meth c →
  ∀ (H : Heap) (locs : List Loc) (cells slots : Nat) (ls : Array Slot), cells + bk ≤ mc → slots + bn ≤ ms → wf_R E n0 nx t r i g H → wf_O n0 s.heap H → (∀ q ∈ locs, n0 ≤ q.base) → lv_has ls M.2.2.1 L →
  W p l e (wf_rm d mc ms) s m args below meth c H locs cells slots (wf_Z E n0 mc ms Q below args s) (F0 m pc ls st)
/-! the locals -/
def wf_isL : Value → Bool
  | .long _ => true
  | .double _ => true
  | _ => false
theorem wf_isL_c (v : Value) (h : wf_isL v = false) : ¬ v.category = 2 := by
  cases v <;> simp [wf_isL, Value.category] at h ⊢
def wf_get : List (Nat × Value) → Nat → Option Value
  | [], _ => none
  | (k, v) :: q, j => match Nat.beq k j with
    | true => some v
    | false => wf_get q j
def wf_d1 : List (Nat × Value) → Nat → List (Nat × Value)
  | [], _ => []
  | (k, v) :: q, j => match Nat.beq k j || (Nat.beq (k + 1) j && wf_isL v) with
    | true => wf_d1 q j
    | false => (k, v) :: wf_d1 q j
def wf_d2 : List (Nat × Value) → Nat → List (Nat × Value)
  | [], _ => []
  | (k, v) :: q, j => match Nat.beq k j || (Nat.beq k (j + 1) || (Nat.beq (k + 1) j && wf_isL v)) with
    | true => wf_d2 q j
    | false => (k, v) :: wf_d2 q j
theorem wf_get_mem {L : List (Nat × Value)} {j : Nat} {v : Value} (h : wf_get L j = some v) : (j, v) ∈ L := by
  induction L with
  | nil => cases h
  | cons q k ih =>
    obtain ⟨a, b⟩ := q
    cases hb : Nat.beq a j with
    | true =>
      simp only [wf_get, hb] at h
      rw [← Nat.eq_of_beq_eq_true hb, Option.some.inj h]
      exact List.mem_cons_self
    | false =>
      simp only [wf_get, hb] at h
      exact List.mem_cons_of_mem _ (ih h)
theorem wf_get_at {ls : Array Slot} {nL : Nat} {L : List (Nat × Value)} {j : Nat} {v : Value} (h : lv_has ls nL L) (hg : wf_get L j = some v) : ls[j]? = some (.val v) := h.2.2 (j, v) (wf_get_mem hg)
theorem wf_get_ix {L : List (Nat × Value)} {j : Nat} {v : Value} (hg : wf_get L j = some v) : ∃ q : Nat, L[q]? = some (j, v) := List.getElem?_of_mem (wf_get_mem hg)
theorem wf_d1_mem {L : List (Nat × Value)} {j : Nat} {q : Nat × Value} (h : q ∈ wf_d1 L j) : q ∈ L ∧ q.1 ≠ j ∧ ¬ (q.1 + 1 = j ∧ q.2.category = 2) := by
  induction L with
  | nil => cases h
  | cons z k ih =>
    obtain ⟨a, b⟩ := z
    cases hb : (Nat.beq a j || (Nat.beq (a + 1) j && wf_isL b)) with
    | true =>
      simp only [wf_d1, hb] at h
      exact ⟨List.mem_cons_of_mem _ (ih h).1, (ih h).2⟩
    | false =>
      simp only [wf_d1, hb] at h
      rcases List.mem_cons.mp h with rfl | h
      · rw [Bool.or_eq_false_iff] at hb
        refine ⟨List.mem_cons_self, Nat.ne_of_beq_eq_false hb.1, fun ⟨q1, q2⟩ => ?_⟩
        have h2 := hb.2
        rw [show Nat.beq (a + 1) j = true by rw [← q1]; exact Nat.beq_refl _, Bool.true_and] at h2
        exact wf_isL_c b h2 q2
      · exact ⟨List.mem_cons_of_mem _ (ih h).1, (ih h).2⟩
theorem wf_d2_mem {L : List (Nat × Value)} {j : Nat} {q : Nat × Value} (h : q ∈ wf_d2 L j) : q ∈ L ∧ q.1 ≠ j ∧ q.1 ≠ j + 1 ∧ ¬ (q.1 + 1 = j ∧ q.2.category = 2) := by
  induction L with
  | nil => cases h
  | cons z k ih =>
    obtain ⟨a, b⟩ := z
    cases hb : (Nat.beq a j || (Nat.beq a (j + 1) || (Nat.beq (a + 1) j && wf_isL b))) with
    | true =>
      simp only [wf_d2, hb] at h
      exact ⟨List.mem_cons_of_mem _ (ih h).1, (ih h).2⟩
    | false =>
      simp only [wf_d2, hb] at h
      rcases List.mem_cons.mp h with rfl | h
      · rw [Bool.or_eq_false_iff, Bool.or_eq_false_iff] at hb
        refine ⟨List.mem_cons_self, Nat.ne_of_beq_eq_false hb.1, Nat.ne_of_beq_eq_false hb.2.1, fun ⟨q1, q2⟩ => ?_⟩
        have h2 := hb.2.2
        rw [show Nat.beq (a + 1) j = true by rw [← q1]; exact Nat.beq_refl _, Bool.true_and] at h2
        exact wf_isL_c b h2 q2
      · exact ⟨List.mem_cons_of_mem _ (ih h).1, (ih h).2⟩
theorem wf_d1_has {ls : Array Slot} {nL : Nat} {L : List (Nat × Value)} {j : Nat} {v : Value} (h : lv_has ls nL ((j, v) :: L.filter (fun q => !(q.1 == j) && !(q.1 + 1 == j && q.2.category == 2)))) : lv_has ls nL ((j, v) :: wf_d1 L j) := by
  refine ⟨h.1, h.2.1, fun q hq => h.2.2 q ?_⟩
  rcases List.mem_cons.mp hq with rfl | hq
  · exact List.mem_cons_self
  · obtain ⟨h1, h2, h3⟩ := wf_d1_mem hq
    refine List.mem_cons_of_mem _ (List.mem_filter.mpr ⟨h1, ?_⟩)
    simp [h2]
    by_cases q1 : q.1 + 1 = j
    · exact Or.inr (fun q2 => h3 ⟨q1, q2⟩)
    · exact Or.inl q1
theorem wf_d2_has {ls : Array Slot} {nL : Nat} {L : List (Nat × Value)} {j : Nat} {v : Value} (h : lv_has ls nL ((j, v) :: L.filter (fun q => !(q.1 == j) && (!(q.1 == j + 1) && !(q.1 + 1 == j && q.2.category == 2))))) : lv_has ls nL ((j, v) :: wf_d2 L j) := by
  refine ⟨h.1, h.2.1, fun q hq => h.2.2 q ?_⟩
  rcases List.mem_cons.mp hq with rfl | hq
  · exact List.mem_cons_self
  · obtain ⟨h1, h2, h3, h4⟩ := wf_d2_mem hq
    refine List.mem_cons_of_mem _ (List.mem_filter.mpr ⟨h1, ?_⟩)
    simp [h2, h3]
    by_cases q1 : q.1 + 1 = j
    · exact Or.inr (fun q2 => h4 ⟨q1, q2⟩)
    · exact Or.inl q1
/-- what L' lists, L lists -/
def wf_all (L : List (Nat × Value)) : List (Nat × Value) → Prop
  | [] => True
  | q :: k => wf_get L q.1 = some q.2 ∧ wf_all L k
theorem wf_all_mem {L L' : List (Nat × Value)} (h : wf_all L L') {q : Nat × Value} (hq : q ∈ L') : q ∈ L := by
  induction L' with
  | nil => cases hq
  | cons z k ih =>
    rcases List.mem_cons.mp hq with rfl | hq
    · exact wf_get_mem h.1
    · exact ih h.2 hq
section WfBase
variable {l : Launch} {E : We} {n0 : Nat} {M : Wm} {d mc ms : Nat} {Q : Wq} {bk bn pc : Nat} {L : List (Nat × Value)} {st : List Value} {nx : Nat} {t : Wt} {r : Wr} {i : Wi} {g : Wl}
theorem Wf.to {L' : List (Nat × Value)} (hs : wf_all L L') (k : Wf l E n0 M d mc ms Q bk bn pc L' st nx t r i g) : Wf l E n0 M d mc ms Q bk bn pc L st nx t r i g :=
  fun p e s m args below meth c C H locs cells slots ls h1 h2 h3 h4 h5 h6 => k p e s m args below meth c C H locs cells slots ls h1 h2 h3 h4 h5 ⟨h6.1, h6.2.1, fun q hq => h6.2.2 q (wf_all_mem hs hq)⟩
/-- less may be made -/
theorem Wf.less {bk' bn' : Nat} (a1 : bk' ≤ bk) (a2 : bn' ≤ bn) (k : Wf l E n0 M d mc ms Q bk' bn' pc L st nx t r i g) : Wf l E n0 M d mc ms Q bk bn pc L st nx t r i g :=
  fun p e s m args below meth c C H locs cells slots ls h1 h2 h3 h4 h5 h6 => k p e s m args below meth c C H locs cells slots ls (by omega) (by omega) h3 h4 h5 h6
theorem wf_mono {p : Program} {e : Env} {R : Room} {s : State} {m : MethodId} {args : Array Value} {below : List Frame} {meth : Method} {c : Code} {H : Heap} {locs : List Loc} {cells slots : Nat} {Z Z' : State → Prop} {f : JFrame} (h : W p l e R s m args below meth c H locs cells slots Z f) (hq : ∀ u, Z u → Z' u) : W p l e R s m args below meth c H locs cells slots Z' f := by
  intro T hT X
  obtain ⟨u, a, b⟩ := h T hT X
  exact ⟨u, a, hq u b⟩
theorem wf_MQ {below : List Frame} {args : Array Value} {s u : State} (h : MQ below (wf_Q E n0 Q) args s mc ms (fun q => n0 ≤ q) u) : wf_Z E n0 mc ms Q below args s u := by
  obtain ⟨o, h1, h2, h3, L', h4, h5⟩ := h
  exact ⟨o, h1, h2, h3, L', h4.2.1, h4.2.2, h5⟩
theorem wf_ireturn {x : Int32} (hr : M.2.2.2 = some .int) (hd : decode M.2.1 pc = .ok (.ireturn, 1)) (hq : Q (.inl (some (.int x))) nx t r i g) : Wf l E n0 M d mc ms Q bk bn pc L [.int x] nx t r i g :=
  fun p e s m args below meth c C H locs cells slots ls h1 h2 h3 h4 h5 h6 => W.widen (k := mc) (n := ms) (by omega) (by omega) (wf_mono (W.iret (Qc := wf_Q E n0 Q) (free := fun q => n0 ≤ q) C.1 C.2.1 (C.2.2.2.1.trans hr) (fun u hu hW => ⟨.inl (some (.int x)), nx, t, r, i, g, rfl, by rw [hu]; exact h3, by rw [hu]; exact h4, hq⟩) h5 hd C.2.2.2.2.2.2.1) (fun u hu => wf_MQ hu))
theorem wf_zreturn {x : Int32} (hr : M.2.2.2 = some .boolean) (hx : narrow .boolean (.int x) = .int x) (hd : decode M.2.1 pc = .ok (.ireturn, 1)) (hq : Q (.inl (some (.int x))) nx t r i g) : Wf l E n0 M d mc ms Q bk bn pc L [.int x] nx t r i g :=
  fun p e s m args below meth c C H locs cells slots ls h1 h2 h3 h4 h5 h6 => W.widen (k := mc) (n := ms) (by omega) (by omega) (wf_mono (W.zret (Qc := wf_Q E n0 Q) (free := fun q => n0 ≤ q) C.1 C.2.1 (C.2.2.2.1.trans hr) hx (fun u hu hW => ⟨.inl (some (.int x)), nx, t, r, i, g, rfl, by rw [hu]; exact h3, by rw [hu]; exact h4, hq⟩) h5 hd C.2.2.2.2.2.2.1) (fun u hu => wf_MQ hu))
theorem wf_lreturn {x : Int64} (hr : M.2.2.2 = some .long) (hd : decode M.2.1 pc = .ok (.lreturn, 1)) (hq : Q (.inl (some (.long x))) nx t r i g) : Wf l E n0 M d mc ms Q bk bn pc L [.long x] nx t r i g :=
  fun p e s m args below meth c C H locs cells slots ls h1 h2 h3 h4 h5 h6 => W.widen (k := mc) (n := ms) (by omega) (by omega) (wf_mono (W.lret (Qc := wf_Q E n0 Q) (free := fun q => n0 ≤ q) C.1 C.2.1 (C.2.2.2.1.trans hr) (fun u hu hW => ⟨.inl (some (.long x)), nx, t, r, i, g, rfl, by rw [hu]; exact h3, by rw [hu]; exact h4, hq⟩) h5 hd C.2.2.2.2.2.2.1) (fun u hu => wf_MQ hu))
theorem wf_areturn {x : Nat} {rt : FieldType} (hr : M.2.2.2 = some rt) (hrt : (∃ n, rt = .object n) ∨ ∃ y, rt = .array y) (hd : decode M.2.1 pc = .ok (.areturn, 1)) (hq : Q (.inl (some (.ref x))) nx t r i g) : Wf l E n0 M d mc ms Q bk bn pc L [.ref x] nx t r i g :=
  fun p e s m args below meth c C H locs cells slots ls h1 h2 h3 h4 h5 h6 => W.widen (k := mc) (n := ms) (by omega) (by omega) (wf_mono (W.aret (Qc := wf_Q E n0 Q) (free := fun q => n0 ≤ q) C.1 C.2.1 (C.2.2.2.1.trans hr) hrt (Or.inr ⟨x, rfl⟩) (fun u hu hW => ⟨.inl (some (.ref x)), nx, t, r, i, g, rfl, by rw [hu]; exact h3, by rw [hu]; exact h4, hq⟩) h5 hd C.2.2.2.2.2.2.1) (fun u hu => wf_MQ hu))
theorem wf_return (hr : M.2.2.2 = none) (hd : decode M.2.1 pc = .ok (.return_, 1)) (hq : Q (.inl none) nx t r i g) : Wf l E n0 M d mc ms Q bk bn pc L [] nx t r i g :=
  fun p e s m args below meth c C H locs cells slots ls h1 h2 h3 h4 h5 h6 => W.widen (k := mc) (n := ms) (by omega) (by omega) (wf_mono (W.vret (Qc := wf_Q E n0 Q) (free := fun q => n0 ≤ q) C.1 C.2.1 (C.2.2.2.1.trans hr) (fun u hu hW => ⟨.inl none, nx, t, r, i, g, rfl, by rw [hu]; exact h3, by rw [hu]; exact h4, hq⟩) h5 hd C.2.2.2.2.2.2.1) (fun u hu => wf_MQ hu))
/-- a contract out of the walk -/
theorem Ct.of {av : List Value} (hy : plainName M.1.cls = true) (hn : (lg_sl av).length ≤ M.2.2.1) (h : Wf l E n0 M d mc ms Q mc ms 0 (lv_args 0 av) [] nx t r i g) (hH : wl_H M.1 = [] := by decide +kernel) : Ct l E n0 M d mc ms av nx t r i g Q := by
  refine MetFree.of_bodyS (code := M.2.1) (maxLocals := M.2.2.1) (ret := M.2.2.2) hy ?_ ?_
  · intro args s m h hn
    obtain ⟨meth, c, h1, h2, h3, h4, h5, h6, -, -⟩ := Cond.code_spec hn (atoms_spec (ws := wf_ws M) h _ List.mem_cons_self)
    exact ⟨meth, c, h1, h2, h3, h4, h5, h6⟩
  · intro p e s m args below meth c s₁ B hml hP _
    obtain ⟨rfl, hR, hK, hJ⟩ := hP
    have hh0 : s₁.heap = s.heap := by rw [B.state]; rfl
    have hts := atoms_spec (ws := wf_ws M) B.pre
    have htb : c.exceptionTable.toList = [] := by
      obtain ⟨meth', c', q1, q2, -, -, -, -, q7, -⟩ := Cond.code_spec B.named (hts _ List.mem_cons_self)
      have X0 := Stand.of_body B
      cases X0.method.symm.trans q1
      cases X0.code.symm.trans q2
      simpa using q7
    have C : wf_C E n0 M p s m av.toArray meth c := ⟨B.exec, B.bytes, hml, B.returns, findClass_of_methodNamed B.named, fun w hw => hts w (List.mem_cons_of_mem _ hw), B.notSynchronized, ⟨(name_of_methodNamed B.named B.method).1, by rw [htb, hH]; rfl⟩, hK, hJ⟩
    have K := h p e s m av.toArray below meth c C s.heap [] 0 0 _ (by omega) (by omega) hR (fun _ _ => rfl) (fun q hq => by cases hq) (lv_entry av hn)
    rw [← lg_entry_eq] at K
    obtain ⟨u, a1, o, b1, b2, b3, b4⟩ := K s₁ hh0 (Stand.of_body B)
    exact ⟨u, o, a1, b1, b2, b3, b4⟩
end WfBase
