/-! a call that throws and is caught; a call of a method with handlers -/
section WfCatch2
variable {l : Launch} {E : We} {n0 : Nat} {M : Wm} {d mc ms : Nat} {Q : Wq} {bk bn pc : Nat} {L : List (Nat × Value)} {st : List Value} {nx : Nat} {t : Wt} {r : Wr} {i : Wi} {g : Wl}
theorem wf_ivt {M' : Wm} {idx b c mc' ms' bk' bn' hp : Nat} {As : List Value} {X : String} (hd : decode M.2.1 pc = .ok (.invokevirtual idx, 3)) (hT : wf_tg M' As.length) (hl : Cond.methodLink M.1.cls idx M'.1 ∈ wl_ALL) (hi : Cond.instanceMethod M'.1 ∈ wl_ALL) (hs : Cond.selects M'.1.cls M'.1 M'.1 ∈ wl_ALL) (hc : ∃ q : vw_C, wl_CL[c]? = some q ∧ q.1 = M'.1.cls) (hb : t b = some (.inl c)) (hrm : (st.map fun v => v.category).sum ≤ 8) (hk : bk' + mc' ≤ bk) (hn : bn' + ms' ≤ bn) (hX : wc_ok M.1.cls pc X (wl_H M.1) hp)
    (hC : Ct l E n0 M' d mc' ms' (.ref b :: As) nx t r i g (qX X nx t r i g)) (kk : ∀ a, Wf l E n0 M (d + 1) mc ms Q bk' bn' hp L [.ref a] (nx + 1) t r i g) : Wf l E n0 M (d + 1) mc ms Q bk bn pc L (As.reverse ++ .ref b :: st) nx t r i g := by
  intro p e s m args below meth cd C H locs cells slots ls h1 h2 h3 h4 h5 h6 T hT0 Y
  obtain ⟨q, hq, hqc⟩ := hc
  obtain ⟨q', hq', cell, q1, q2, q3, -⟩ := (h3.2.2.1 b).o hb
  have hcls := (C.2.2.2.2.2.2.2.2.1.1 c _ hq).2.1
  rw [hqc] at hcls
  have wd := C.2.2.2.2.2.1
  obtain ⟨t1, t2, t3, t4, t5⟩ := hT
  have hobj : cell.vm.isStatics = false := by rw [q3]; rfl
  have hcls' : s.vm.findClass M'.1.cls = some cell.cls := by rw [q2]; exact hcls
  have hown := C.2.2.2.2.1
  obtain ⟨mk, methM, hnamed, hmethM, hstM, habM⟩ := Cond.instanceMethod_spec (wd _ hi)
  obtain ⟨methM', cM, hmethM', hcM, -, hlM, -, -, -, hsigM⟩ := Cond.code_spec hnamed (wd _ t1)
  cases hmethM.symm.trans hmethM'
  obtain ⟨c2, r2, m2, s1, s2, s3, s4, kP, hkP, hkPi⟩ := Cond.selects_spec (wd _ hs)
  cases hcls'.symm.trans s1
  cases (State.methodFound?_of_named hnamed t3).symm.trans s2
  cases hnamed.symm.trans s3
  have hselP : selectMethod e.platform s.vm cell.cls mk = .method mk := by rw [Launch.admits_selectMethod Y.admits]; exact s4
  have hlen : As.length = methM.sig.parameters.length := by
    rw [hsigM] at t4
    exact (Option.some.inj t4).symm
  obtain ⟨vm₁, Y1, hstep⟩ := Y.invokevirtual C.1 hown (wd _ hl) hnamed hmethM hstM hkP hkPi t3 (a := b) (cell := cell) (by rw [hT0]; exact q1) (fun z h => by rw [h] at hobj; cases hobj) hselP hmethM habM hkP hkPi (g := F0 m pc ls (As.reverse ++ .ref b :: st)) rfl (argsL := As) (rest := st) hlen rfl (by rw [C.2.1]; exact hd)
  have hW1 : s.WarmedH vm₁ := Y1.warmed
  have hP1 : wf_P E n0 (.ref b :: As) nx t r i g (Value.ref b :: As).toArray (T.setVm vm₁) := ⟨rfl, by show wf_R E n0 nx t r i g T.heap; rw [hT0]; exact h3, wf_K.moved hW1.alike C.2.2.2.2.2.2.2.2.1, wl_J_moved (U := T.setVm vm₁) hW1 (by show ∀ q : Nat, q < n0 → T.heap[q]? = s.heap[q]?; rw [hT0]; exact h4) C.2.2.2.2.2.2.2.2.2⟩
  obtain ⟨kY, hkY, -⟩ := className_of_methodNamed (Y1.named hnamed)
  have hiniY : kY.init = .initialized := Cond.initialized_spec (findClass_of_methodNamed (Y1.named hnamed)) hkY (word_at (a' := args) hW1 (wl_good _ t2) (wd _ t2))
  obtain ⟨o, s₂, w1, w2, ⟨v, nx', t', r', i', g', b1, b2, b3, b4⟩, L', f1, f2, f3⟩ := wc_call (R := wf_rm (d + 1) mc ms) (rm := wf_rm d mc' ms') Y1 (f := F0 m pc ls st) rfl (h6.1.trans C.2.2.1.symm) (by rw [C.2.1]; exact hd) hC (a := (Value.ref b :: As).toArray) (Y1.named hnamed) (by show vm₁.method? mk = some methM; rw [hW1.alike.method?]; exact hmethM) hcM hkY hiniY
    (fun w hw => by
      rcases List.mem_cons.mp hw with rfl | hw
      · exact word_at hW1 (wl_good _ t1) (wd _ t1)
      · exact word_at hW1 (wl_good _ hw) (wd _ hw)) (Nat.le_refl _) (by rw [hlM]; show 2 * 0 + (st.map fun v => v.category).sum + (M'.2.2.1 + 11) + 40 * d ≤ 40 * (d + 1); omega) (show cells + mc' ≤ mc by omega) (show slots + ms' ≤ ms by omega) (wf_blind _ _ _ _ hP1)
  obtain ⟨rfl, rfl, rfl, rfl, rfl, rfl⟩ := b4
  obtain ⟨a, ce, rfl, ha0, hce, hcv, hcf⟩ := b1
  obtain ⟨T', Y2, hW2, hS2, hs₂⟩ := Y1.outOfThrown (g := F0 m pc ls st) rfl w2 f1 f2
  have hh : T'.heap = s₂.heap := by rw [hs₂, Stand.throwing_heap]
  have hJ0 : wl_J n0 s := C.2.2.2.2.2.2.2.2.2
  have hcf' : s.vm.findClass X = some ce.cls := by
    rw [← hW1.alike.findClass]
    exact hcf
  have hpl : e.platform.magicAccessors = ({} : Platform).magicAccessors := by rw [Y.admits.platform]
  obtain ⟨vm', hW', hfind⟩ := wc_go (e := e) (s := s) (args := args) (f := F0 m pc ls st) (a := a) (cell := ce) (own := M.1.cls) (X := X) (hp := hp) hpl hown wd (fun w hw => wl_J_word hJ0 hw args) (fun k z => by rw [hcv] at z; cases z) hcf' _ cd.exceptionTable.toList ((T'.setTop (F0 m pc ls st)).pushFrame (.throwing a)) C.2.2.2.2.2.2.2.1.2 hX (by rw [Stand.throwing_vm]; exact Y2.warmed) (by rw [Stand.throwing_heap, hh]; exact hce)
  obtain ⟨t2', a1, a2⟩ := kk a p e s m args below meth cd C T'.heap (locs ++ L') (cells + mc') (slots + ms') ls (by omega) (by omega) (by rw [hh]; exact b2) (fun q hq => by
      rw [hh, b3 q hq]
      show T.heap[q]? = s.heap[q]?
      rw [hT0]
      exact h4 q hq) (fun q hq => by
      rcases List.mem_append.mp hq with h | h
      · exact h5 q h
      · exact f3 q h) h6 (T'.setVm vm') rfl (Y2.noted hW')
  refine ⟨t2', hstep _ fun acts => ?_, a2⟩
  rw [doInvoke_state]
  rw [hs₂] at w1
  refine w1.trans (wc_step (c := cd) (g := F0 m pc ls st) Y2.here (fun Q Ec dd acts => ?_) a1)
  rw [W.findHandler_eq (code := cd) (meth := meth) (by rw [Stand.throwing_vm]; exact Y2.method') Y2.code]
  exact hfind Q Ec dd acts
/-- what the tables say of a method with handlers that is called -/
def wc_tg (M' : Wm) (n : Nat) : Prop := Cond.codeWith M'.1 M'.2.1 M'.2.2.1 M'.2.2.2 (wl_H M'.1) ∈ wl_ALL ∧ Cond.initialized M'.1.cls ∈ wl_ALL ∧ (M'.1.cls ≠ "java/lang/invoke/MethodHandle" ∧ M'.1.cls ≠ "java/lang/invoke/VarHandle") ∧ (parseMethodDescriptor M'.1.desc).map (fun d => d.parameters.length) = some n ∧ M'.2.2.1 ≤ 21
theorem wf_isw {M' : Wm} {idx mc' ms' bk' bn' : Nat} {As : List Value} {Q' : Wq} (hd : decode M.2.1 pc = .ok (.invokestatic idx, 3)) (hT : wc_tg M' As.length) (hl : Cond.methodLink M.1.cls idx M'.1 ∈ wl_ALL) (hs : Cond.static M'.1 ∈ wl_ALL) (hrm : (st.map fun v => v.category).sum ≤ 8) (hk : bk' + mc' ≤ bk) (hn : bn' + ms' ≤ bn)
    (hC : Cw l E n0 M' d mc' ms' As nx t r i g Q') (hnt : ∀ X nx t r i g, ¬ Q' (.inr X) nx t r i g) (kk : ∀ v nx t r i g, Q' (.inl v) nx t r i g → Wf l E n0 M (d + 1) mc ms Q bk' bn' (pc + 3) L (v.toList ++ st) nx t r i g) : Wf l E n0 M (d + 1) mc ms Q bk bn pc L (As.reverse ++ st) nx t r i g := by
  intro p e s m args below meth cd C H locs cells slots ls h1 h2 h3 h4 h5 h6 T hT0 Y
  have wd := C.2.2.2.2.2.1
  obtain ⟨t1, t2, t3, t4, t5⟩ := hT
  have hown := C.2.2.2.2.1
  obtain ⟨mk, methM, cM, hnamed, hmethM, hcM, -, hlM, -, -, -, hsigM⟩ := Cond.codeWith_spec (wd _ t1)
  have hstatic : methM.isStatic = true := Cond.static_spec hnamed hmethM (wd _ hs)
  obtain ⟨kP, hkP, -⟩ := className_of_methodNamed hnamed
  have hinitP : kP.init = .initialized := Cond.initialized_spec (findClass_of_methodNamed hnamed) hkP (wd _ t2)
  have hlen : As.length = methM.sig.parameters.length := by
    rw [hsigM] at t4
    exact (Option.some.inj t4).symm
  obtain ⟨vm₁, Y1, hstep⟩ := Y.invokestatic C.1 hown (wd _ hl) hnamed hmethM hstatic hkP hinitP t3 (g := F0 m pc ls (As.reverse ++ st)) rfl (argsL := As) (rest := st) hlen rfl (by rw [C.2.1]; exact hd)
  have hW1 : s.WarmedH vm₁ := Y1.warmed
  have hP1 : wf_P E n0 As nx t r i g As.toArray (T.setVm vm₁) := ⟨rfl, by show wf_R E n0 nx t r i g T.heap; rw [hT0]; exact h3, wf_K.moved hW1.alike C.2.2.2.2.2.2.2.2.1, wl_J_moved (U := T.setVm vm₁) hW1 (by show ∀ q : Nat, q < n0 → T.heap[q]? = s.heap[q]?; rw [hT0]; exact h4) C.2.2.2.2.2.2.2.2.2⟩
  obtain ⟨kY, hkY, -⟩ := className_of_methodNamed (Y1.named hnamed)
  have hiniY : kY.init = .initialized := Cond.initialized_spec (findClass_of_methodNamed (Y1.named hnamed)) hkY (word_at (a' := args) hW1 (wl_good _ t2) (wd _ t2))
  obtain ⟨o, s₂, w1, w2, ⟨v, nx', t', r', i', g', b1, b2, b3, b4⟩, L', f1, f2, f3⟩ := wc_call (R := wf_rm (d + 1) mc ms) (rm := wf_rm d mc' ms') Y1 (f := F0 m pc ls st) rfl (h6.1.trans C.2.2.1.symm) (by rw [C.2.1]; exact hd) hC (a := As.toArray) (Y1.named hnamed) (by show vm₁.method? mk = some methM; rw [hW1.alike.method?]; exact hmethM) hcM hkY hiniY
    (fun w hw => word_at hW1 (wl_good _ hw) (wd _ hw)) (Nat.le_refl _) (by rw [hlM]; show 2 * 0 + (st.map fun v => v.category).sum + (M'.2.2.1 + 11) + 40 * d ≤ 40 * (d + 1); omega) (show cells + mc' ≤ mc by omega) (show slots + ms' ≤ ms by omega) (wf_blind _ _ _ _ hP1)
  cases v with
  | inr X => exact absurd b4 (hnt _ _ _ _ _ _)
  | inl v' =>
    cases b1
    obtain ⟨T', Y2, hW2, hS2, hs₂⟩ := Y1.outOf (g := F0 m pc ls st) rfl (by rw [C.2.1]; exact hd) w2 f1 f2
    have hh : T'.heap = s₂.heap := by rw [hs₂, State.heap_setTop]
    obtain ⟨t2', a1, a2⟩ := kk _ nx' t' r' i' g' b4 p e s m args below meth cd C T'.heap (locs ++ L') (cells + mc') (slots + ms') ls (by omega) (by omega) (by rw [hh]; exact b2) (fun q hq => by
      rw [hh, b3 q hq]
      show T.heap[q]? = s.heap[q]?
      rw [hT0]
      exact h4 q hq) (fun q hq => by
      rcases List.mem_append.mp hq with h | h
      · exact h5 q h
      · exact f3 q h) h6 T' rfl Y2
    refine ⟨t2', hstep _ fun acts => ?_, a2⟩
    rw [doInvoke_state]
    rw [hs₂] at w1
    exact w1.trans a1
end WfCatch2
