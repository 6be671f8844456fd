section
variable {l : Launch} {E : We} {n0 : Nat} {M : Wm} {d mc ms : Nat} {Q : Wq} {nx : Nat} {t : Wt} {r : Wr} {i : Wi} {g : Wl}
/-- a contract out of the walk, for a method of a class with natives that is none itself -/
theorem Ct.ofF {av : List Value} (hy : plainFor M.1 = true) (hn : (lg_sl av).length ≤ M.2.2.1) (h : Wf l E n0 M d mc ms Q mc ms 0 (lv_args 0 av) [] nx t r i g) (hH : wl_H M.1 = [] := by decide +kernel) : Ct l E n0 M d mc ms av nx t r i g Q := by
  refine MetFree.of_bodySF (code := M.2.1) (maxLocals := M.2.2.1) (ret := M.2.2.2) hy ?_ ?_
  · intro args s m h hn
    obtain ⟨meth, c, h1, h2, h3, h4, h5, h6, -, -⟩ := Cond.code_spec hn (atoms_spec (ws := wf_ws M) h _ List.mem_cons_self)
    exact ⟨meth, c, h1, h2, h3, h4, h5, h6⟩
  · intro p e s m args below meth c s₁ B hml hP _
    obtain ⟨rfl, hR, hK, hJ⟩ := hP
    have hh0 : s₁.heap = s.heap := by rw [B.state]; rfl
    have hts := atoms_spec (ws := wf_ws M) B.pre
    have htb : c.exceptionTable.toList = [] := by
      obtain ⟨meth', c', q1, q2, -, -, -, -, q7, -⟩ := Cond.code_spec B.named (hts _ List.mem_cons_self)
      have X0 := Stand.of_body B
      cases X0.method.symm.trans q1
      cases X0.code.symm.trans q2
      simpa using q7
    have C : wf_C E n0 M p s m av.toArray meth c := ⟨B.exec, B.bytes, hml, B.returns, findClass_of_methodNamed B.named, fun w hw => hts w (List.mem_cons_of_mem _ hw), B.notSynchronized, ⟨(name_of_methodNamed B.named B.method).1, by rw [htb, hH]; rfl⟩, hK, hJ⟩
    have K := h p e s m av.toArray below meth c C s.heap [] 0 0 _ (by omega) (by omega) hR (fun _ _ => rfl) (fun q hq => by cases hq) (lv_entry av hn)
    rw [← lg_entry_eq] at K
    obtain ⟨u, a1, o, b1, b2, b3, b4⟩ := K s₁ hh0 (Stand.of_body B)
    exact ⟨u, o, a1, b1, b2, b3, b4⟩
end
