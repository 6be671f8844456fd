/-! rows that read and write cells, and make them -/
/-- pool entry idx of class own is field k of class c -/
def wf_fl (own : String) (idx c k : Nat) : Prop := ∃ q : vw_C, wl_CL[c]? = some q ∧ k < q.2.2 ∧ Cond.fieldLink own idx (q.2.1 k).1 (q.2.1 k).2.1 (q.2.1 k).2.2.1 ∈ wl_ALL
/-- field k of class c isn't final -/
def wf_nf (c k : Nat) : Prop := ∃ q : vw_C, wl_CL[c]? = some q ∧ (q.2.1 k).2.2.2 = false
/-- field k of class c is final, and declared by own -/
def wf_fi (own : String) (c k : Nat) : Prop := ∃ q : vw_C, wl_CL[c]? = some q ∧ (q.2.1 k).2.2.2 = true ∧ (q.2.1 k).1 = own
/-- no float, no double -/
def wf_dk : FieldType → Bool
  | .float => false
  | .double => false
  | _ => true
theorem wf_default {y : FieldType} {r : Wr} {i : Wi} {g : Wl} {a k : Nat} (hf : wf_dk y = true) (h : r a k = none ∧ i a k = 0 ∧ g a k = 0) : defaultValue y = wf_v y r i g a k := by
  obtain ⟨h1, h2, h3⟩ := h
  cases y <;> first | (simp [wf_v, wf_kd, h1, h2, h3, defaultValue, va_rf]; done) | (simp [wf_dk] at hf)
/-- pool entry idx of class own is class c, of N slots, which can be made -/
def wf_nw (own : String) (idx c N : Nat) : Prop := ∃ q : vw_C, wl_CL[c]? = some q ∧ q.2.2 = N ∧ Cond.classLink own idx q.1 ∈ wl_ALL ∧ Cond.instantiable q.1 N ∈ wl_ALL ∧ Cond.initialized q.1 ∈ wl_ALL ∧ ∀ k, k < N → wf_dk (wl_TY c k) = true
section WfHeap
variable {l : Launch} {E : We} {n0 : Nat} {M : Wm} {d mc ms : Nat} {Q : Wq} {bk bn pc : Nat} {L : List (Nat × Value)} {st : List Value} {nx : Nat} {t : Wt} {r : Wr} {i : Wi} {g : Wl}
theorem wf_getv {idx c k a : Nat} {v : Value} (hd : decode M.2.1 pc = .ok (.getfield idx, 3)) (hf : wf_fl M.1.cls idx c k) (ht : t a = some (.inl c)) (hv : wf_v (wl_TY c k) r i g a k = v) (kk : Wf l E n0 M d mc ms Q bk bn (pc + 3) L (v :: st) nx t r i g) : Wf l E n0 M d mc ms Q bk bn pc L (.ref a :: st) nx t r i g := by
  intro p e s m args below meth cd C H locs cells slots ls h1 h2 h3 h4 h5 h6
  obtain ⟨q, hq, hk, hl⟩ := hf
  obtain ⟨q', hq', cell, q1, q2, q3, q4⟩ := (h3.2.2.1 a).o ht
  obtain rfl : q' = q := Option.some.inj (hq'.symm.trans hq)
  obtain ⟨hin, hty, hnm⟩ := wl_ok c _ hq
  obtain ⟨hS, hfc, kC, hkC, hkind⟩ := C.2.2.2.2.2.2.2.2.1.1 c _ hq
  obtain ⟨cf, kf, fi, f, hi, hsl⟩ := hS k hk
  refine W.getf C.1 C.2.1 C.2.2.2.2.1 (C.2.2.2.2.2.1 _ hl) hi (u_facts hfc hkC (u_lays C.2.2.2.2.2.1 hin hk) hi).1 q1 (by rw [q3]; exact fun h => by cases h) (v := v) ?_ rfl rfl hd (kk p e s m args below meth cd C H locs cells slots ls h1 h2 h3 h4 h5 h6)
  rw [hsl, q4 k hk]
  exact congrArg some hv
theorem wf_geti {idx c k a : Nat} (hd : decode M.2.1 pc = .ok (.getfield idx, 3)) (hf : wf_fl M.1.cls idx c k) (hy : wf_kd (wl_TY c k) = 0) (ht : t a = some (.inl c)) (kk : Wf l E n0 M d mc ms Q bk bn (pc + 3) L (.int (i a k) :: st) nx t r i g) : Wf l E n0 M d mc ms Q bk bn pc L (.ref a :: st) nx t r i g := wf_getv hd hf ht (wf_v_i hy) kk
theorem wf_getl {idx c k a : Nat} (hd : decode M.2.1 pc = .ok (.getfield idx, 3)) (hf : wf_fl M.1.cls idx c k) (hy : wf_kd (wl_TY c k) = 1) (ht : t a = some (.inl c)) (kk : Wf l E n0 M d mc ms Q bk bn (pc + 3) L (.long (g a k) :: st) nx t r i g) : Wf l E n0 M d mc ms Q bk bn pc L (.ref a :: st) nx t r i g := wf_getv hd hf ht (wf_v_l hy) kk
theorem wf_getr {idx c k a b : Nat} (hd : decode M.2.1 pc = .ok (.getfield idx, 3)) (hf : wf_fl M.1.cls idx c k) (hy : wf_kd (wl_TY c k) = 2) (ht : t a = some (.inl c)) (hr : r a k = some b) (kk : Wf l E n0 M d mc ms Q bk bn (pc + 3) L (.ref b :: st) nx t r i g) : Wf l E n0 M d mc ms Q bk bn pc L (.ref a :: st) nx t r i g := wf_getv hd hf ht ((wf_v_r hy).trans (by rw [hr]; rfl)) kk
/-- a field is written: the maps behind it are r', i', g' -/
theorem wf_putv {idx c k a : Nat} {v : Value} {r' : Wr} {i' : Wi} {g' : Wl} (hd : decode M.2.1 pc = .ok (.putfield idx, 3)) (hf : wf_fl M.1.cls idx c k) (hw : wf_nf c k ∨ (wf_fi M.1.cls c k ∧ M.1.name = "<init>")) (ht : t a = some (.inl c)) (hn : narrow (wl_TY c k) v = v) (hfit : fits (wl_TY c k) v = true)
    (hv : wf_v (wl_TY c k) r' i' g' a k = v) (ho : ∀ b j, (b ≠ a ∨ j ≠ k) → r' b j = r b j ∧ i' b j = i b j ∧ g' b j = g b j) (kk : Wf l E n0 M d mc ms Q bk bn (pc + 3) L st nx t r' i' g') : Wf l E n0 M d mc ms Q bk bn pc L (v :: .ref a :: st) nx t r i g := by
  intro p e s m args below meth cd C H locs cells slots ls h1 h2 h3 h4 h5 h6
  obtain ⟨q, hq, hk, hl⟩ := hf
  obtain ⟨q', hq', cell, q1, q2, q3, q4⟩ := (h3.2.2.1 a).o ht
  obtain rfl : q' = q := Option.some.inj (hq'.symm.trans hq)
  obtain ⟨hin, hty, hnm⟩ := wl_ok c _ hq
  have hKv : va_K (E.1, E.2.1) wl_CL [] s := ⟨C.2.2.2.2.2.2.2.2.1.1, fun k z hz => by cases hz⟩
  have hap := va_apart (own := M.1.cls) (D := (E.1, E.2.1)) (cl := wl_CL) (tys := []) C.2.2.2.2.2.1 hin (wl_TY c) hty hnm hKv hq
  obtain ⟨hS, hfc, kC, hkC, hkind⟩ := C.2.2.2.2.2.2.2.2.1.1 c _ hq
  obtain ⟨cf, kf, fi, f, hi, hsl⟩ := hS k hk
  have hst := (u_facts hfc hkC (u_lays C.2.2.2.2.2.1 hin hk) hi).1
  have hlt : f.slot < cell.slots.size := by rw [hsl]; exact k2_hasslot (q4 k hk)
  have hn0 : n0 ≤ a := (h3.2.2.2.1 a _ ht).resolve_right (fun ⟨n, z⟩ => by cases z)
  have hend : ∀ H' : Heap, H'[a]? = some (cell.setSlot f.slot v) → H'.size = H.size → (∀ q, q ≠ a → H'[q]? = H[q]?) → W p l e (wf_rm d mc ms) s m args below meth cd H' (locs ++ [⟨a, f.slot⟩]) cells slots (wf_Z E n0 mc ms Q below args s) { F0 m pc ls (v :: .ref a :: st) with pc := pc + 3, stack := st } := by
    intro H' e1 e2 e3
    rw [hsl] at e1
    refine kk p e s m args below meth cd C H' _ cells slots ls h1 h2 (h3.put e2 e3 ht (wf_A.io ht ⟨_, hq, t_OB.to (V := updV (fun k => wf_v (wl_TY c k) r i g a k) k v) ⟨_, e1, q2, q3, t_set q4 hap hk v⟩ (fun j _ => ?_)⟩) (fun b hb j => ho b j (Or.inl hb))) (fun x hx => (e3 x (Nat.ne_of_lt (Nat.lt_of_lt_of_le hx hn0))).trans (h4 x hx)) (fun x hx => ?_) h6
    · by_cases hj : j = k
      · subst hj
        simp only [updV, if_pos]
        exact hv.symm
      · simp only [updV, if_neg hj]
        exact (wf_v_c (ho a j (Or.inr hj)).1 (ho a j (Or.inr hj)).2.1 (ho a j (Or.inr hj)).2.2).symm
    · rcases List.mem_append.mp hx with hx | hx
      · exact h5 x hx
      · rw [List.mem_singleton.mp hx]; exact hn0
  have hlay := C.2.2.2.2.2.1 _ (hin _ (u_in_lay hk))
  rcases hw with ⟨q2', hq2, hfin⟩ | ⟨⟨q2', hq2, hfin, hdecl⟩, hin2⟩
  · obtain rfl := Option.some.inj (hq2.symm.trans hq)
    unfold u_lay at hlay
    rw [if_neg (by rw [hfin]; decide)] at hlay
    have h6' := u_store hfc hkC hkind hlay hi (hty k hk) hn hfit
    exact W.putK C.1 C.2.1 (f := f) ⟨C.2.2.2.2.1, C.2.2.2.2.2.1 _ hl, ⟨_, _, _, hi⟩, hst⟩ (by rw [q2]; exact h6') q1 q3 hlt rfl rfl hd hend
  · obtain rfl := Option.some.inj (hq2.symm.trans hq)
    unfold u_lay at hlay
    rw [if_pos hfin] at hlay
    have hcf : m.cls = cf := by
      obtain ⟨_, _, c', _, _, _, -, -, hf', -, -, -, hown2, -⟩ := Cond.laysFinal_spec hlay
      have e1 : c' = cf := by have := hi.symm.trans hf'; simp at this; exact this.1.symm
      rw [hdecl] at hown2
      rw [← e1]; exact Option.some.inj (C.2.2.2.2.1.symm.trans hown2)
    have h6' := u_fits hfc hkC hkind (Or.inr hlay) hi (hty k hk) hn hfit
    exact W.putFinK C.1 C.2.1 C.2.2.2.2.1 (C.2.2.2.2.2.1 _ hl) hi hst hcf (C.2.2.2.2.2.2.2.1.1.trans hin2) (by rw [q2]; exact h6') q1 q3 hlt rfl rfl hd hend
theorem wf_up_o {α : Type} {f : Nat → Nat → α} {a k : Nat} {v : α} {b j : Nat} (h : b ≠ a ∨ j ≠ k) : wf_up f a k v b j = f b j := h.elim wf_up_a wf_up_k
theorem wf_puti {idx c k a : Nat} {x : Int32} (hd : decode M.2.1 pc = .ok (.putfield idx, 3)) (hf : wf_fl M.1.cls idx c k) (hw : wf_nf c k ∨ (wf_fi M.1.cls c k ∧ M.1.name = "<init>")) (hy : wf_kd (wl_TY c k) = 0) (hn : narrow (wl_TY c k) (.int x) = .int x) (hfit : fits (wl_TY c k) (.int x) = true) (ht : t a = some (.inl c)) (kk : Wf l E n0 M d mc ms Q bk bn (pc + 3) L st nx t r (wf_up i a k x) g) : Wf l E n0 M d mc ms Q bk bn pc L (.int x :: .ref a :: st) nx t r i g :=
  wf_putv hd hf hw ht hn hfit ((wf_v_i hy).trans (by rw [wf_up_s])) (fun b j h => ⟨rfl, wf_up_o h, rfl⟩) kk
theorem wf_putl {idx c k a : Nat} {x : Int64} (hd : decode M.2.1 pc = .ok (.putfield idx, 3)) (hf : wf_fl M.1.cls idx c k) (hw : wf_nf c k ∨ (wf_fi M.1.cls c k ∧ M.1.name = "<init>")) (hy : wf_kd (wl_TY c k) = 1) (hn : narrow (wl_TY c k) (.long x) = .long x) (hfit : fits (wl_TY c k) (.long x) = true) (ht : t a = some (.inl c)) (kk : Wf l E n0 M d mc ms Q bk bn (pc + 3) L st nx t r i (wf_up g a k x)) : Wf l E n0 M d mc ms Q bk bn pc L (.long x :: .ref a :: st) nx t r i g :=
  wf_putv hd hf hw ht hn hfit ((wf_v_l hy).trans (by rw [wf_up_s])) (fun b j h => ⟨rfl, rfl, wf_up_o h⟩) kk
theorem wf_putr {idx c k a x : Nat} (hd : decode M.2.1 pc = .ok (.putfield idx, 3)) (hf : wf_fl M.1.cls idx c k) (hw : wf_nf c k ∨ (wf_fi M.1.cls c k ∧ M.1.name = "<init>")) (hy : wf_kd (wl_TY c k) = 2) (hn : narrow (wl_TY c k) (.ref x) = .ref x) (hfit : fits (wl_TY c k) (.ref x) = true) (ht : t a = some (.inl c)) (kk : Wf l E n0 M d mc ms Q bk bn (pc + 3) L st nx t (wf_up r a k (some x)) i g) : Wf l E n0 M d mc ms Q bk bn pc L (.ref x :: .ref a :: st) nx t r i g :=
  wf_putv hd hf hw ht hn hfit ((wf_v_r hy).trans (by rw [wf_up_s]; rfl)) (fun b j h => ⟨wf_up_o h, rfl, rfl⟩) kk
/-! arrays -/
theorem wf_iaload {a y n : Nat} {j : Int32} (hd : decode M.2.1 pc = .ok (.iaload, 1)) (hy : wl_AT y = .int) (ht : t a = some (.inr (y, n))) (hin : vp_in j n) (kk : Wf l E n0 M d mc ms Q bk bn (pc + 1) L (.int (i a j.toNatClampNeg) :: st) nx t r i g) : Wf l E n0 M d mc ms Q bk bn pc L (.int j :: .ref a :: st) nx t r i g := by
  intro p e s m args below meth cd C H locs cells slots ls h1 h2 h3 h4 h5 h6
  obtain ⟨hyN, ce, hc, hce⟩ := (h3.2.2.1 a).w ht
  obtain ⟨c1, c2, c3, c4⟩ := hce.r
  have hlt : j.toNatClampNeg < n := Nat.not_le.mp fun q => hin (Or.inr q)
  have harr : s.isArrayOf ce (wl_AT y) := ⟨c3, by rw [c1]; exact ((C.2.2.2.2.2.2.2.2.1.2.1 y hyN).1 n (fun j => wf_v (wl_AT y) r i g a j)).2⟩
  rw [hy] at harr c4
  exact W.iald (v := .int (i a j.toNatClampNeg)) C.1 C.2.1 hc harr c2 (by rw [c4, arrV_size]; exact hin) (by rw [c4, arrV_read _ _ hlt]; rfl) rfl rfl hd (kk p e s m args below meth cd C H locs cells slots ls h1 h2 h3 h4 h5 h6)
theorem wf_zaload {a y n : Nat} {j : Int32} (hd : decode M.2.1 pc = .ok (.baload, 1)) (hy : wl_AT y = .boolean) (ht : t a = some (.inr (y, n))) (hin : vp_in j n) (kk : Wf l E n0 M d mc ms Q bk bn (pc + 1) L (.int (i a j.toNatClampNeg) :: st) nx t r i g) : Wf l E n0 M d mc ms Q bk bn pc L (.int j :: .ref a :: st) nx t r i g := by
  intro p e s m args below meth cd C H locs cells slots ls h1 h2 h3 h4 h5 h6
  obtain ⟨hyN, ce, hc, hce⟩ := (h3.2.2.1 a).w ht
  obtain ⟨c1, c2, c3, c4⟩ := hce.r
  have hlt : j.toNatClampNeg < n := Nat.not_le.mp fun q => hin (Or.inr q)
  have harr : s.isArrayOf ce (wl_AT y) := ⟨c3, by rw [c1]; exact ((C.2.2.2.2.2.2.2.2.1.2.1 y hyN).1 n (fun j => wf_v (wl_AT y) r i g a j)).2⟩
  rw [hy] at harr c4
  exact W.zald (v := .int (i a j.toNatClampNeg)) C.1 C.2.1 hc harr c2 (by rw [c4, arrV_size]; exact hin) (by rw [c4, arrV_read _ _ hlt]; rfl) rfl rfl hd (kk p e s m args below meth cd C H locs cells slots ls h1 h2 h3 h4 h5 h6)
theorem wf_laload {a y n : Nat} {j : Int32} (hd : decode M.2.1 pc = .ok (.laload, 1)) (hy : wl_AT y = .long) (ht : t a = some (.inr (y, n))) (hin : vp_in j n) (kk : Wf l E n0 M d mc ms Q bk bn (pc + 1) L (.long (g a j.toNatClampNeg) :: st) nx t r i g) : Wf l E n0 M d mc ms Q bk bn pc L (.int j :: .ref a :: st) nx t r i g := by
  intro p e s m args below meth cd C H locs cells slots ls h1 h2 h3 h4 h5 h6
  obtain ⟨hyN, ce, hc, hce⟩ := (h3.2.2.1 a).w ht
  obtain ⟨c1, c2, c3, c4⟩ := hce.r
  have hlt : j.toNatClampNeg < n := Nat.not_le.mp fun q => hin (Or.inr q)
  have harr : s.isArrayOf ce (wl_AT y) := ⟨c3, by rw [c1]; exact ((C.2.2.2.2.2.2.2.2.1.2.1 y hyN).1 n (fun j => wf_v (wl_AT y) r i g a j)).2⟩
  rw [hy] at harr c4
  exact W.lald (v := .long (g a j.toNatClampNeg)) C.1 C.2.1 hc harr c2 (by rw [c4, arrV_size]; exact hin) (by rw [c4, arrV_read _ _ hlt]; rfl) rfl rfl hd (kk p e s m args below meth cd C H locs cells slots ls h1 h2 h3 h4 h5 h6)
theorem wf_aaload {a y n b : Nat} {j : Int32} (hd : decode M.2.1 pc = .ok (.aaload, 1)) (hy : (wl_AT y).isReference = true) (hk : wf_kd (wl_AT y) = 2) (ht : t a = some (.inr (y, n))) (hin : vp_in j n) (hr : r a j.toNatClampNeg = some b) (kk : Wf l E n0 M d mc ms Q bk bn (pc + 1) L (.ref b :: st) nx t r i g) : Wf l E n0 M d mc ms Q bk bn pc L (.int j :: .ref a :: st) nx t r i g := by
  intro p e s m args below meth cd C H locs cells slots ls h1 h2 h3 h4 h5 h6
  obtain ⟨hyN, ce, hc, hce⟩ := (h3.2.2.1 a).w ht
  obtain ⟨c1, c2, c3, c4⟩ := hce.r
  have hlt : j.toNatClampNeg < n := Nat.not_le.mp fun q => hin (Or.inr q)
  have harr : s.isArrayOf ce (wl_AT y) := ⟨c3, by rw [c1]; exact ((C.2.2.2.2.2.2.2.2.1.2.1 y hyN).1 n (fun j => wf_v (wl_AT y) r i g a j)).2⟩
  exact W.aald (v := .ref b) (ty := wl_AT y) C.1 C.2.1 hc harr hy c2 (by rw [c4, arrV_size]; exact hin) (by rw [c4, arrV_read _ _ hlt, wf_v_r hk, hr]; rfl) rfl rfl hd (kk p e s m args below meth cd C H locs cells slots ls h1 h2 h3 h4 h5 h6)
theorem wf_alen {a y n : Nat} (hd : decode M.2.1 pc = .ok (.arraylength, 1)) (ht : t a = some (.inr (y, n))) (kk : Wf l E n0 M d mc ms Q bk bn (pc + 1) L (.int (nI n) :: st) nx t r i g) : Wf l E n0 M d mc ms Q bk bn pc L (.ref a :: st) nx t r i g := by
  intro p e s m args below meth cd C H locs cells slots ls h1 h2 h3 h4 h5 h6
  obtain ⟨hyN, ce, hc, hce⟩ := (h3.2.2.1 a).w ht
  obtain ⟨c1, c2, c3, c4⟩ := hce.r
  have harr : s.isArrayOf ce (wl_AT y) := ⟨c3, by rw [c1]; exact ((C.2.2.2.2.2.2.2.2.1.2.1 y hyN).1 n (fun j => wf_v (wl_AT y) r i g a j)).2⟩
  exact W.alen (n := nI n) C.1 C.2.1 hc harr (by rw [c4, arrV_size]; rfl) rfl rfl hd (kk p e s m args below meth cd C H locs cells slots ls h1 h2 h3 h4 h5 h6)
/-- behind a store into an array -/
theorem wf_stored {a y n j : Nat} {v : Value} {r' : Wr} {i' : Wi} {g' : Wl} {H H1 : Heap} (h3 : wf_R E n0 nx t r i g H) (hs : y ≠ wl_AS) (ht : t a = some (.inr (y, n))) (e1 : H1[a]? = some ((arrV (E.2.2 y) n (fun j => wf_v (wl_AT y) r i g a j)).setSlot j v)) (e2 : H1.size = H.size) (e3 : ∀ q, q ≠ a → H1[q]? = H[q]?)
    (hv : wf_v (wl_AT y) r' i' g' a j = v) (ho : ∀ b k, (b ≠ a ∨ k ≠ j) → r' b k = r b k ∧ i' b k = i b k ∧ g' b k = g b k) : wf_R E n0 nx t r' i' g' H1 := by
  refine h3.put e2 e3 ht (wf_A.ia hs ht ⟨((h3.2.2.1 a).a ht hs).1, ?_⟩) (fun b hb k => ho b k (Or.inl hb))
  rw [e1, arrV_store]
  congr 2
  funext k
  by_cases hk : k = j
  · subst hk
    simp only [updV, if_pos]
    exact hv.symm
  · simp only [updV, if_neg hk]
    exact (wf_v_c (ho a k (Or.inr hk)).1 (ho a k (Or.inr hk)).2.1 (ho a k (Or.inr hk)).2.2).symm
theorem wf_own {a y n : Nat} {H : Heap} (h3 : wf_R E n0 nx t r i g H) (ht : t a = some (.inr (y, n))) (hs : y ≠ wl_AS) : n0 ≤ a := (h3.2.2.2.1 a _ ht).resolve_right (fun ⟨m, z⟩ => hs (by cases z; rfl))
theorem wf_locs {locs : List Loc} {a k : Nat} (h : ∀ q ∈ locs, n0 ≤ q.base) (ha : n0 ≤ a) : ∀ q ∈ locs ++ [(⟨a, k⟩ : Loc)], n0 ≤ q.base := fun x hx => by
  rcases List.mem_append.mp hx with hx | hx
  · exact h x hx
  · rw [List.mem_singleton.mp hx]; exact ha
theorem wf_iastore {a y n : Nat} {j x : Int32} (hd : decode M.2.1 pc = .ok (.iastore, 1)) (hy : wl_AT y = .int) (hs : y ≠ wl_AS) (ht : t a = some (.inr (y, n))) (hin : vp_in j n) (kk : Wf l E n0 M d mc ms Q bk bn (pc + 1) L st nx t r (wf_up i a j.toNatClampNeg x) g) : Wf l E n0 M d mc ms Q bk bn pc L (.int x :: .int j :: .ref a :: st) nx t r i g := by
  intro p e s m args below meth cd C H locs cells slots ls h1 h2 h3 h4 h5 h6
  obtain ⟨hyN, hc⟩ := (h3.2.2.1 a).a ht hs
  have harr := (C.2.2.2.2.2.2.2.2.1.2.1 y hyN).1 n (fun j => wf_v (wl_AT y) r i g a j)
  rw [hy] at harr
  rw [← hy] at harr
  have hn0 := wf_own h3 ht hs
  exact W.iast C.1 C.2.1 hc (hy ▸ harr) (fun q => by cases q) (by rw [arrV_size]; exact hin) rfl rfl hd fun H1 e1 e2 e3 => kk p e s m args below meth cd C H1 _ cells slots ls h1 h2 (wf_stored h3 hs ht e1 e2 e3 ((wf_v_i (by rw [hy]; rfl)).trans (by rw [wf_up_s])) (fun b k h => ⟨rfl, wf_up_o h, rfl⟩)) (fun q hq => (e3 q (Nat.ne_of_lt (Nat.lt_of_lt_of_le hq hn0))).trans (h4 q hq)) (wf_locs h5 hn0) h6
theorem wf_zastore {a y n : Nat} {j x : Int32} (hd : decode M.2.1 pc = .ok (.bastore, 1)) (hy : wl_AT y = .boolean) (hs : y ≠ wl_AS) (hx : narrow .boolean (.int x) = .int x) (ht : t a = some (.inr (y, n))) (hin : vp_in j n) (kk : Wf l E n0 M d mc ms Q bk bn (pc + 1) L st nx t r (wf_up i a j.toNatClampNeg x) g) : Wf l E n0 M d mc ms Q bk bn pc L (.int x :: .int j :: .ref a :: st) nx t r i g := by
  intro p e s m args below meth cd C H locs cells slots ls h1 h2 h3 h4 h5 h6
  obtain ⟨hyN, hc⟩ := (h3.2.2.1 a).a ht hs
  have harr := (C.2.2.2.2.2.2.2.2.1.2.1 y hyN).1 n (fun j => wf_v (wl_AT y) r i g a j)
  have hn0 := wf_own h3 ht hs
  exact W.zast C.1 C.2.1 hc (hy ▸ harr) (fun q => by cases q) (by rw [arrV_size]; exact hin) rfl rfl hd fun H1 e1 e2 e3 => kk p e s m args below meth cd C H1 _ cells slots ls h1 h2 (wf_stored h3 hs ht e1 e2 e3 ((wf_v_i (by rw [hy]; rfl)).trans (by rw [wf_up_s, hx])) (fun b k h => ⟨rfl, wf_up_o h, rfl⟩)) (fun q hq => (e3 q (Nat.ne_of_lt (Nat.lt_of_lt_of_le hq hn0))).trans (h4 q hq)) (wf_locs h5 hn0) h6
theorem wf_lastore {a y n : Nat} {j : Int32} {x : Int64} (hd : decode M.2.1 pc = .ok (.lastore, 1)) (hy : wl_AT y = .long) (hs : y ≠ wl_AS) (ht : t a = some (.inr (y, n))) (hin : vp_in j n) (kk : Wf l E n0 M d mc ms Q bk bn (pc + 1) L st nx t r i (wf_up g a j.toNatClampNeg x)) : Wf l E n0 M d mc ms Q bk bn pc L (.long x :: .int j :: .ref a :: st) nx t r i g := by
  intro p e s m args below meth cd C H locs cells slots ls h1 h2 h3 h4 h5 h6
  obtain ⟨hyN, hc⟩ := (h3.2.2.1 a).a ht hs
  have harr := (C.2.2.2.2.2.2.2.2.1.2.1 y hyN).1 n (fun j => wf_v (wl_AT y) r i g a j)
  have hn0 := wf_own h3 ht hs
  exact W.last C.1 C.2.1 hc (hy ▸ harr) (fun q => by cases q) (by rw [arrV_size]; exact hin) rfl rfl hd fun H1 e1 e2 e3 => kk p e s m args below meth cd C H1 _ cells slots ls h1 h2 (wf_stored h3 hs ht e1 e2 e3 ((wf_v_l (by rw [hy]; rfl)).trans (by rw [wf_up_s])) (fun b k h => ⟨rfl, rfl, wf_up_o h⟩)) (fun q hq => (e3 q (Nat.ne_of_lt (Nat.lt_of_lt_of_le hq hn0))).trans (h4 q hq)) (wf_locs h5 hn0) h6
/-- an object of class c into an array of its class -/
theorem wf_aastore {a y n b c : Nat} {j : Int32} {C0 : String} (hd : decode M.2.1 pc = .ok (.aastore, 1)) (hy : wl_AT y = .object C0) (hc0 : ∃ q : vw_C, wl_CL[c]? = some q ∧ q.1 = C0) (hs : y ≠ wl_AS) (ht : t a = some (.inr (y, n))) (htb : t b = some (.inl c)) (hin : vp_in j n) (kk : Wf l E n0 M d mc ms Q bk bn (pc + 1) L st nx t (wf_up r a j.toNatClampNeg (some b)) i g) : Wf l E n0 M d mc ms Q bk bn pc L (.ref b :: .int j :: .ref a :: st) nx t r i g := by
  intro p e s m args below meth cd C H locs cells slots ls h1 h2 h3 h4 h5 h6
  obtain ⟨hyN, hc⟩ := (h3.2.2.1 a).a ht hs
  have hlt : j.toNatClampNeg < n := Nat.not_le.mp fun q => hin (Or.inr q)
  have h0 : ¬ j < 0 := fun q => hin (Or.inl q)
  obtain ⟨q, hq, rfl⟩ := hc0
  obtain ⟨q', hq', cellV, g1, g2, g3, -⟩ := (h3.2.2.1 b).o htb
  have hcls := (C.2.2.2.2.2.2.2.2.1.1 c _ hq).2
  have hRA := (C.2.2.2.2.2.2.2.2.1.2.1 y hyN).2 hs
  rw [hy] at hRA
  obtain ⟨kA, comp, k1, k2, k3, -⟩ := hRA
  have hcomp : comp = E.1 c := Option.some.inj (k3.symm.trans hcls.1)
  subst hcomp
  obtain ⟨kC, hkC, -⟩ := hcls.2
  have hn0 := wf_own h3 ht hs
  exact W.aast C.1 C.2.1 hc (fun q h => by cases h) (fun h => by cases h) k1 k2 rfl hkC ⟨h0, by rw [arrV_size]; exact hlt⟩ g1 (fun q h => by rw [g3] at h; cases h) (by rw [g2]; exact hkC) (by rw [g2]; exact va_assign hcls) rfl rfl hd fun H1 e1 e2 e3 => kk p e s m args below meth cd C H1 _ cells slots ls h1 h2 (wf_stored h3 hs ht e1 e2 e3 ((wf_v_r (by rw [hy]; rfl)).trans (by rw [wf_up_s]; rfl)) (fun b k h => ⟨wf_up_o h, rfl, rfl⟩)) (fun q hq => (e3 q (Nat.ne_of_lt (Nat.lt_of_lt_of_le hq hn0))).trans (h4 q hq)) (wf_locs h5 hn0) h6
/-! new cells -/
theorem wf_new {idx c N bk' bn' : Nat} (hd : decode M.2.1 pc = .ok (.new idx, 3)) (hc : wf_nw M.1.cls idx c N) (hk : bk' + 1 ≤ bk) (hn : bn' + N ≤ bn) (kk : t nx = none → (∀ k, r nx k = none ∧ i nx k = 0 ∧ g nx k = 0) → Wf l E n0 M d mc ms Q bk' bn' (pc + 3) L (.ref nx :: st) (nx + 1) (wf_up1 t nx (some (.inl c))) r i g) : Wf l E n0 M d mc ms Q bk bn pc L st nx t r i g := by
  intro p e s m args below meth cd C H locs cells slots ls h1 h2 h3 h4 h5 h6
  obtain ⟨q, hq, rfl, hcl, hins, hini, hdk⟩ := hc
  obtain ⟨hin, hty, hnm⟩ := wl_ok c _ hq
  have hKn := C.2.2.2.2.2.2.2.2.1.1 c _ hq
  obtain ⟨f1, f2⟩ := h3.2.2.2.2 nx (Nat.le_refl _)
  refine W.newcK C.1 C.2.1 C.2.2.2.2.1 (C.2.2.2.2.2.1 _ hcl) (C.2.2.2.2.2.1 _ hins) (C.2.2.2.2.2.1 _ hini) rfl hd (show cells + 1 ≤ mc by omega) (show slots + q.2.2 ≤ ms by omega) hKn.2.1 h3.1 fun H1 kC hkC e1 z1 o1 => ?_
  refine kk f1 f2 p e s m args below meth cd C H1 locs (cells + 1) (slots + q.2.2) ls (by omega) (by omega) (h3.new z1 o1 (wf_A.io wf_up1_s ⟨q, hq, (u_born (wl_TY c) C.2.2.2.2.2.1 hin hKn hkC e1 hty).to (fun k hk => wf_default (hdk k hk) (f2 k))⟩)) (fun x hx => (o1 x (Nat.lt_of_lt_of_le hx h3.2.1)).trans (h4 x hx)) h5 h6
theorem wf_newarr {y N bk' bn' : Nat} {at_ : ArrayType} {n : Int32} (hd : decode M.2.1 pc = .ok (.newarray at_, 2)) (hy : wl_AT y = newarray.typeOf at_) (hyS : y < wl_AS) (ha : Cond.arrayClass (newarray.typeOf at_) ∈ wl_ALL) (hra : ∀ U : State, va_RA U (E.2.2 y) (newarray.typeOf at_) → U.vm.findClass ("[" ++ (newarray.typeOf at_).toString) = some (E.2.2 y)) (hdk : wf_dk (wl_AT y) = true)
    (hn0 : ¬ n < 0) (hN : n.toNatClampNeg = N) (hbytes : N * componentBytes (newarray.typeOf at_) ≤ 536870912) (hk : bk' + 1 ≤ bk) (hn : bn' + N ≤ bn) (kk : t nx = none → (∀ k, r nx k = none ∧ i nx k = 0 ∧ g nx k = 0) → Wf l E n0 M d mc ms Q bk' bn' (pc + 2) L (.ref nx :: st) (nx + 1) (wf_up1 t nx (some (.inr (y, N)))) r i g) : Wf l E n0 M d mc ms Q bk bn pc L (.int n :: st) nx t r i g := by
  intro p e s m args below meth cd C H locs cells slots ls h1 h2 h3 h4 h5 h6
  obtain ⟨f1, f2⟩ := h3.2.2.2.2 nx (Nat.le_refl _)
  subst hN
  have hs : y ≠ wl_AS := Nat.ne_of_lt hyS
  have hyN : y < wl_AN := Nat.lt_succ_of_lt hyS
  refine W.newa C.1 C.2.1 (C.2.2.2.2.2.1 _ ha) rfl hd rfl hn0 hbytes (show cells + 1 ≤ mc by omega) (show slots + n.toNatClampNeg ≤ ms by omega) fun cA kA comp a1 a2 a3 => ?_
  have hcA : cA = E.2.2 y := Option.some.inj (a1.symm.trans (hra s (hy ▸ (C.2.2.2.2.2.2.2.2.1.2.1 y hyN).2 hs)))
  have hz := h3.1
  subst hz
  generalize hH1 : H.push ({ cls := cA, slots := Array.replicate n.toNatClampNeg (defaultValue (newarray.typeOf at_)), vm := .none } : Cell) = H1
  have z1 : H1.size = H.size + 1 := by rw [← hH1, Array.size_push]
  have e1 : H1[H.size]? = some (arrV cA n.toNatClampNeg (fun _ => defaultValue (newarray.typeOf at_))) := by rw [← hH1, Array.getElem?_push_size, ← arrV_new]
  have o1 : ∀ q : Nat, q < H.size → H1[q]? = H[q]? := fun q hq => by rw [← hH1, Array.getElem?_push, if_neg (Nat.ne_of_lt hq)]
  refine kk f1 f2 p e s m args below meth cd C H1 locs (cells + 1) (slots + n.toNatClampNeg) ls (by omega) (by omega) (h3.new z1 o1 (wf_A.ia hs wf_up1_s ⟨hyN, ?_⟩)) (fun x hx => (o1 x (Nat.lt_of_lt_of_le hx h3.2.1)).trans (h4 x hx)) h5 h6
  rw [e1, hcA]
  congr 2
  funext k
  rw [← hy]
  exact wf_default hdk (f2 k)
theorem wf_anew {idx y N bk' bn' : Nat} {C0 : String} {n : Int32} (hd : decode M.2.1 pc = .ok (.anewarray idx, 3)) (hy : wl_AT y = .object C0) (hyS : y < wl_AS) (hcl : Cond.classLink M.1.cls idx C0 ∈ wl_ALL) (hov : C0 ∈ wl_OV)
    (hn0 : ¬ n < 0) (hN : n.toNatClampNeg = N) (hbytes : N * 4 ≤ 536870912) (hk : bk' + 1 ≤ bk) (hn : bn' + N ≤ bn) (kk : t nx = none → (∀ k, r nx k = none ∧ i nx k = 0 ∧ g nx k = 0) → Wf l E n0 M d mc ms Q bk' bn' (pc + 3) L (.ref nx :: st) (nx + 1) (wf_up1 t nx (some (.inr (y, N)))) r i g) : Wf l E n0 M d mc ms Q bk bn pc L (.int n :: st) nx t r i g := by
  intro p e s m args below meth cd C H locs cells slots ls h1 h2 h3 h4 h5 h6
  obtain ⟨f1, f2⟩ := h3.2.2.2.2 nx (Nat.le_refl _)
  subst hN
  have hs : y ≠ wl_AS := Nat.ne_of_lt hyS
  have hyN : y < wl_AN := Nat.lt_succ_of_lt hyS
  refine W.anew C.1 C.2.1 C.2.2.2.2.1 (C.2.2.2.2.2.1 _ hcl) (va_AO.use (C.2.2.2.2.2.2.2.2.1.2.2 C0 hov)) rfl hd rfl hn0 hbytes (show cells + 1 ≤ mc by omega) (show slots + n.toNatClampNeg ≤ ms by omega) fun cA kA comp a1 a2 a3 a4 => ?_
  have hRA := (C.2.2.2.2.2.2.2.2.1.2.1 y hyN).2 hs
  rw [hy] at hRA
  obtain ⟨kA', comp', -, -, -, b4⟩ := hRA
  have hcA : cA = E.2.2 y := Option.some.inj (a1.symm.trans b4)
  have hz := h3.1
  subst hz
  generalize hH1 : H.push ({ cls := cA, slots := Array.replicate n.toNatClampNeg .null, vm := .none } : Cell) = H1
  have z1 : H1.size = H.size + 1 := by rw [← hH1, Array.size_push]
  have e1 : H1[H.size]? = some (arrV cA n.toNatClampNeg (fun _ => .null)) := by rw [← hH1, Array.getElem?_push_size, ← arrV_new]
  have o1 : ∀ q : Nat, q < H.size → H1[q]? = H[q]? := fun q hq => by rw [← hH1, Array.getElem?_push, if_neg (Nat.ne_of_lt hq)]
  refine kk f1 f2 p e s m args below meth cd C H1 locs (cells + 1) (slots + n.toNatClampNeg) ls (by omega) (by omega) (h3.new z1 o1 (wf_A.ia hs wf_up1_s ⟨hyN, ?_⟩)) (fun x hx => (o1 x (Nat.lt_of_lt_of_le hx h3.2.1)).trans (h4 x hx)) h5 h6
  rw [e1, hcA, hy]
  congr 2
  funext k
  exact wf_default (y := .object C0) rfl (f2 k)
theorem wf_objinit {idx a : Nat} (hd : decode M.2.1 pc = .ok (.invokespecial idx, 3)) (hl : Cond.methodLink M.1.cls idx Lib.objectInit ∈ wl_ALL) (hin : Cond.instanceMethod Lib.objectInit ∈ wl_ALL) (hco : Cond.code Lib.objectInit ⟨#[0xb1]⟩ 1 none ∈ wl_ALL) (hrm : (st.map fun v => v.category).sum ≤ 8) (kk : Wf l E n0 M (d + 1) mc ms Q bk bn (pc + 3) L st nx t r i g) : Wf l E n0 M (d + 1) mc ms Q bk bn pc L (.ref a :: st) nx t r i g := by
  intro p e s m args below meth cd C H locs cells slots ls h1 h2 h3 h4 h5 h6
  refine W.objInit C.1 C.2.1 C.2.2.2.2.1 (C.2.2.2.2.2.1 _ hl) (C.2.2.2.2.2.1 _ hin) (C.2.2.2.2.2.1 _ hco) rfl (h6.1.trans C.2.2.1.symm) rfl hd (show 1 ≤ d + 1 by omega) ?_ (kk p e s m args below meth cd C H locs cells slots ls h1 h2 h3 h4 h5 h6)
  show 2 * 0 + _ + 12 ≤ 40 * (d + 1)
  omega
/-! calls -/
/-- what a callee's words are: its code, its class initialised, its arity -/
def wf_tg (M' : Wm) (n : Nat) : Prop := Cond.code M'.1 M'.2.1 M'.2.2.1 M'.2.2.2 ∈ wl_ALL ∧ Cond.initialized M'.1.cls ∈ wl_ALL ∧ (M'.1.cls ≠ "java/lang/invoke/MethodHandle" ∧ M'.1.cls ≠ "java/lang/invoke/VarHandle") ∧ (parseMethodDescriptor M'.1.desc).map (fun d => d.parameters.length) = some n ∧ M'.2.2.1 ≤ 21
theorem wf_CallB {p : Program} {s : State} {m : MethodId} {args : Array Value} {meth : Method} {cd : Code} {M' : Wm} {idx n mc' ms' : Nat} (C : wf_C E n0 M p s m args meth cd) (hT : wf_tg M' n) (hl : Cond.methodLink M.1.cls idx M'.1 ∈ wl_ALL) : CallB (wf_rm (d + 1) mc ms) s args M.1.cls idx M'.1 M'.2.1 M'.2.2.1 M'.2.2.2 (wf_ws M') (wf_rm d mc' ms') mc' ms' n := by
  obtain ⟨t1, t2, t3, t4, t5⟩ := hT
  refine ⟨rfl, rfl, Nat.le_refl _, ?_, fun w hw a' U hW => ?_, List.mem_cons_self, C.2.2.2.2.2.1 _ t1, C.2.2.2.2.2.1 _ t2, t3, fun sig h => ?_, C.2.2.2.2.2.1 _ hl⟩
  · show 8 + (M'.2.2.1 + 11) + 40 * d ≤ 40 * (d + 1)
    omega
  · rcases List.mem_cons.mp hw with rfl | hw
    · exact word_at hW (wl_good _ t1) (C.2.2.2.2.2.1 _ t1)
    · exact word_at hW (wl_good _ hw) (C.2.2.2.2.2.1 _ hw)
  · rw [h] at t4
    exact (Option.some.inj t4).symm
theorem wf_blind {av : List Value} : FrameBlind (wf_P E n0 av nx t r i g) := fun a U f mk q => by
  obtain ⟨q0, qR, qK, qJ⟩ := q
  exact ⟨q0, qR, wf_K.moved (u := U) (U := U.calling f mk a) (Vm.Alike.refl U.vm) qK, wl_J_moved (u := U) (U := U.calling f mk a) (State.WarmedH.refl U) (fun _ _ => rfl) qJ⟩
theorem wf_called {p : Program} {e : Env} {s : State} {m : MethodId} {args : Array Value} {below : List Frame} {meth : Method} {cd : Code} {mc' ms' bk' bn' : Nat} {Q' : Wq} {a : Array Value} {H : Heap} {locs : List Loc} {cells slots : Nat} {ls : Array Slot} {st0 : List Value} (C : wf_C E n0 M p s m args meth cd)
    (hr : CallRun p l e (wf_rm (d + 1) mc ms) s m args below meth cd H locs cells slots mc' ms' (F0 m pc ls st0) st (wf_Q E n0 Q' a) (fun q => n0 ≤ q)) (h1 : cells + bk ≤ mc) (h2 : slots + bn ≤ ms) (h4 : wf_O n0 s.heap H) (h5 : ∀ q ∈ locs, n0 ≤ q.base) (h6 : lv_has ls M.2.2.1 L) (hk : bk' + mc' ≤ bk) (hn : bn' + ms' ≤ bn)
    (kk : ∀ v nx t r i g, Q' (.inl v) nx t r i g → Wf l E n0 M (d + 1) mc ms Q bk' bn' (pc + 3) L (v.toList ++ st) nx t r i g) : W p l e (wf_rm (d + 1) mc ms) s m args below meth cd H locs cells slots (wf_Z E n0 mc ms Q below args s) (F0 m pc ls st0) := by
  intro T hT X
  obtain ⟨v, st₀, u, T', L', h0, X', hL, e1, ⟨vo, nx', t', r', i', g', b1, b2, b3, b4⟩, step⟩ := hr T hT X
  cases vo with
  | inr X => obtain ⟨_, _, b1, -⟩ := b1; cases b1
  | inl v' =>
    cases b1
    obtain ⟨t2, a1, a2⟩ := kk _ nx' t' r' i' g' b4 p e s m args below meth cd C T'.heap (locs ++ L') (cells + mc') (slots + ms') ls (by omega) (by omega) (by rw [e1]; exact b2) (fun q hq => by rw [e1, b3 q hq, h0]; exact h4 q hq) (fun q hq => by
      rcases List.mem_append.mp hq with h | h
      · exact h5 q h
      · exact hL q h) h6 T' rfl X'
    exact ⟨t2, step t2 a1, a2⟩
theorem wf_iv {M' : Wm} {idx b c mc' ms' bk' bn' : Nat} {As : List Value} {Q' : Wq} (hd : decode M.2.1 pc = .ok (.invokevirtual idx, 3)) (hT : wf_tg M' As.length) (hl : Cond.methodLink M.1.cls idx M'.1 ∈ wl_ALL) (hi : Cond.instanceMethod M'.1 ∈ wl_ALL) (hs : Cond.selects M'.1.cls M'.1 M'.1 ∈ wl_ALL) (hc : ∃ q : vw_C, wl_CL[c]? = some q ∧ q.1 = M'.1.cls) (hb : t b = some (.inl c)) (hrm : (st.map fun v => v.category).sum ≤ 8) (hk : bk' + mc' ≤ bk) (hn : bn' + ms' ≤ bn)
    (hC : Ct l E n0 M' d mc' ms' (.ref b :: As) nx t r i g Q') (hnt : ∀ X nx t r i g, ¬ Q' (.inr X) nx t r i g) (kk : ∀ v nx t r i g, Q' (.inl v) nx t r i g → Wf l E n0 M (d + 1) mc ms Q bk' bn' (pc + 3) L (v.toList ++ st) nx t r i g) : Wf l E n0 M (d + 1) mc ms Q bk bn pc L (As.reverse ++ .ref b :: st) nx t r i g := by
  intro p e s m args below meth cd C H locs cells slots ls h1 h2 h3 h4 h5 h6
  obtain ⟨q, hq, hqc⟩ := hc
  obtain ⟨q', hq', cell, q1, q2, q3, -⟩ := (h3.2.2.1 b).o hb
  have hcls := (C.2.2.2.2.2.2.2.2.1.1 c _ hq).2.1
  rw [hqc] at hcls
  refine wf_called C (W.runV (cc := M.2.1) (nL := M.2.2.1) (Ts := wl_ALL) (own := M.1.cls) (C := M'.1.cls) (n := As.length) ⟨C.1, C.2.1, C.2.2.1, C.2.2.2.2.1, C.2.2.2.2.2.1⟩ (hC.met hnt) ⟨wf_CallB C hT hl, C.2.2.2.2.2.1 _ hi, C.2.2.2.2.2.1 _ hs⟩ ⟨wf_blind, ⟨cell, q1, by rw [q3]; rfl, by rw [q2]; exact hcls⟩, fun U hU hW => ⟨rfl, by rw [hU]; exact h3, wf_K.moved hW.alike C.2.2.2.2.2.2.2.2.1, wl_J_moved hW (by rw [hU]; exact h4) C.2.2.2.2.2.2.2.2.2⟩⟩ rfl rfl h6.1 rfl (lv_room hrm) hd ⟨show cells + mc' ≤ mc by omega, show slots + ms' ≤ ms by omega⟩) h1 h2 h4 h5 h6 hk hn kk
theorem wf_is {M' : Wm} {idx mc' ms' bk' bn' : Nat} {As : List Value} {Q' : Wq} (hd : decode M.2.1 pc = .ok (.invokestatic idx, 3)) (hT : wf_tg M' As.length) (hl : Cond.methodLink M.1.cls idx M'.1 ∈ wl_ALL) (hs : Cond.static M'.1 ∈ wl_ALL) (hrm : (st.map fun v => v.category).sum ≤ 8) (hk : bk' + mc' ≤ bk) (hn : bn' + ms' ≤ bn)
    (hC : Ct l E n0 M' d mc' ms' As nx t r i g Q') (hnt : ∀ X nx t r i g, ¬ Q' (.inr X) nx t r i g) (kk : ∀ v nx t r i g, Q' (.inl v) nx t r i g → Wf l E n0 M (d + 1) mc ms Q bk' bn' (pc + 3) L (v.toList ++ st) nx t r i g) : Wf l E n0 M (d + 1) mc ms Q bk bn pc L (As.reverse ++ st) nx t r i g := by
  intro p e s m args below meth cd C H locs cells slots ls h1 h2 h3 h4 h5 h6
  refine wf_called C (W.runS (cc := M.2.1) (nL := M.2.2.1) (Ts := wl_ALL) (own := M.1.cls) (n := As.length) ⟨C.1, C.2.1, C.2.2.1, C.2.2.2.2.1, C.2.2.2.2.2.1⟩ (hC.met hnt) ⟨wf_CallB C hT hl, C.2.2.2.2.2.1 _ hs⟩ ⟨wf_blind, fun U hU hW => ⟨rfl, by rw [hU]; exact h3, wf_K.moved hW.alike C.2.2.2.2.2.2.2.2.1, wl_J_moved hW (by rw [hU]; exact h4) C.2.2.2.2.2.2.2.2.2⟩⟩ rfl rfl h6.1 rfl (lv_room hrm) hd ⟨show cells + mc' ≤ mc by omega, show slots + ms' ≤ ms by omega⟩) h1 h2 h4 h5 h6 hk hn kk
theorem wf_ii {y : MethodName} {cc : ByteArray} {nL idx b mc' ms' bk' bn' : Nat} {As : List Value} {Q' : Wq} (hd : decode M.2.1 pc = .ok (.invokespecial idx, 3)) (hT : wf_tg (y, cc, nL, none) As.length) (hl : Cond.methodLink M.1.cls idx y ∈ wl_ALL) (hi : Cond.instanceMethod y ∈ wl_ALL) (hy : y.name = "<init>") (hrm : (st.map fun v => v.category).sum ≤ 8) (hk : bk' + mc' ≤ bk) (hn : bn' + ms' ≤ bn)
    (hC : Ct l E n0 (y, cc, nL, none) d mc' ms' (.ref b :: As) nx t r i g Q') (hnt : ∀ X nx t r i g, ¬ Q' (.inr X) nx t r i g) (kk : ∀ v nx t r i g, Q' (.inl v) nx t r i g → Wf l E n0 M (d + 1) mc ms Q bk' bn' (pc + 3) L (v.toList ++ st) nx t r i g) : Wf l E n0 M (d + 1) mc ms Q bk bn pc L (As.reverse ++ .ref b :: st) nx t r i g := by
  intro p e s m args below meth cd C H locs cells slots ls h1 h2 h3 h4 h5 h6
  refine wf_called C (W.runI (cc := M.2.1) (nL := M.2.2.1) (Ts := wl_ALL) (own := M.1.cls) (n := As.length) ⟨C.1, C.2.1, C.2.2.1, C.2.2.2.2.1, C.2.2.2.2.2.1⟩ (hC.met hnt) ⟨wf_CallB (M' := (y, cc, nL, none)) C hT hl, hy, C.2.2.2.2.2.1 _ hi⟩ ⟨wf_blind, fun U hU hW => ⟨rfl, by rw [hU]; exact h3, wf_K.moved hW.alike C.2.2.2.2.2.2.2.2.1, wl_J_moved hW (by rw [hU]; exact h4) C.2.2.2.2.2.2.2.2.2⟩⟩ rfl rfl h6.1 rfl (lv_room hrm) hd ⟨show cells + mc' ≤ mc by omega, show slots + ms' ≤ ms by omega⟩) h1 h2 h4 h5 h6 hk hn kk
end WfHeap
