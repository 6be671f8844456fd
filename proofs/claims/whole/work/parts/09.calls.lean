/-! calls by arity; System.arraycopy between int arrays (one and the same array, too) -/
theorem na_copy : Cond.native arraycopyName ∈ wl_ALL := wl_mem 362 (by decide +kernel) rfl
theorem sm_copy : Cond.static arraycopyName ∈ wl_ALL := wl_mem 361 (by decide +kernel) rfl
theorem in_Sys : Cond.initialized "java/lang/System" ∈ wl_ALL := wl_mem 80 (by decide +kernel) rfl
/-- n ints of cell src from place sp on, laid into cell dst from place dp on -/
def wf_cp (i : Wi) (src dst sp dp n : Nat) : Wi := fun b k => if b = dst ∧ dp ≤ k ∧ k < dp + n then i src (sp + (k - dp)) else i b k
theorem wf_cp_in {i : Wi} {src dst sp dp n k : Nat} (h : dp ≤ k) (h2 : k < dp + n) : wf_cp i src dst sp dp n dst k = i src (sp + (k - dp)) := if_pos ⟨rfl, h, h2⟩
theorem wf_cp_a {i : Wi} {src dst sp dp n b k : Nat} (h : b ≠ dst) : wf_cp i src dst sp dp n b k = i b k := if_neg fun q => h q.1
theorem wf_cp_k {i : Wi} {src dst sp dp n b k : Nat} (h : ¬ (dp ≤ k ∧ k < dp + n)) : wf_cp i src dst sp dp n b k = i b k := if_neg fun q => h q.2
section WfCalls
variable {l : Launch} {E : We} {n0 : Nat} {M : Wm} {d mc ms : Nat} {Q : Wq} {bk bn pc : Nat} {L : List (Nat × Value)} {st : List Value} {nx : Nat} {t : Wt} {r : Wr} {i : Wi} {g : Wl}
theorem wf_iv0 {M' : Wm} {idx b c mc' ms' bk' bn' : Nat} {Q' : Wq} (hd : decode M.2.1 pc = .ok (.invokevirtual idx, 3)) (hT : wf_tg M' 0) (hl : Cond.methodLink M.1.cls idx M'.1 ∈ wl_ALL) (hi : Cond.instanceMethod M'.1 ∈ wl_ALL) (hs : Cond.selects M'.1.cls M'.1 M'.1 ∈ wl_ALL) (hc : ∃ q : vw_C, wl_CL[c]? = some q ∧ q.1 = M'.1.cls) (hb : t b = some (.inl c)) (hrm : (st.map fun v => v.category).sum ≤ 8) (hk : bk' + mc' ≤ bk) (hn : bn' + ms' ≤ bn) (hC : Ct l E n0 M' d mc' ms' [.ref b] nx t r i g Q') (hnt : ∀ X nx t r i g, ¬ Q' (.inr X) nx t r i g) (kk : ∀ v nx t r i g, Q' (.inl v) nx t r i g → Wf l E n0 M (d + 1) mc ms Q bk' bn' (pc + 3) L (v.toList ++ st) nx t r i g) : Wf l E n0 M (d + 1) mc ms Q bk bn pc L (.ref b :: st) nx t r i g :=
  wf_iv (As := []) hd hT hl hi hs hc hb hrm hk hn hC hnt kk
theorem wf_is0 {M' : Wm} {idx mc' ms' bk' bn' : Nat} {Q' : Wq} (hd : decode M.2.1 pc = .ok (.invokestatic idx, 3)) (hT : wf_tg M' 0) (hl : Cond.methodLink M.1.cls idx M'.1 ∈ wl_ALL) (hs : Cond.static M'.1 ∈ wl_ALL) (hrm : (st.map fun v => v.category).sum ≤ 8) (hk : bk' + mc' ≤ bk) (hn : bn' + ms' ≤ bn) (hC : Ct l E n0 M' d mc' ms' [] nx t r i g Q') (hnt : ∀ X nx t r i g, ¬ Q' (.inr X) nx t r i g) (kk : ∀ v nx t r i g, Q' (.inl v) nx t r i g → Wf l E n0 M (d + 1) mc ms Q bk' bn' (pc + 3) L (v.toList ++ st) nx t r i g) : Wf l E n0 M (d + 1) mc ms Q bk bn pc L (st) nx t r i g :=
  wf_is (As := []) hd hT hl hs hrm hk hn hC hnt kk
theorem wf_ii0 {y : MethodName} {cc : ByteArray} {nL idx b mc' ms' bk' bn' : Nat} {Q' : Wq} (hd : decode M.2.1 pc = .ok (.invokespecial idx, 3)) (hT : wf_tg (y, cc, nL, none) 0) (hl : Cond.methodLink M.1.cls idx y ∈ wl_ALL) (hi : Cond.instanceMethod y ∈ wl_ALL) (hy : y.name = "<init>") (hrm : (st.map fun v => v.category).sum ≤ 8) (hk : bk' + mc' ≤ bk) (hn : bn' + ms' ≤ bn) (hC : Ct l E n0 (y, cc, nL, none) d mc' ms' [.ref b] nx t r i g Q') (hnt : ∀ X nx t r i g, ¬ Q' (.inr X) nx t r i g) (kk : ∀ v nx t r i g, Q' (.inl v) nx t r i g → Wf l E n0 M (d + 1) mc ms Q bk' bn' (pc + 3) L (v.toList ++ st) nx t r i g) : Wf l E n0 M (d + 1) mc ms Q bk bn pc L (.ref b :: st) nx t r i g :=
  wf_ii (As := []) hd hT hl hi hy hrm hk hn hC hnt kk
theorem wf_iv1 {M' : Wm} {idx b c mc' ms' bk' bn' : Nat} {x1 : Value} {Q' : Wq} (hd : decode M.2.1 pc = .ok (.invokevirtual idx, 3)) (hT : wf_tg M' 1) (hl : Cond.methodLink M.1.cls idx M'.1 ∈ wl_ALL) (hi : Cond.instanceMethod M'.1 ∈ wl_ALL) (hs : Cond.selects M'.1.cls M'.1 M'.1 ∈ wl_ALL) (hc : ∃ q : vw_C, wl_CL[c]? = some q ∧ q.1 = M'.1.cls) (hb : t b = some (.inl c)) (hrm : (st.map fun v => v.category).sum ≤ 8) (hk : bk' + mc' ≤ bk) (hn : bn' + ms' ≤ bn) (hC : Ct l E n0 M' d mc' ms' [.ref b, x1] nx t r i g Q') (hnt : ∀ X nx t r i g, ¬ Q' (.inr X) nx t r i g) (kk : ∀ v nx t r i g, Q' (.inl v) nx t r i g → Wf l E n0 M (d + 1) mc ms Q bk' bn' (pc + 3) L (v.toList ++ st) nx t r i g) : Wf l E n0 M (d + 1) mc ms Q bk bn pc L (x1 :: .ref b :: st) nx t r i g :=
  wf_iv (As := [x1]) hd hT hl hi hs hc hb hrm hk hn hC hnt kk
theorem wf_is1 {M' : Wm} {idx mc' ms' bk' bn' : Nat} {x1 : Value} {Q' : Wq} (hd : decode M.2.1 pc = .ok (.invokestatic idx, 3)) (hT : wf_tg M' 1) (hl : Cond.methodLink M.1.cls idx M'.1 ∈ wl_ALL) (hs : Cond.static M'.1 ∈ wl_ALL) (hrm : (st.map fun v => v.category).sum ≤ 8) (hk : bk' + mc' ≤ bk) (hn : bn' + ms' ≤ bn) (hC : Ct l E n0 M' d mc' ms' [x1] nx t r i g Q') (hnt : ∀ X nx t r i g, ¬ Q' (.inr X) nx t r i g) (kk : ∀ v nx t r i g, Q' (.inl v) nx t r i g → Wf l E n0 M (d + 1) mc ms Q bk' bn' (pc + 3) L (v.toList ++ st) nx t r i g) : Wf l E n0 M (d + 1) mc ms Q bk bn pc L (x1 :: st) nx t r i g :=
  wf_is (As := [x1]) hd hT hl hs hrm hk hn hC hnt kk
theorem wf_ii1 {y : MethodName} {cc : ByteArray} {nL idx b mc' ms' bk' bn' : Nat} {x1 : Value} {Q' : Wq} (hd : decode M.2.1 pc = .ok (.invokespecial idx, 3)) (hT : wf_tg (y, cc, nL, none) 1) (hl : Cond.methodLink M.1.cls idx y ∈ wl_ALL) (hi : Cond.instanceMethod y ∈ wl_ALL) (hy : y.name = "<init>") (hrm : (st.map fun v => v.category).sum ≤ 8) (hk : bk' + mc' ≤ bk) (hn : bn' + ms' ≤ bn) (hC : Ct l E n0 (y, cc, nL, none) d mc' ms' [.ref b, x1] nx t r i g Q') (hnt : ∀ X nx t r i g, ¬ Q' (.inr X) nx t r i g) (kk : ∀ v nx t r i g, Q' (.inl v) nx t r i g → Wf l E n0 M (d + 1) mc ms Q bk' bn' (pc + 3) L (v.toList ++ st) nx t r i g) : Wf l E n0 M (d + 1) mc ms Q bk bn pc L (x1 :: .ref b :: st) nx t r i g :=
  wf_ii (As := [x1]) hd hT hl hi hy hrm hk hn hC hnt kk
theorem wf_iv2 {M' : Wm} {idx b c mc' ms' bk' bn' : Nat} {x1 x2 : Value} {Q' : Wq} (hd : decode M.2.1 pc = .ok (.invokevirtual idx, 3)) (hT : wf_tg M' 2) (hl : Cond.methodLink M.1.cls idx M'.1 ∈ wl_ALL) (hi : Cond.instanceMethod M'.1 ∈ wl_ALL) (hs : Cond.selects M'.1.cls M'.1 M'.1 ∈ wl_ALL) (hc : ∃ q : vw_C, wl_CL[c]? = some q ∧ q.1 = M'.1.cls) (hb : t b = some (.inl c)) (hrm : (st.map fun v => v.category).sum ≤ 8) (hk : bk' + mc' ≤ bk) (hn : bn' + ms' ≤ bn) (hC : Ct l E n0 M' d mc' ms' [.ref b, x1, x2] nx t r i g Q') (hnt : ∀ X nx t r i g, ¬ Q' (.inr X) nx t r i g) (kk : ∀ v nx t r i g, Q' (.inl v) nx t r i g → Wf l E n0 M (d + 1) mc ms Q bk' bn' (pc + 3) L (v.toList ++ st) nx t r i g) : Wf l E n0 M (d + 1) mc ms Q bk bn pc L (x2 :: x1 :: .ref b :: st) nx t r i g :=
  wf_iv (As := [x1, x2]) hd hT hl hi hs hc hb hrm hk hn hC hnt kk
theorem wf_is2 {M' : Wm} {idx mc' ms' bk' bn' : Nat} {x1 x2 : Value} {Q' : Wq} (hd : decode M.2.1 pc = .ok (.invokestatic idx, 3)) (hT : wf_tg M' 2) (hl : Cond.methodLink M.1.cls idx M'.1 ∈ wl_ALL) (hs : Cond.static M'.1 ∈ wl_ALL) (hrm : (st.map fun v => v.category).sum ≤ 8) (hk : bk' + mc' ≤ bk) (hn : bn' + ms' ≤ bn) (hC : Ct l E n0 M' d mc' ms' [x1, x2] nx t r i g Q') (hnt : ∀ X nx t r i g, ¬ Q' (.inr X) nx t r i g) (kk : ∀ v nx t r i g, Q' (.inl v) nx t r i g → Wf l E n0 M (d + 1) mc ms Q bk' bn' (pc + 3) L (v.toList ++ st) nx t r i g) : Wf l E n0 M (d + 1) mc ms Q bk bn pc L (x2 :: x1 :: st) nx t r i g :=
  wf_is (As := [x1, x2]) hd hT hl hs hrm hk hn hC hnt kk
theorem wf_ii2 {y : MethodName} {cc : ByteArray} {nL idx b mc' ms' bk' bn' : Nat} {x1 x2 : Value} {Q' : Wq} (hd : decode M.2.1 pc = .ok (.invokespecial idx, 3)) (hT : wf_tg (y, cc, nL, none) 2) (hl : Cond.methodLink M.1.cls idx y ∈ wl_ALL) (hi : Cond.instanceMethod y ∈ wl_ALL) (hy : y.name = "<init>") (hrm : (st.map fun v => v.category).sum ≤ 8) (hk : bk' + mc' ≤ bk) (hn : bn' + ms' ≤ bn) (hC : Ct l E n0 (y, cc, nL, none) d mc' ms' [.ref b, x1, x2] nx t r i g Q') (hnt : ∀ X nx t r i g, ¬ Q' (.inr X) nx t r i g) (kk : ∀ v nx t r i g, Q' (.inl v) nx t r i g → Wf l E n0 M (d + 1) mc ms Q bk' bn' (pc + 3) L (v.toList ++ st) nx t r i g) : Wf l E n0 M (d + 1) mc ms Q bk bn pc L (x2 :: x1 :: .ref b :: st) nx t r i g :=
  wf_ii (As := [x1, x2]) hd hT hl hi hy hrm hk hn hC hnt kk
theorem wf_iv3 {M' : Wm} {idx b c mc' ms' bk' bn' : Nat} {x1 x2 x3 : Value} {Q' : Wq} (hd : decode M.2.1 pc = .ok (.invokevirtual idx, 3)) (hT : wf_tg M' 3) (hl : Cond.methodLink M.1.cls idx M'.1 ∈ wl_ALL) (hi : Cond.instanceMethod M'.1 ∈ wl_ALL) (hs : Cond.selects M'.1.cls M'.1 M'.1 ∈ wl_ALL) (hc : ∃ q : vw_C, wl_CL[c]? = some q ∧ q.1 = M'.1.cls) (hb : t b = some (.inl c)) (hrm : (st.map fun v => v.category).sum ≤ 8) (hk : bk' + mc' ≤ bk) (hn : bn' + ms' ≤ bn) (hC : Ct l E n0 M' d mc' ms' [.ref b, x1, x2, x3] nx t r i g Q') (hnt : ∀ X nx t r i g, ¬ Q' (.inr X) nx t r i g) (kk : ∀ v nx t r i g, Q' (.inl v) nx t r i g → Wf l E n0 M (d + 1) mc ms Q bk' bn' (pc + 3) L (v.toList ++ st) nx t r i g) : Wf l E n0 M (d + 1) mc ms Q bk bn pc L (x3 :: x2 :: x1 :: .ref b :: st) nx t r i g :=
  wf_iv (As := [x1, x2, x3]) hd hT hl hi hs hc hb hrm hk hn hC hnt kk
theorem wf_is3 {M' : Wm} {idx mc' ms' bk' bn' : Nat} {x1 x2 x3 : Value} {Q' : Wq} (hd : decode M.2.1 pc = .ok (.invokestatic idx, 3)) (hT : wf_tg M' 3) (hl : Cond.methodLink M.1.cls idx M'.1 ∈ wl_ALL) (hs : Cond.static M'.1 ∈ wl_ALL) (hrm : (st.map fun v => v.category).sum ≤ 8) (hk : bk' + mc' ≤ bk) (hn : bn' + ms' ≤ bn) (hC : Ct l E n0 M' d mc' ms' [x1, x2, x3] nx t r i g Q') (hnt : ∀ X nx t r i g, ¬ Q' (.inr X) nx t r i g) (kk : ∀ v nx t r i g, Q' (.inl v) nx t r i g → Wf l E n0 M (d + 1) mc ms Q bk' bn' (pc + 3) L (v.toList ++ st) nx t r i g) : Wf l E n0 M (d + 1) mc ms Q bk bn pc L (x3 :: x2 :: x1 :: st) nx t r i g :=
  wf_is (As := [x1, x2, x3]) hd hT hl hs hrm hk hn hC hnt kk
theorem wf_iv4 {M' : Wm} {idx b c mc' ms' bk' bn' : Nat} {x1 x2 x3 x4 : Value} {Q' : Wq} (hd : decode M.2.1 pc = .ok (.invokevirtual idx, 3)) (hT : wf_tg M' 4) (hl : Cond.methodLink M.1.cls idx M'.1 ∈ wl_ALL) (hi : Cond.instanceMethod M'.1 ∈ wl_ALL) (hs : Cond.selects M'.1.cls M'.1 M'.1 ∈ wl_ALL) (hc : ∃ q : vw_C, wl_CL[c]? = some q ∧ q.1 = M'.1.cls) (hb : t b = some (.inl c)) (hrm : (st.map fun v => v.category).sum ≤ 8) (hk : bk' + mc' ≤ bk) (hn : bn' + ms' ≤ bn) (hC : Ct l E n0 M' d mc' ms' [.ref b, x1, x2, x3, x4] nx t r i g Q') (hnt : ∀ X nx t r i g, ¬ Q' (.inr X) nx t r i g) (kk : ∀ v nx t r i g, Q' (.inl v) nx t r i g → Wf l E n0 M (d + 1) mc ms Q bk' bn' (pc + 3) L (v.toList ++ st) nx t r i g) : Wf l E n0 M (d + 1) mc ms Q bk bn pc L (x4 :: x3 :: x2 :: x1 :: .ref b :: st) nx t r i g :=
  wf_iv (As := [x1, x2, x3, x4]) hd hT hl hi hs hc hb hrm hk hn hC hnt kk
theorem wf_is4 {M' : Wm} {idx mc' ms' bk' bn' : Nat} {x1 x2 x3 x4 : Value} {Q' : Wq} (hd : decode M.2.1 pc = .ok (.invokestatic idx, 3)) (hT : wf_tg M' 4) (hl : Cond.methodLink M.1.cls idx M'.1 ∈ wl_ALL) (hs : Cond.static M'.1 ∈ wl_ALL) (hrm : (st.map fun v => v.category).sum ≤ 8) (hk : bk' + mc' ≤ bk) (hn : bn' + ms' ≤ bn) (hC : Ct l E n0 M' d mc' ms' [x1, x2, x3, x4] nx t r i g Q') (hnt : ∀ X nx t r i g, ¬ Q' (.inr X) nx t r i g) (kk : ∀ v nx t r i g, Q' (.inl v) nx t r i g → Wf l E n0 M (d + 1) mc ms Q bk' bn' (pc + 3) L (v.toList ++ st) nx t r i g) : Wf l E n0 M (d + 1) mc ms Q bk bn pc L (x4 :: x3 :: x2 :: x1 :: st) nx t r i g :=
  wf_is (As := [x1, x2, x3, x4]) hd hT hl hs hrm hk hn hC hnt kk
theorem wf_iv5 {M' : Wm} {idx b c mc' ms' bk' bn' : Nat} {x1 x2 x3 x4 x5 : Value} {Q' : Wq} (hd : decode M.2.1 pc = .ok (.invokevirtual idx, 3)) (hT : wf_tg M' 5) (hl : Cond.methodLink M.1.cls idx M'.1 ∈ wl_ALL) (hi : Cond.instanceMethod M'.1 ∈ wl_ALL) (hs : Cond.selects M'.1.cls M'.1 M'.1 ∈ wl_ALL) (hc : ∃ q : vw_C, wl_CL[c]? = some q ∧ q.1 = M'.1.cls) (hb : t b = some (.inl c)) (hrm : (st.map fun v => v.category).sum ≤ 8) (hk : bk' + mc' ≤ bk) (hn : bn' + ms' ≤ bn) (hC : Ct l E n0 M' d mc' ms' [.ref b, x1, x2, x3, x4, x5] nx t r i g Q') (hnt : ∀ X nx t r i g, ¬ Q' (.inr X) nx t r i g) (kk : ∀ v nx t r i g, Q' (.inl v) nx t r i g → Wf l E n0 M (d + 1) mc ms Q bk' bn' (pc + 3) L (v.toList ++ st) nx t r i g) : Wf l E n0 M (d + 1) mc ms Q bk bn pc L (x5 :: x4 :: x3 :: x2 :: x1 :: .ref b :: st) nx t r i g :=
  wf_iv (As := [x1, x2, x3, x4, x5]) hd hT hl hi hs hc hb hrm hk hn hC hnt kk
theorem wf_is5 {M' : Wm} {idx mc' ms' bk' bn' : Nat} {x1 x2 x3 x4 x5 : Value} {Q' : Wq} (hd : decode M.2.1 pc = .ok (.invokestatic idx, 3)) (hT : wf_tg M' 5) (hl : Cond.methodLink M.1.cls idx M'.1 ∈ wl_ALL) (hs : Cond.static M'.1 ∈ wl_ALL) (hrm : (st.map fun v => v.category).sum ≤ 8) (hk : bk' + mc' ≤ bk) (hn : bn' + ms' ≤ bn) (hC : Ct l E n0 M' d mc' ms' [x1, x2, x3, x4, x5] nx t r i g Q') (hnt : ∀ X nx t r i g, ¬ Q' (.inr X) nx t r i g) (kk : ∀ v nx t r i g, Q' (.inl v) nx t r i g → Wf l E n0 M (d + 1) mc ms Q bk' bn' (pc + 3) L (v.toList ++ st) nx t r i g) : Wf l E n0 M (d + 1) mc ms Q bk bn pc L (x5 :: x4 :: x3 :: x2 :: x1 :: st) nx t r i g :=
  wf_is (As := [x1, x2, x3, x4, x5]) hd hT hl hs hrm hk hn hC hnt kk
theorem wf_copy {idx src dst ns nd : Nat} {sp dp n : Int32} (hd : decode M.2.1 pc = .ok (.invokestatic idx, 3)) (hl : Cond.methodLink M.1.cls idx arraycopyName ∈ wl_ALL) (hs : t src = some (.inr (0, ns))) (ht : t dst = some (.inr (0, nd))) (a1 : ¬ sp < 0) (a2 : ¬ dp < 0) (a3 : ¬ n < 0) (a4 : sp.toNatClampNeg + n.toNatClampNeg ≤ ns) (a5 : dp.toNatClampNeg + n.toNatClampNeg ≤ nd) (hrm : (st.map fun v => v.category).sum ≤ 8)
    (kk : Wf l E n0 M (d + 1) mc ms Q bk bn (pc + 3) L st nx t r (wf_cp i src dst sp.toNatClampNeg dp.toNatClampNeg n.toNatClampNeg) g) : Wf l E n0 M (d + 1) mc ms Q bk bn pc L (.int n :: .int dp :: .ref dst :: .int sp :: .ref src :: st) nx t r i g := by
  intro p e s m args below meth cd C H locs cells slots ls h1 h2 h3 h4 h5 h6
  have nn : ∀ z : Int32, ¬ z < 0 → z.toInt = (z.toNatClampNeg : Int) := by
    intro z hz
    have hz0 : (0 : Int) ≤ z.toInt := by
      have := Int32.not_lt.mp hz
      simpa using Int32.le_iff_toInt_le.mp this
    show z.toInt = ((z.toInt.toNat : Nat) : Int)
    omega
  have hc0 : H[src]? = some (arrV (E.2.2 0) ns (fun j => .int (i src j))) := ((h3.2.2.1 src).a hs (by decide)).2
  have hc1 : H[dst]? = some (arrV (E.2.2 0) nd (fun j => .int (i dst j))) := ((h3.2.2.1 dst).a ht (by decide)).2
  have hA := (C.2.2.2.2.2.2.2.2.1.2.1 0 (by decide)).1
  have hn0 := wf_own h3 ht (by decide)
  intro T hT X
  obtain ⟨-, k0, hk0, cm0, hkk0⟩ := hA ns (fun j => .int (i src j))
  obtain ⟨-, k1, hk1, cm1, hkk1⟩ := hA nd (fun j => .int (i dst j))
  obtain ⟨vm', X', step⟩ := X.arraycopy C.1 C.2.2.2.2.1 (C.2.2.2.2.2.1 _ hl) (C.2.2.2.2.2.1 _ na_copy) (C.2.2.2.2.2.1 _ sm_copy) (C.2.2.2.2.2.1 _ in_Sys) (src := src) (dst := dst) (srcPos := sp) (destPos := dp) (n := n) (by rw [hT]; exact hc0) (by rw [hT]; exact hc1)
    (fun _ h => by cases h) (fun _ h => by cases h) (fun h => by cases h) (fun h => by cases h) hk0 hk1 hkk0 hkk1 (by decide) a1 a2 a3
    (by rw [nn sp a1, nn n a3, arrV_size]; omega) (by rw [nn dp a2, nn n a3, arrV_size]; omega)
    (fun vm₁ _ j hj => by
      have e : (arrV (E.2.2 0) ns (fun j => Value.int (i src j))).slots.getD (sp.toNatClampNeg + j) .null = .int (i src (sp.toNatClampNeg + j)) := by
        rw [Array.getD_eq_getD_getElem?, arrV_read _ _ (by omega)]
        rfl
      refine ⟨?_, ?_⟩
      · rw [e]
        rfl
      · rw [e]
        exact trivial)
    (g := F0 m pc ls (.int n :: .int dp :: .ref dst :: .int sp :: .ref src :: st)) rfl (h6.1.trans C.2.2.1.symm) (rest := st) rfl (by rw [C.2.1]; exact hd) (show 1 ≤ d + 1 by omega) (by show 2 * 0 + _ + (7 + 11) ≤ 40 * (d + 1); omega)
  have e1 : copied (arrV (E.2.2 0) ns (fun j => .int (i src j))) (arrV (E.2.2 0) nd (fun j => .int (i dst j))) sp dp n = arrV (E.2.2 0) nd (fun j => .int (va_cpy (i src) (i dst) sp.toNatClampNeg dp.toNatClampNeg n.toNatClampNeg j)) := va_copied (fun z => .int z) _ _ (i src) (i dst) a4
  rw [e1] at X' step
  have hlt : dst < H.size := (Array.getElem?_eq_some_iff.mp hc1).1
  have hheap : ((T.setVm vm').setCell dst (arrV (E.2.2 0) nd (fun j => .int (va_cpy (i src) (i dst) sp.toNatClampNeg dp.toNatClampNeg n.toNatClampNeg j)))).heap = H.setIfInBounds dst (arrV (E.2.2 0) nd (fun j => .int (va_cpy (i src) (i dst) sp.toNatClampNeg dp.toNatClampNeg n.toNatClampNeg j))) := by rw [← hT]; rfl
  have oq : ∀ q : Nat, q ≠ dst → (H.setIfInBounds dst (arrV (E.2.2 0) nd (fun j => .int (va_cpy (i src) (i dst) sp.toNatClampNeg dp.toNatClampNeg n.toNatClampNeg j))))[q]? = H[q]? := fun q hq => by simp [Array.getElem?_setIfInBounds, Ne.symm hq]
  have hR : wf_R E n0 nx t r (wf_cp i src dst sp.toNatClampNeg dp.toNatClampNeg n.toNatClampNeg) g (H.setIfInBounds dst (arrV (E.2.2 0) nd (fun j => .int (va_cpy (i src) (i dst) sp.toNatClampNeg dp.toNatClampNeg n.toNatClampNeg j)))) := by
    refine h3.put (by simp) oq ht (wf_A.ia (by decide) ht ⟨by decide, ?_⟩) (fun b hb k => ⟨rfl, wf_cp_a hb, rfl⟩)
    simp only [Array.getElem?_setIfInBounds, hlt]
    simp only [if_true]
    congr 2
    funext k
    show Value.int _ = Value.int _
    congr 1
    by_cases hk : dp.toNatClampNeg ≤ k ∧ k < dp.toNatClampNeg + n.toNatClampNeg
    · rw [wf_cp_in hk.1 hk.2]
      exact if_pos hk
    · rw [wf_cp_k hk]
      exact if_neg hk
  obtain ⟨u, b1, b2⟩ := kk p e s m args below meth cd C _ _ cells slots ls h1 h2 hR (fun q hq => (oq q (Nat.ne_of_lt (Nat.lt_of_lt_of_le hq hn0))).trans (h4 q hq)) (fun q hq => by
      rcases List.mem_append.mp hq with h | h
      · exact h5 q h
      · obtain ⟨z, -, hz⟩ := List.mem_map.mp h
        rw [← hz]
        exact hn0) h6 _ hheap X'
  exact ⟨u, step u b1, b2⟩
end WfCalls
