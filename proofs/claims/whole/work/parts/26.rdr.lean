/-! class Reader: the small methods. V: 0 kinds, 1 lefts, 2 rights, 3 empties, 4 firsts, 5 lasts, 6 the expression being made, 7 its takers, 8 followers, 9 firsts, 10 lasts, 11 matchesEmpty, 12 the source's row, 13 its array -/
abbrev RdN : Type := List (Nat × Nat × Nat)
abbrev RdA : Type := List (Nat → Bool)
def rd_n (N : RdN) (k : Nat) : Nat × Nat × Nat := N.getD k (0, 0, 0)
def rd_a (A : RdA) (k : Nat) : Nat → Bool := A.getD k (fun _ => false)
def rd_at (t : Wt) (r : Wr) (a : Nat) (V : Nat → Nat) (n : Nat) : Prop := t a = some (.inl 4) ∧ (∀ k, k < 9 → k ≠ 6 → k ≠ 7 → k ≠ 8 → r a k = some (V k)) ∧ r a 7 = some (V 6) ∧ r a 8 = some (V 12) ∧ (∀ k, k < 3 → t (V k) = some (.inr (0, 121))) ∧ t (V 3) = some (.inr (1, 121)) ∧ t (V 4) = some (.inr (2, 121)) ∧ t (V 5) = some (.inr (2, 121)) ∧ ex_at t r (V 6) (V 7) (V 8) (V 9) (V 10) (V 11) ∧ rw_at t r (V 12) (V 13) n ∧ n = 120 ∧ V 0 ≠ V 1 ∧ V 0 ≠ V 2 ∧ V 1 ≠ V 2 ∧ V 4 ≠ V 5 ∧ V 9 ≠ V 10
/-- source S, at place p, fault fa, nodes N, atoms A -/
def rd_is (i : Wi) (g : Wl) (a : Nat) (V : Nat → Nat) (S : List Int32) (p : Nat) (fa : Option Nat) (N : RdN) (A : RdA) : Prop := rw_is i (V 12) (V 13) S ∧ S.length ≤ 60 ∧ (i a 9 = nI p ∧ p ≤ S.length) ∧ (i a 10 = oI fa ∧ ∀ f, fa = some f → f ≤ S.length) ∧ (i a 6 = nI N.length ∧ N.length ≤ 121) ∧ (∀ k, k < N.length → i (V 0) k = nI (rd_n N k).1 ∧ i (V 1) k = nI (rd_n N k).2.1 ∧ i (V 2) k = nI (rd_n N k).2.2) ∧ (i (V 6) 5 = nI A.length ∧ A.length ≤ p) ∧ ∀ x, x < 256 → ∀ k, lb (g (V 7) x) k = true ↔ k < A.length ∧ rd_a A k x = true
def rd_fp (a : Nat) (V : Nat → Nat) : List Nat := [a, V 0, V 1, V 2, V 6]
/-- what a reading method leaves: its cells alone change -/
abbrev rd_q (nx : Nat) (t : Wt) (r : Wr) (i : Wi) (g : Wl) (a : Nat) (V : Nat → Nat) (post : Int32 → Wi → Wl → Prop) : Wq := qIl nx t r (fun z i' g' => post z i' g' ∧ fr_is (rd_fp a V) i i' ∧ fr_is [V 7] g g')
section
variable {l : Launch} {E : We} {n0 d nx : Nat} {t : Wt} {r : Wr} {i : Wi} {g : Wl}
theorem rd_ne {a n : Nat} {V : Nat → Nat} (h : rd_at t r a V n) : (∀ k, k < 3 → a ≠ V k ∧ V 6 ≠ V k ∧ V 12 ≠ V k ∧ V 13 ≠ V k) ∧ a ≠ V 6 ∧ V 12 ≠ a ∧ V 12 ≠ V 6 ∧ V 13 ≠ a ∧ V 13 ≠ V 6 := by
  obtain ⟨h1, -, -, -, h5, -, -, -, ⟨e1, -⟩, ⟨w1, -, w3, -⟩, rfl, -⟩ := h
  have ne : ∀ {x y : Nat} {u v : Nat ⊕ (Nat × Nat)}, t x = some u → t y = some v → u ≠ v → x ≠ y := fun hx hy hn q => by
    rw [q, hy] at hx
    exact hn (Option.some.inj hx).symm
  refine ⟨fun k hk => ⟨ne h1 (h5 k hk) (by intro q; cases q), ne e1 (h5 k hk) (by intro q; cases q), ne w1 (h5 k hk) (by intro q; cases q), ne w3 (h5 k hk) (by intro q; cases q)⟩, ne h1 e1 (by intro q; cases q), ne w1 h1 (by intro q; cases q), ne w1 e1 (by intro q; cases q), ne w3 h1 (by intro q; cases q), ne w3 e1 (by intro q; cases q)⟩
/-- the sign at place p; 0 at the end -/
def nx_of (S : List Int32) (p : Nat) : Int32 := S.getD p 0
theorem c_Rdr_next {a n p : Nat} {V : Nat → Nat} {S : List Int32} {fa : Option Nat} {N : RdN} {A : RdA} (hA : rd_at t r a V n) (hI : rd_is i g a V S p fa N A) : Ct l E n0 mt_Rdr_next d 0 0 [.ref a] nx t r i g (qI nx t r g (fun z i' => z = nx_of S p ∧ i' = i)) := by
  obtain ⟨ha, -, -, r8, -, -, -, -, -, ⟨tb, rb, ts, -⟩, hn, -⟩ := hA
  obtain ⟨⟨w1, w2⟩, hS, ⟨h9, hp⟩, -⟩ := hI
  refine Ct.of (by decide) (Nat.le_of_ble_eq_true rfl) ?_
  refine wf_aload_n dc_Rdr_next_0 rfl ?_
  refine wf_geti dc_Rdr_next_1 fl_Rdr_48 rfl (by assumption) ?_
  refine wf_aload_n dc_Rdr_next_4 rfl ?_
  refine wf_getr dc_Rdr_next_5 fl_Rdr_44 rfl (by assumption) (by assumption) ?_
  refine wf_geti dc_Rdr_next_8 fl_Rdr_65 rfl (by assumption) ?_
  rw [h9, w1]
  refine wf_icmp_ge 29 dc_Rdr_next_11 (by decide) (fun hc => ?_) (fun hc => ?_)
  · have h0 := (nI_leI (by omega) (by omega)).mp hc
    refine wf_iconst 0 dc_Rdr_next_29 (by decide) ?_
    refine wf_ireturn rfl dc_Rdr_next_30 ⟨_, rfl, rfl, rfl, rfl, rfl, ?_, rfl⟩
    rw [nx_of, List.getD_eq_getElem?_getD, List.getElem?_eq_none h0]
    rfl
  · have h0 : p < S.length := Nat.not_le.mp fun z => hc ((nI_leI (by omega) (by omega)).mpr z)
    refine wf_aload_n dc_Rdr_next_14 rfl ?_
    refine wf_getr dc_Rdr_next_15 fl_Rdr_44 rfl (by assumption) (by assumption) ?_
    refine wf_getr dc_Rdr_next_18 fl_Rdr_139 rfl (by assumption) (by assumption) ?_
    refine wf_aload_n dc_Rdr_next_21 rfl ?_
    refine wf_geti dc_Rdr_next_22 fl_Rdr_48 rfl (by assumption) ?_
    rw [h9]
    refine wf_iaload (y := 0) dc_Rdr_next_25 rfl (by assumption) (vp_in_nI (by omega) (by omega)) ?_
    refine wf_goto 30 dc_Rdr_next_26 (by decide) ?_
    rw [nI_clamp (by omega), w2 p h0]
    exact wf_ireturn rfl dc_Rdr_next_30 ⟨_, rfl, rfl, rfl, rfl, rfl, rfl, rfl⟩
def fa_or (fa : Option Nat) (p : Nat) : Option Nat := match fa with
  | none => some p
  | some f => some f
theorem c_Rdr_refuse {a n p : Nat} {V : Nat → Nat} {S : List Int32} {fa : Option Nat} {N : RdN} {A : RdA} (hA : rd_at t r a V n) (hI : rd_is i g a V S p fa N A) : Ct l E n0 mt_Rdr_refuse d 0 0 [.ref a] nx t r i g (rd_q nx t r i g a V (fun z i' g' => z = 0 ∧ rd_is i' g' a V S S.length (fa_or fa p) N A)) := by
  obtain ⟨n1, n2, n3, n4, n5, n6⟩ := rd_ne hA
  obtain ⟨ha, -, -, r8, -, -, -, -, -, ⟨tb, rb, ts, -⟩, hn, -⟩ := hA
  obtain ⟨⟨w1, w2⟩, hS, ⟨h9, hp⟩, ⟨h10, hfa⟩, ⟨h6, h6'⟩, hN, ⟨h5, h5'⟩, hT⟩ := hI
  refine Ct.of (by decide) (Nat.le_of_ble_eq_true rfl) ?_
  have fin : ∀ (i1 : Wi), fr_is [a] i i1 → (∀ k, k ≠ 9 → k ≠ 10 → i1 a k = i a k) → i1 a 10 = oI (fa_or fa p) → Wf l E n0 mt_Rdr_refuse d 0 0 (rd_q nx t r i g a V (fun z i' g' => z = 0 ∧ rd_is i' g' a V S S.length (fa_or fa p) N A)) 0 0 16 [(0, .ref a)] [] nx t r i1 g := by
    intro i1 hf hk h10'
    have w1' : i1 (V 12) 1 = nI S.length := (hf _ (by simp [n3]) 1).trans w1
    refine wf_aload_n dc_Rdr_refuse_16 rfl ?_
    refine wf_aload_n dc_Rdr_refuse_17 rfl ?_
    refine wf_getr dc_Rdr_refuse_18 fl_Rdr_44 rfl (by assumption) (by assumption) ?_
    refine wf_geti dc_Rdr_refuse_21 fl_Rdr_65 rfl (by assumption) ?_
    rw [w1']
    refine wf_puti dc_Rdr_refuse_24 fl_Rdr_48 (Or.inl nf_Rdr_9) rfl rfl rfl (by assumption) ?_
    refine wf_iconst 0 dc_Rdr_refuse_27 (by decide) ?_
    have hf2 : fr_is [a] i (wf_up i1 a 9 (nI S.length)) := fr_up hf (by simp)
    have hk2 : ∀ k, k ≠ 9 → wf_up i1 a 9 (nI S.length) a k = i1 a k := fun k hk => wf_up_k hk
    refine wf_ireturn rfl dc_Rdr_refuse_28 ⟨_, rfl, rfl, rfl, rfl, ⟨rfl, ⟨(hf2 _ (by simp [n3]) 1).trans w1, fun j hj => (hf2 _ (by simp [n5]) j).trans (w2 j hj)⟩, hS, ⟨wf_up_s, Nat.le_refl _⟩, ⟨(hk2 10 (by decide)).trans h10', ?_⟩, ⟨(hk2 6 (by decide)).trans ((hk 6 (by decide) (by decide)).trans h6), h6'⟩, fun k hk => ?_, ⟨(hf2 _ (by simp [n2.symm]) 5).trans h5, by omega⟩, hT⟩, fr_mo hf2 (by simp [rd_fp]), fr_rf⟩
    · intro f hf
      cases fa with
      | none => cases hf; exact hp
      | some f' => exact hfa f hf
    · rw [hf2 _ (by simp [(n1 0 (by omega)).1.symm]), hf2 _ (by simp [(n1 1 (by omega)).1.symm]), hf2 _ (by simp [(n1 2 (by omega)).1.symm])]
      exact hN k hk
  refine wf_aload_n dc_Rdr_refuse_0 rfl ?_
  refine wf_geti dc_Rdr_refuse_1 fl_Rdr_52 rfl (by assumption) ?_
  refine wf_iconst (-1) dc_Rdr_refuse_4 (by decide) ?_
  rw [h10]
  cases fa with
  | none =>
    refine wf_icmp_ne 16 dc_Rdr_refuse_5 (by decide) (fun hc => absurd rfl hc) (fun hc => ?_)
    refine wf_aload_n dc_Rdr_refuse_8 rfl ?_
    refine wf_aload_n dc_Rdr_refuse_9 rfl ?_
    refine wf_geti dc_Rdr_refuse_10 fl_Rdr_48 rfl (by assumption) ?_
    rw [h9]
    refine wf_puti dc_Rdr_refuse_13 fl_Rdr_52 (Or.inl nf_Rdr_10) rfl rfl rfl (by assumption) ?_
    exact Wf.to (by exact ⟨rfl, trivial⟩) (fin _ (fr_up fr_rf (by simp)) (fun k _ h => wf_up_k h) wf_up_s)
  | some f =>
    have := hfa f rfl
    refine wf_icmp_ne 16 dc_Rdr_refuse_5 (by decide) (fun hc => ?_) (fun hc => absurd hc.symm (mx_m1 (by omega)))
    exact Wf.to (by exact ⟨rfl, trivial⟩) (fin i fr_rf (fun _ _ _ => rfl) h10)
theorem rn_l {N M : RdN} {k : Nat} (h : k < N.length) : rd_n (N ++ M) k = rd_n N k := by
  unfold rd_n
  rw [List.getD_eq_getElem?_getD, List.getD_eq_getElem?_getD, List.getElem?_append_left h]
theorem rn_s {N : RdN} {q : Nat × Nat × Nat} : rd_n (N ++ [q]) N.length = q := by
  unfold rd_n
  rw [List.getD_eq_getElem?_getD, List.getElem?_append_right (Nat.le_refl _), Nat.sub_self]
  rfl
theorem ra_l {N M : RdA} {k : Nat} (h : k < N.length) : rd_a (N ++ M) k = rd_a N k := by
  unfold rd_a
  rw [List.getD_eq_getElem?_getD, List.getD_eq_getElem?_getD, List.getElem?_append_left h]
theorem ra_s {N : RdA} {q : Nat → Bool} : rd_a (N ++ [q]) N.length = q := by
  unfold rd_a
  rw [List.getD_eq_getElem?_getD, List.getElem?_append_right (Nat.le_refl _), Nat.sub_self]
  rfl
theorem c_Rdr_node {a n p k x y : Nat} {V : Nat → Nat} {S : List Int32} {fa : Option Nat} {N : RdN} {A : RdA} (hA : rd_at t r a V n) (hI : rd_is i g a V S p fa N A) : Ct l E n0 mt_Rdr_node (d + 1) 0 0 [.ref a, .int (nI k), .int (nI x), .int (nI y)] nx t r i g (rd_q nx t r i g a V (fun z i' g' => (N.length < 121 → z = nI N.length ∧ rd_is i' g' a V S p fa (N ++ [(k, x, y)]) A) ∧ (¬ N.length < 121 → z = 0 ∧ rd_is i' g' a V S S.length (fa_or fa p) N A))) := by
  have hA' := hA
  have hI' := hI
  obtain ⟨n1, n2, n3, n4, n5, n6⟩ := rd_ne hA
  obtain ⟨ha, hr, -, r8, hT3, -, -, -, -, ⟨tb, rb, ts, -⟩, hn, v01, v02, v12, -⟩ := hA
  obtain ⟨⟨w1, w2⟩, hS, ⟨h9, hp⟩, ⟨h10, hfa⟩, ⟨h6, h6'⟩, hN, ⟨h5, h5'⟩, hT⟩ := hI
  have r0 := hr 0 (by omega) (by omega) (by omega) (by omega)
  have r1 := hr 1 (by omega) (by omega) (by omega) (by omega)
  have r2 := hr 2 (by omega) (by omega) (by omega) (by omega)
  have t0 := hT3 0 (by omega)
  have t1 := hT3 1 (by omega)
  have t2 := hT3 2 (by omega)
  refine Ct.of (by decide) (Nat.le_of_ble_eq_true rfl) ?_
  refine wf_aload_n dc_Rdr_node_0 rfl ?_
  refine wf_geti dc_Rdr_node_1 fl_Rdr_55 rfl (by assumption) ?_
  rw [h6]
  refine wf_bipush 121 dc_Rdr_node_4 (by decide) ?_
  refine wf_icmp_ne 14 dc_Rdr_node_6 (by decide) (fun hc => ?_) (fun hc => ?_)
  · have hlt : N.length < 121 := Nat.lt_of_le_of_ne h6' (fun z => hc (by rw [z]; rfl))
    have hcl : (nI N.length).toNatClampNeg = N.length := nI_clamp (by omega)
    refine wf_aload_n dc_Rdr_node_14 rfl ?_
    refine wf_getr dc_Rdr_node_15 fl_Rdr_11 rfl (by assumption) (by assumption) ?_
    refine wf_aload_n dc_Rdr_node_18 rfl ?_
    refine wf_geti dc_Rdr_node_19 fl_Rdr_55 rfl (by assumption) ?_
    rw [h6]
    refine wf_iload_n dc_Rdr_node_22 rfl ?_
    refine wf_iastore (y := 0) dc_Rdr_node_23 rfl (by decide) (by assumption) (vp_in_nI hlt (by omega)) ?_
    rw [hcl]
    refine wf_aload_n dc_Rdr_node_24 rfl ?_
    refine wf_getr dc_Rdr_node_25 fl_Rdr_15 rfl (by assumption) (by assumption) ?_
    refine wf_aload_n dc_Rdr_node_28 rfl ?_
    refine wf_geti dc_Rdr_node_29 fl_Rdr_55 rfl (by assumption) ?_
    rw [wf_up_a (n1 0 (by omega)).1, h6]
    refine wf_iload_n dc_Rdr_node_32 rfl ?_
    refine wf_iastore (y := 0) dc_Rdr_node_33 rfl (by decide) (by assumption) (vp_in_nI hlt (by omega)) ?_
    rw [hcl]
    refine wf_aload_n dc_Rdr_node_34 rfl ?_
    refine wf_getr dc_Rdr_node_35 fl_Rdr_18 rfl (by assumption) (by assumption) ?_
    refine wf_aload_n dc_Rdr_node_38 rfl ?_
    refine wf_geti dc_Rdr_node_39 fl_Rdr_55 rfl (by assumption) ?_
    rw [wf_up_a (n1 1 (by omega)).1, wf_up_a (n1 0 (by omega)).1, h6]
    refine wf_iload_n dc_Rdr_node_42 rfl ?_
    refine wf_iastore (y := 0) dc_Rdr_node_43 rfl (by decide) (by assumption) (vp_in_nI hlt (by omega)) ?_
    rw [hcl]
    refine wf_aload_n dc_Rdr_node_44 rfl ?_
    refine wf_dup dc_Rdr_node_45 rfl ?_
    refine wf_geti dc_Rdr_node_46 fl_Rdr_55 rfl (by assumption) ?_
    refine wf_iconst 1 dc_Rdr_node_49 (by decide) ?_
    refine wf_iadd dc_Rdr_node_50 ?_
    rw [wf_up_a (n1 2 (by omega)).1, wf_up_a (n1 1 (by omega)).1, wf_up_a (n1 0 (by omega)).1, h6, nI_1]
    refine wf_puti dc_Rdr_node_51 fl_Rdr_55 (Or.inl nf_Rdr_6) rfl rfl rfl (by assumption) ?_
    refine wf_aload_n dc_Rdr_node_54 rfl ?_
    refine wf_geti dc_Rdr_node_55 fl_Rdr_55 rfl (by assumption) ?_
    rw [wf_up_s]
    refine wf_iconst 1 dc_Rdr_node_58 (by decide) ?_
    refine wf_isub dc_Rdr_node_59 ?_
    rw [nI_pred]
    have hf : fr_is (rd_fp a V) i (wf_up (wf_up (wf_up (wf_up i (V 0) N.length (nI k)) (V 1) N.length (nI x)) (V 2) N.length (nI y)) a 6 (nI (N.length + 1))) := fr_up (fr_up (fr_up (fr_up fr_rf (by simp [rd_fp])) (by simp [rd_fp])) (by simp [rd_fp])) (by simp [rd_fp])
    have hak : ∀ q, q ≠ 6 → wf_up (wf_up (wf_up (wf_up i (V 0) N.length (nI k)) (V 1) N.length (nI x)) (V 2) N.length (nI y)) a 6 (nI (N.length + 1)) a q = i a q := fun q hq => by
      rw [wf_up_k hq, wf_up_a (n1 2 (by omega)).1, wf_up_a (n1 1 (by omega)).1, wf_up_a (n1 0 (by omega)).1]
    have ho : ∀ z, z ≠ a → z ≠ V 0 → z ≠ V 1 → z ≠ V 2 → ∀ q, wf_up (wf_up (wf_up (wf_up i (V 0) N.length (nI k)) (V 1) N.length (nI x)) (V 2) N.length (nI y)) a 6 (nI (N.length + 1)) z q = i z q := fun z z1 z2 z3 z4 q => by
      rw [wf_up_a z1, wf_up_a z4, wf_up_a z3, wf_up_a z2]
    have o12 := ho (V 12) n3 (n1 0 (by omega)).2.2.1 (n1 1 (by omega)).2.2.1 (n1 2 (by omega)).2.2.1
    have o13 := ho (V 13) n5 (n1 0 (by omega)).2.2.2 (n1 1 (by omega)).2.2.2 (n1 2 (by omega)).2.2.2
    have o6 := ho (V 6) n2.symm (n1 0 (by omega)).2.1 (n1 1 (by omega)).2.1 (n1 2 (by omega)).2.1
    have hlen : (N ++ [(k, x, y)]).length = N.length + 1 := by rw [List.length_append]; rfl
    refine wf_ireturn rfl dc_Rdr_node_60 ⟨_, rfl, rfl, rfl, rfl, ⟨fun _ => ⟨rfl, ⟨(o12 1).trans w1, fun j hj => (o13 j).trans (w2 j hj)⟩, hS, ⟨(hak 9 (by decide)).trans h9, hp⟩, ⟨(hak 10 (by decide)).trans h10, hfa⟩, ⟨by rw [wf_up_s, hlen], by omega⟩, fun q hq => ?_, ⟨(o6 5).trans h5, h5'⟩, hT⟩, fun z => absurd hlt z⟩, hf, fr_rf⟩
    rw [hlen] at hq
    rw [wf_up_a (n1 0 (by omega)).1.symm, wf_up_a (n1 1 (by omega)).1.symm, wf_up_a (n1 2 (by omega)).1.symm, wf_up_a v02, wf_up_a v01, wf_up_a v12]
    by_cases hq2 : q = N.length
    · subst hq2
      rw [rn_s, wf_up_s, wf_up_s, wf_up_s]
      exact ⟨rfl, rfl, rfl⟩
    · rw [rn_l (by omega), wf_up_k hq2, wf_up_k hq2, wf_up_a v01.symm, wf_up_k hq2, wf_up_a v12.symm, wf_up_a v02.symm]
      exact hN q (by omega)
  · have hge : ¬ N.length < 121 := by
      have := (nI_eq (a := N.length) (b := 121) (by omega) (by omega)).mp hc
      omega
    refine wf_aload_n dc_Rdr_node_9 rfl ?_
    refine wf_iv0 (M' := mt_Rdr_refuse) (c := 4) dc_Rdr_node_10 tg_Rdr_refuse ml_Rdr_68 im_Rdr_refuse se_Rdr_refuse ⟨_, rfl, rfl⟩ (by assumption) (Nat.le_of_ble_eq_true rfl) (Nat.le_refl _) (Nat.le_refl _) (c_Rdr_refuse hA' hI') qIl_nt (qIl_go (fun x2 i2 g2 hp => ?_))
    obtain ⟨⟨rfl, hI2⟩, hf1, hf2⟩ := hp
    exact wf_ireturn rfl dc_Rdr_node_13 ⟨_, rfl, rfl, rfl, rfl, ⟨fun z => absurd z hge, fun _ => ⟨rfl, hI2⟩⟩, hf1, hf2⟩
end
