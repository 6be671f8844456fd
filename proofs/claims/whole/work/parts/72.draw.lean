/-! the reference's drawing, a sign at a time; it draws what the parser reads -/
def up1 (f : Nat → Nat) (k v : Nat) : Nat → Nat := fun j => if j = k then v else f j
/-- points, edges, begins, closes, outers, depth, where it stands, the piece, the place -/
abbrev DrS : Type := Nat × List Ed × (Nat → Nat) × (Nat → Nat) × (Nat → Nat) × Nat × Nat × Option Nat × Nat
def dr_kd (c : Int32) : Nat := if c = 94 then 1 else if c = 36 then 2 else 3
def dr_st (S : List Int32) (P : Nat) (E : List Ed) (bg cl ou : Nat → Nat) (dp a : Nat) (pc : Option Nat) (pl : Nat) : Nat ⊕ DrS :=
    if ps_rp (nx_of S pl) = true then (match pc with
      | none => .inl pl
      | some p => .inr (P, E ++ ((if nx_of S pl = 43 then [] else [(p, a, 0, 0)]) ++ (if nx_of S pl = 63 then [] else [(a, p, 0, 0)])), bg, cl, ou, dp, a, some p, pl + 1))
    else if nx_of S pl = 124 then .inr (P + 1, E ++ [(a, cl dp, 0, 0), (bg dp, P, 0, 0)], bg, cl, ou, dp, P, none, pl + 1)
    else if nx_of S pl = 40 then (if dp = 10 then .inl pl else .inr (P + 4, E ++ [(a, P, 0, 0), (P, P + 1, 0, 0), (P + 1, P + 3, 0, 0)], up1 bg (dp + 1) (P + 1), up1 cl (dp + 1) (P + 2), up1 ou (dp + 1) P, dp + 1, P + 3, none, pl + 1))
    else if nx_of S pl = 41 then (if dp = 0 then .inl pl else .inr (P + 1, E ++ [(a, cl dp, 0, 0), (cl dp, P, 0, 0)], bg, cl, ou, dp - 1, P, some (ou dp), pl + 1))
    else if nx_of S pl = 93 then .inl pl
    else if nx_of S pl = 92 then (if pl + 1 < S.length then .inr (P + 2, E ++ [(a, P, 0, 0), (P, P + 1, 3, pl)], bg, cl, ou, dp, P + 1, some P, pl + 2) else .inl S.length)
    else if nx_of S pl = 91 then (match ps_set S (pl + 1) with
      | .inl e => .inl e
      | .inr (q, _) => .inr (P + 2, E ++ [(a, P, 0, 0), (P, P + 1, 3, pl)], bg, cl, ou, dp, P + 1, some P, q))
    else .inr (P + 2, E ++ [(a, P, 0, 0), (P, P + 1, dr_kd (nx_of S pl), pl)], bg, cl, ou, dp, P + 1, some P, pl + 1)
def dr_step (S : List Int32) (u : DrS) : Nat ⊕ DrS := dr_st S u.1 u.2.1 u.2.2.1 u.2.2.2.1 u.2.2.2.2.1 u.2.2.2.2.2.1 u.2.2.2.2.2.2.1 u.2.2.2.2.2.2.2.1 u.2.2.2.2.2.2.2.2
def dr_pl (u : DrS) : Nat := u.2.2.2.2.2.2.2.2
def dr_dp (u : DrS) : Nat := u.2.2.2.2.2.1
def dn (S : List Int32) : Nat → DrS → DrS → Prop
  | 0, u, v => u = v
  | n + 1, u, v => dr_pl u < S.length ∧ ∃ u1, dr_step S u = .inr u1 ∧ dn S n u1 v
/-- the drawing comes from u to v -/
def dl (S : List Int32) (u v : DrS) : Prop := ∃ n, dn S n u v
/-- the drawing comes from u to a fault at e -/
def df (S : List Int32) (u : DrS) (e : Nat) : Prop := ∃ v, dl S u v ∧ (dr_pl v < S.length ∧ dr_step S v = .inl e ∨ ¬ dr_pl v < S.length ∧ 0 < dr_dp v ∧ e = S.length)
/-- the signs that the atom at place p takes -/
def at_m (S : List Int32) (p : Nat) : Nat → Bool := if nx_of S p = 46 then ps_rg ps_no 1 255 else if nx_of S p = 92 then ps_rg ps_no (nxN S (p + 1)) (nxN S (p + 1)) else if nx_of S p = 91 then (match ps_set S (p + 1) with
  | .inl _ => ps_no
  | .inr (_, m) => m) else ps_rg ps_no (nxN S p) (nxN S p)
def pfx (N : RdN) (A : RdA) (Nf : RdN) (Af : RdA) : Prop := nd_ok Nf Af.length ∧ (∃ M, Nf = N ++ M) ∧ ∃ B, Af = A ++ B
/-- the ways from a to b mean node w -/
def mns (S : List Int32) (N : RdN) (A : RdA) (E : List Ed) (a b w : Nat) : Prop := ∀ Nf Af, pfx N A Nf Af → ∀ v s e, gR (at_m S) E v a s b e ↔ nr Af Nf w v s e
def ag (d : Nat) (f f' : Nat → Nat) : Prop := ∀ j, j ≤ d → f' j = f j
section
variable {S : List Int32} {N N' Nf : RdN} {A A' Af : RdA} {u v x : DrS} {e : Nat}
theorem dl_rf : dl S u u := ⟨0, rfl⟩
theorem dn_tr (n : Nat) : ∀ u, dn S n u v → dl S v x → dl S u x := by
  induction n with
  | zero => intro u h z; cases h; exact z
  | succ n ih =>
    rintro u ⟨h1, u1, h2, h3⟩ z
    obtain ⟨k, hk⟩ := ih u1 h3 z
    exact ⟨k + 1, h1, u1, h2, hk⟩
theorem dl_tr (h : dl S u v) (h' : dl S v x) : dl S u x := by
  obtain ⟨n, h⟩ := h
  exact dn_tr n u h h'
theorem dl_1 (h : dr_pl u < S.length) (h' : dr_step S u = .inr v) : dl S u v := ⟨1, h, v, h', rfl⟩
theorem df_tr (h : dl S u v) (h' : df S v e) : df S u e := by
  obtain ⟨x, h1, h2⟩ := h'
  exact ⟨x, dl_tr h h1, h2⟩
theorem df_1 (h : dr_pl u < S.length) (h' : dr_step S u = .inl e) : df S u e := ⟨u, dl_rf, Or.inl ⟨h, h'⟩⟩
theorem ag_rf {d : Nat} {f : Nat → Nat} : ag d f f := fun _ _ => rfl
theorem ag_tr {d : Nat} {f f' f'' : Nat → Nat} (h : ag d f f') (h' : ag d f' f'') : ag d f f'' := fun j hj => (h' j hj).trans (h j hj)
theorem ag_le {d d' : Nat} {f f' : Nat → Nat} (h : ag d f f') (hd : d' ≤ d) : ag d' f f' := fun j hj => h j (by omega)
theorem ag_up {d : Nat} {f : Nat → Nat} {y : Nat} : ag d f (up1 f (d + 1) y) := fun j hj => if_neg (by omega)
theorem up1_s {f : Nat → Nat} {k y : Nat} : up1 f k y k = y := if_pos rfl
theorem pfx.pre (h : pfx N' A' Nf Af) (hN : ∃ M, N' = N ++ M) (hA : ∃ B, A' = A ++ B) : pfx N A Nf Af := by
  obtain ⟨h1, ⟨M1, rfl⟩, ⟨B1, rfl⟩⟩ := h
  obtain ⟨M, rfl⟩ := hN
  obtain ⟨B, rfl⟩ := hA
  exact ⟨h1, ⟨M ++ M1, by rw [List.append_assoc]⟩, ⟨B ++ B1, by rw [List.append_assoc]⟩⟩
theorem pfx.at (h : pfx N A Nf Af) {k : Nat} (hk : k < N.length) : nr Af Nf k = nr_st Af (nr Af Nf) (rd_n N k) := by
  obtain ⟨h1, ⟨M1, rfl⟩, ⟨B1, rfl⟩⟩ := h
  rw [nr_eq h1 (by rw [List.length_append]; omega), rn_l hk]
theorem mns.ext {E : List Ed} {a b w : Nat} (h : mns S N A E a b w) (hN : ∃ M, N' = N ++ M) (hA : ∃ B, A' = A ++ B) : mns S N' A' E a b w := fun Nf Af hp => h Nf Af (hp.pre hN hA)
theorem g_one {M : Nat → Nat → Bool} {w : List Int32} {P s e k p : Nat} : gR M [(P, P + 1, k, p)] w P s (P + 1) e ↔ ed_ok M w s e k p := by
  constructor
  · rintro ⟨n, h⟩
    cases n with
    | zero => exact absurd h.1 (by omega)
    | succ n =>
      obtain ⟨c, m, ⟨q, q1, q2, rfl, q4⟩, z⟩ := h
      rw [List.mem_singleton] at q1
      subst q1
      cases n with
      | zero => obtain ⟨-, rfl⟩ := z; exact q4
      | succ n =>
        obtain ⟨c', m', ⟨q', q1', q2', -⟩, -⟩ := z
        rw [List.mem_singleton] at q1'
        subst q1'
        exact absurd q2' (by simp only; omega)
  · intro h
    exact gR_ed (q := (P, P + 1, k, p)) (List.mem_singleton.mpr rfl) h
/-- what a piece leaves behind -/
def dP (S : List Int32) (P : Nat) (E : List Ed) (bg cl ou : Nat → Nat) (dp a : Nat) (pc : Option Nat) (p : Nat) (R : RdR) : Prop := match R with
  | .inl e => df S (P, E, bg, cl, ou, dp, a, pc, p) e
  | .inr (w1, p1, N1, A1) => ∃ (P1 : Nat) (Ep : List Ed) (bg1 cl1 ou1 : Nat → Nat) (a1 : Nat), dl S (P, E, bg, cl, ou, dp, a, pc, p) (P1, E ++ (a, P, 0, 0) :: Ep, bg1, cl1, ou1, dp, a1, some P, p1) ∧ ag dp bg bg1 ∧ ag dp cl cl1 ∧ ag dp ou ou1 ∧ g_in Ep P P1 ∧ P < a1 ∧ a1 < P1 ∧ (∀ q ∈ Ep, q.2.1 ≠ P) ∧ (∀ q ∈ Ep, q.1 ≠ a1) ∧ mns S N1 A1 Ep P a1 w1
def dG (S : List Int32) (G : RdG) (k : Nat) : Prop := ∀ p N A P E bg cl ou dp a pc, p < S.length → nx_of S p = 40 → dp + k = 10 → a < P → dP S P E bg cl ou dp a pc p (G (p + 1) N A)
/-- one edge of a kind -/
theorem dP_one {P : Nat} {E : List Ed} {bg cl ou : Nat → Nat} {dp a : Nat} {pc : Option Nat} {p p1 w1 k pl : Nat} {N1 : RdN} {A1 : RdA} (hp : p < S.length) (hst : dr_step S (P, E, bg, cl, ou, dp, a, pc, p) = .inr (P + 2, E ++ [(a, P, 0, 0), (P, P + 1, k, pl)], bg, cl, ou, dp, P + 1, some P, p1)) (hm : ∀ Nf Af, pfx N1 A1 Nf Af → ∀ v s e, ed_ok (at_m S) v s e k pl ↔ nr Af Nf w1 v s e) : dP S P E bg cl ou dp a pc p (.inr (w1, p1, N1, A1)) := by
  refine ⟨P + 2, [(P, P + 1, k, pl)], bg, cl, ou, P + 1, dl_1 hp hst, ag_rf, ag_rf, ag_rf, fun q hq => ?_, by omega, by omega, fun q hq => ?_, fun q hq => ?_, fun Nf Af hf v s e => g_one.trans (hm Nf Af hf v s e)⟩
  · rw [List.mem_singleton.mp hq]; simp only; omega
  · rw [List.mem_singleton.mp hq]; simp only; omega
  · rw [List.mem_singleton.mp hq]; simp only; omega
theorem nr_sign {p : Nat} {m : Nat → Bool} {Nf : RdN} {Af : RdA} (hf : pfx (N ++ [(3, A.length, 0)]) (A ++ [m]) Nf Af) (hm : at_m S p = m) (v : List Int32) (s e : Nat) : ed_ok (at_m S) v s e 3 p ↔ nr Af Nf N.length v s e := by
  rw [hf.at (by rw [List.length_append]; simp), rn_s]
  obtain ⟨-, -, B, rfl⟩ := hf
  have ha : rd_a (A ++ [m] ++ B) A.length = m := by
    unfold rd_a
    rw [List.append_assoc, List.getD_eq_getElem?_getD, List.getElem?_append_right (Nat.le_refl _), Nat.sub_self]
    rfl
  show (s < v.length ∧ e = s + 1 ∧ at_m S p (sg_of v s) = true) ↔ (s < v.length ∧ e = s + 1 ∧ rd_a (A ++ [m] ++ B) A.length (sg_of v s) = true)
  rw [ha, hm]
theorem dP_atom {G : RdG} {k : Nat} {P : Nat} {E : List Ed} {bg cl ou : Nat → Nat} {dp a : Nat} {pc : Option Nat} {p : Nat} (hG : dG S G k) (hd : dp + k = 10) (ha : a < P) (hp : p < S.length) (h124 : nx_of S p ≠ 124) (h41 : nx_of S p ≠ 41) (hz : ∀ q, q < S.length → nx_of S q ≠ 0) (hpc : pc = none ∨ ps_rp (nx_of S p) = false) : dP S P E bg cl ou dp a pc p (ps_atom S G p N A) := by
  unfold ps_atom
  have st : dr_step S (P, E, bg, cl, ou, dp, a, pc, p) = dr_st S P E bg cl ou dp a pc p := rfl
  unfold dr_st at st
  by_cases c1 : ps_rp (nx_of S p) = true
  · rw [if_pos (Or.inl c1)]
    rw [if_pos c1] at st
    rcases hpc with rfl | z
    · exact df_1 hp st
    · rw [z] at c1; cases c1
  rw [if_neg c1, if_neg h124] at st
  by_cases c93 : nx_of S p = 93
  · rw [if_pos (Or.inr c93)]
    rw [if_neg (by rw [c93]; decide), if_neg h41, if_pos c93] at st
    exact df_1 hp st
  rw [if_neg (fun z => z.elim c1 c93)]
  by_cases c94 : nx_of S p = 94
  · rw [if_pos c94]
    rw [if_neg (by rw [c94]; decide), if_neg h41, if_neg c93, if_neg (by rw [c94]; decide), if_neg (by rw [c94]; decide), show dr_kd (nx_of S p) = 1 from if_pos c94] at st
    refine dP_one hp st (fun Nf Af hf v s e => ?_)
    rw [hf.at (by rw [List.length_append]; simp), rn_s]
    exact Iff.rfl
  rw [if_neg c94]
  by_cases c36 : nx_of S p = 36
  · rw [if_pos c36]
    rw [if_neg (by rw [c36]; decide), if_neg h41, if_neg c93, if_neg (by rw [c36]; decide), if_neg (by rw [c36]; decide), show dr_kd (nx_of S p) = 2 from (if_neg c94).trans (if_pos c36)] at st
    refine dP_one hp st (fun Nf Af hf v s e => ?_)
    rw [hf.at (by rw [List.length_append]; simp), rn_s]
    exact Iff.rfl
  rw [if_neg c36]
  have hk3 : dr_kd (nx_of S p) = 3 := (if_neg c94).trans (if_neg c36)
  by_cases c46 : nx_of S p = 46
  · rw [if_pos c46]
    rw [if_neg (by rw [c46]; decide), if_neg h41, if_neg c93, if_neg (by rw [c46]; decide), if_neg (by rw [c46]; decide), hk3] at st
    exact dP_one hp st (fun Nf Af hf v s e => nr_sign hf (if_pos c46) v s e)
  rw [if_neg c46]
  by_cases c92 : nx_of S p = 92
  · rw [if_pos c92]
    rw [if_neg (by rw [c92]; decide), if_neg h41, if_neg c93, if_pos c92] at st
    by_cases hl : p + 1 < S.length
    · rw [if_neg (hz _ hl)]
      rw [if_pos hl] at st
      exact dP_one hp st (fun Nf Af hf v s e => nr_sign hf ((if_neg c46).trans (if_pos c92)) v s e)
    · rw [if_pos (nx_end (by omega)), show p + 1 = S.length by omega]
      rw [if_neg hl] at st
      exact df_1 hp st
  rw [if_neg c92]
  by_cases c91 : nx_of S p = 91
  · rw [if_pos c91]
    rw [if_neg (by rw [c91]; decide), if_neg h41, if_neg c93, if_neg c92, if_pos c91] at st
    cases hs : ps_set S (p + 1) with
    | inl e =>
      rw [hs] at st
      exact df_1 hp st
    | inr q =>
      obtain ⟨q, m⟩ := q
      rw [hs] at st
      refine dP_one hp st (fun Nf Af hf v s e => nr_sign hf ?_ v s e)
      unfold at_m
      rw [if_neg c46, if_neg c92, if_pos c91, hs]
  rw [if_neg c91]
  by_cases c40 : nx_of S p = 40
  · rw [if_pos c40]
    exact hG p N A P E bg cl ou dp a pc hp c40 hd ha
  rw [if_neg c40]
  rw [if_neg c40, if_neg h41, if_neg c93, if_neg c92, if_neg c91, hk3] at st
  exact dP_one hp st (fun Nf Af hf v s e => nr_sign hf ((if_neg c46).trans ((if_neg c92).trans (if_neg c91))) v s e)
/-- repeats -/
theorem d_rep {P : Nat} {E0 Ep : List Ed} {bg cl ou : Nat → Nat} {dp a pc : Nat} (hpa : pc ≠ a) (hto : ∀ q ∈ Ep, q.2.1 ≠ pc) (hfr : ∀ q ∈ Ep, q.1 ≠ a) (hpP : pc < P) (haP : a < P) (hpl : pc ≤ a) (f : Nat) : ∀ (w p : Nat) (N : RdN) (X : List Ed) (sk lp : Bool), w < N.length → (∀ q ∈ X, (q = (pc, a, 0, 0) ∧ sk = true) ∨ (q = (a, pc, 0, 0) ∧ lp = true)) → (sk = true → (pc, a, 0, 0) ∈ X) → (lp = true → (a, pc, 0, 0) ∈ X) → (∀ Nf Af, pfx N A Nf Af → ∀ v s e, g_F (fun s e => gR (at_m S) Ep v pc s a e) sk lp s e ↔ nr Af Nf w v s e) →
    ∃ X', dl S (P, E0 ++ (Ep ++ X), bg, cl, ou, dp, a, some pc, p) (P, E0 ++ (Ep ++ X'), bg, cl, ou, dp, a, some pc, (ps_rep S f w p N).2.1) ∧ (∀ q ∈ X', q = (pc, a, 0, 0) ∨ q = (a, pc, 0, 0)) ∧ mns S (ps_rep S f w p N).2.2 A (Ep ++ X') pc a (ps_rep S f w p N).1 := by
  induction f with
  | zero =>
    intro w p N X sk lp hw h1 h2 h3 h4
    exact ⟨X, dl_rf, fun q hq => (h1 q hq).imp And.left And.left, fun Nf Af hf v s e => (g_rep hpa hto hfr h1 h2 h3).trans (h4 Nf Af hf v s e)⟩
  | succ f ih =>
    intro w p N X sk lp hw h1 h2 h3 h4
    unfold ps_rep
    by_cases hr : ps_rp (nx_of S p) = true
    · rw [if_pos hr]
      have hp := ps_rp_lt hr
      have st : dr_step S (P, E0 ++ (Ep ++ X), bg, cl, ou, dp, a, some pc, p) = dr_st S P (E0 ++ (Ep ++ X)) bg cl ou dp a (some pc) p := rfl
      unfold dr_st at st
      rw [if_pos hr] at st
      dsimp only at st
      have hN : ∃ M, N ++ [(ps_kd (nx_of S p), w, 0)] = N ++ M := ⟨_, rfl⟩
      have hA : ∃ B, A = A ++ B := ⟨[], by rw [List.append_nil]⟩
      have hc : nx_of S p = 42 ∨ nx_of S p = 43 ∨ nx_of S p = 63 := by
        unfold ps_rp at hr
        simp only [Bool.or_eq_true, decide_eq_true_eq] at hr
        rcases hr with (h | h) | h
        · exact Or.inl h
        · exact Or.inr (Or.inl h)
        · exact Or.inr (Or.inr h)
      have go : ∀ (Y : List Ed) (sk' lp' : Bool), dr_step S (P, E0 ++ (Ep ++ X), bg, cl, ou, dp, a, some pc, p) = .inr (P, E0 ++ (Ep ++ (X ++ Y)), bg, cl, ou, dp, a, some pc, p + 1) → (∀ q ∈ X ++ Y, (q = (pc, a, 0, 0) ∧ sk' = true) ∨ (q = (a, pc, 0, 0) ∧ lp' = true)) → (sk' = true → (pc, a, 0, 0) ∈ X ++ Y) → (lp' = true → (a, pc, 0, 0) ∈ X ++ Y) → (∀ Nf Af, pfx (N ++ [(ps_kd (nx_of S p), w, 0)]) A Nf Af → ∀ v s e, g_F (fun s e => gR (at_m S) Ep v pc s a e) sk' lp' s e ↔ nr Af Nf N.length v s e) → ∃ X', dl S (P, E0 ++ (Ep ++ X), bg, cl, ou, dp, a, some pc, p) (P, E0 ++ (Ep ++ X'), bg, cl, ou, dp, a, some pc, (ps_rep S f N.length (p + 1) (N ++ [(ps_kd (nx_of S p), w, 0)])).2.1) ∧ (∀ q ∈ X', q = (pc, a, 0, 0) ∨ q = (a, pc, 0, 0)) ∧ mns S (ps_rep S f N.length (p + 1) (N ++ [(ps_kd (nx_of S p), w, 0)])).2.2 A (Ep ++ X') pc a (ps_rep S f N.length (p + 1) (N ++ [(ps_kd (nx_of S p), w, 0)])).1 := by
        intro Y sk' lp' hst k1 k2 k3 k4
        obtain ⟨X', z1, z2, z3⟩ := ih N.length (p + 1) (N ++ [(ps_kd (nx_of S p), w, 0)]) (X ++ Y) sk' lp' (by rw [List.length_append]; simp) k1 k2 k3 k4
        exact ⟨X', dl_tr (dl_1 hp hst) z1, z2, z3⟩
      rcases hc with hc | hc | hc
      · refine go [(pc, a, 0, 0), (a, pc, 0, 0)] true true ?_ ?_ (fun _ => by simp) (fun _ => by simp) (fun Nf Af hf v s e => ?_)
        · rw [st, if_neg (by rw [hc]; decide), if_neg (by rw [hc]; decide)]
          simp
        · intro q hq
          rcases List.mem_append.mp hq with hq | hq
          · exact (h1 q hq).imp (fun z => ⟨z.1, rfl⟩) (fun z => ⟨z.1, rfl⟩)
          · simp only [List.mem_cons, List.not_mem_nil, or_false] at hq
            exact hq.imp (fun z => ⟨z, rfl⟩) (fun z => ⟨z, rfl⟩)
        · rw [hf.at (by rw [List.length_append]; simp), rn_s, hc]
          have h5 := h4 Nf Af (hf.pre hN hA) v
          have h6 : nr Af Nf w v = g_F (fun s e => gR (at_m S) Ep v pc s a e) sk lp := funext fun s => funext fun e => propext (h5 s e).symm
          show _ ↔ ∃ k, rl_pow (nr Af Nf w v) k s e
          rw [h6]
          exact g_F_6.symm
      · refine go [(a, pc, 0, 0)] sk true ?_ ?_ (fun z => List.mem_append_left _ (h2 z)) (fun _ => by simp) (fun Nf Af hf v s e => ?_)
        · rw [st, if_pos hc, if_neg (by rw [hc]; decide)]
          simp
        · intro q hq
          rcases List.mem_append.mp hq with hq | hq
          · exact (h1 q hq).imp id (fun z => ⟨z.1, rfl⟩)
          · exact Or.inr ⟨List.mem_singleton.mp hq, rfl⟩
        · rw [hf.at (by rw [List.length_append]; simp), rn_s, hc]
          have h5 := h4 Nf Af (hf.pre hN hA) v
          have h6 : nr Af Nf w v = g_F (fun s e => gR (at_m S) Ep v pc s a e) sk lp := funext fun s => funext fun e => propext (h5 s e).symm
          show _ ↔ ∃ k, rl_pow (nr Af Nf w v) (k + 1) s e
          rw [h6]
          exact g_F_7.symm
      · refine go [(pc, a, 0, 0)] true lp ?_ ?_ (fun _ => by simp) (fun z => List.mem_append_left _ (h3 z)) (fun Nf Af hf v s e => ?_)
        · rw [st, if_neg (by rw [hc]; decide), if_pos hc]
          simp
        · intro q hq
          rcases List.mem_append.mp hq with hq | hq
          · exact (h1 q hq).imp (fun z => ⟨z.1, rfl⟩) id
          · exact Or.inl ⟨List.mem_singleton.mp hq, rfl⟩
        · rw [hf.at (by rw [List.length_append]; simp), rn_s, hc]
          have h5 := h4 Nf Af (hf.pre hN hA) v
          show _ ↔ (e = s ∨ nr Af Nf w v s e)
          rw [← h5 s e]
          exact g_F_8.symm
    · rw [if_neg hr]
      exact ⟨X, dl_rf, fun q hq => (h1 q hq).imp And.left And.left, fun Nf Af hf v s e => (g_rep hpa hto hfr h1 h2 h3).trans (h4 Nf Af hf v s e)⟩
end
/-! the ends of what is parsed -/
section
variable {S : List Int32} {G : RdG}
theorem ps_rep_end (f : Nat) : ∀ (w p : Nat) (N : RdN), S.length ≤ p + f → ps_rp (nx_of S (ps_rep S f w p N).2.1) = false := by
  induction f with
  | zero =>
    intro w p N h
    show ps_rp (nx_of S p) = false
    rw [nx_end (by omega)]
    rfl
  | succ f ih =>
    intro w p N h
    unfold ps_rep
    by_cases hr : ps_rp (nx_of S p) = true
    · rw [if_pos hr]
      exact ih _ _ _ (by omega)
    · rw [if_neg hr]
      exact Bool.not_eq_true _ ▸ hr
theorem ps_seq_end (hG : ps_Gok S G) (f : Nat) : ∀ (w p : Nat) (N : RdN) (A : RdA), p ≤ S.length → S.length ≤ p + f → ∀ w' p' N' A', ps_seq S G f w p N A = .inr (w', p', N', A') → nx_of S p' = 0 ∨ nx_of S p' = 124 ∨ nx_of S p' = 41 := by
  induction f with
  | zero =>
    intro w p N A hp h w' p' N' A' hs
    cases hs
    exact Or.inl (nx_end (by omega))
  | succ f ih =>
    intro w p N A hp h w' p' N' A' hs
    unfold ps_seq at hs
    by_cases ht : nx_of S p = 0 ∨ nx_of S p = 124 ∨ nx_of S p = 41
    · rw [if_pos ht] at hs
      cases hs
      exact ht
    · rw [if_neg ht] at hs
      have hlt : p < S.length := nx_lt (fun z => ht (Or.inl z))
      have ok := ps_atom_ok (N := N) (A := A) hG hlt
      cases ha : ps_atom S G p N A with
      | inl e => rw [ha] at hs; cases hs
      | inr q =>
        obtain ⟨w1, p1, N1, A1⟩ := q
        rw [ha] at hs ok
        obtain ⟨o1, o2, o3, o4, o5, o6, o7⟩ := ok
        obtain ⟨r1, r2, -⟩ := ps_rep_ok 60 w1 p1 N1 o2 o6
        exact ih _ _ _ _ r2 (by omega) w' p' N' A' hs
theorem ps_al_end (f : Nat) (hG : ps_Gok S G) : ∀ (w p : Nat) (N : RdN) (A : RdA), w < N.length → p ≤ S.length → S.length ≤ p + f → ∀ w' p' N' A', ps_al S G f w p N A = .inr (w', p', N', A') → nx_of S p' ≠ 124 := by
  induction f with
  | zero =>
    intro w p N A hw hp h w' p' N' A' hs
    cases hs
    rw [nx_end (by omega)]
    decide
  | succ f ih =>
    intro w p N A hw hp h w' p' N' A' hs
    unfold ps_al at hs
    by_cases ht : nx_of S p = 124
    · rw [if_pos ht] at hs
      have hlt : p < S.length := nx_lt2 ht (by decide)
      have ok := ps_sq_ok (N := N) (A := A) hG (p := p + 1) (by omega)
      cases ha : ps_sq S G (p + 1) N A with
      | inl e => rw [ha] at hs; cases hs
      | inr q =>
        obtain ⟨w1, p1, N1, A1⟩ := q
        rw [ha] at hs ok
        obtain ⟨o1, o2, o3, o4, o5, o6, o7⟩ := ok
        exact ih _ _ _ _ (by rw [List.length_append]; simp) o2 (by omega) w' p' N' A' hs
    · rw [if_neg ht] at hs
      cases hs
      exact ht
/-- what stands behind an alternation, where it began behind a sequence's end -/
theorem ps_al_tm (f : Nat) (hG : ps_Gok S G) (h60 : S.length ≤ 60) : ∀ (w p : Nat) (N : RdN) (A : RdA), w < N.length → p ≤ S.length → (nx_of S p = 0 ∨ nx_of S p = 124 ∨ nx_of S p = 41) → ∀ w' p' N' A', ps_al S G f w p N A = .inr (w', p', N', A') → nx_of S p' = 0 ∨ nx_of S p' = 124 ∨ nx_of S p' = 41 := by
  induction f with
  | zero =>
    intro w p N A hw hp h w' p' N' A' hs
    cases hs
    exact h
  | succ f ih =>
    intro w p N A hw hp h w' p' N' A' hs
    unfold ps_al at hs
    by_cases ht : nx_of S p = 124
    · rw [if_pos ht] at hs
      have hlt : p < S.length := nx_lt2 ht (by decide)
      have ok := ps_sq_ok (N := N) (A := A) hG (p := p + 1) (by omega)
      cases ha : ps_sq S G (p + 1) N A with
      | inl e => rw [ha] at hs; cases hs
      | inr q =>
        obtain ⟨w1, p1, N1, A1⟩ := q
        rw [ha] at hs ok
        obtain ⟨o1, o2, o3, o4, o5, o6, o7⟩ := ok
        exact ih _ _ _ _ (by rw [List.length_append]; simp) o2 (ps_seq_end hG 60 _ _ _ _ (by omega) (by omega) w1 p1 N1 A1 ha) w' p' N' A' hs
    · rw [if_neg ht] at hs
      cases hs
      exact h
theorem ps_alt_end (hG : ps_Gok S G) (h60 : S.length ≤ 60) {p : Nat} {N : RdN} {A : RdA} (hp : p ≤ S.length) {w' p' : Nat} {N' : RdN} {A' : RdA} (h : ps_alt S G p N A = .inr (w', p', N', A')) : nx_of S p' = 0 ∨ nx_of S p' = 41 := by
  unfold ps_alt at h
  have ok := ps_sq_ok (N := N) (A := A) hG hp
  cases ha : ps_sq S G p N A with
  | inl e => rw [ha] at h; cases h
  | inr q =>
    obtain ⟨w1, p1, N1, A1⟩ := q
    rw [ha] at h ok
    obtain ⟨o1, o2, o3, o4, o5, o6, o7⟩ := ok
    have h1 := ps_al_tm 60 hG h60 w1 p1 N1 A1 o6 o2 (ps_seq_end hG 60 _ _ _ _ hp (by omega) w1 p1 N1 A1 ha) w' p' N' A' h
    have h2 := ps_al_end 60 hG w1 p1 N1 A1 o6 o2 (by omega) w' p' N' A' h
    rcases h1 with h1 | h1 | h1
    · exact Or.inl h1
    · exact absurd h1 h2
    · exact Or.inr h1
end
