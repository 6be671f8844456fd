/-! the parser as a pure function: a fault's place, or node, place, nodes, atoms -/
abbrev RdR : Type := Nat ⊕ (Nat × Nat × RdN × RdA)
def ps_rp (c : Int32) : Bool := decide (c = 42) || decide (c = 43) || decide (c = 63)
def ps_kd (c : Int32) : Nat := if c = 42 then 6 else if c = 43 then 7 else 8
def ps_it (c : Int32) : Bool := !(decide (c = 0) || decide (c = 93) || decide (c = 92) || decide (c = 45))
def ps_rg (m : Nat → Bool) (lo hi : Nat) : Nat → Bool := fun x => m x || (decide (lo ≤ x) && decide (x ≤ hi))
def ps_no : Nat → Bool := fun _ => false
def ps_cm (m : Nat → Bool) : Nat → Bool := fun x => if 1 ≤ x ∧ x ≤ 255 then !m x else m x
def nxN (S : List Int32) (p : Nat) : Nat := (nx_of S p).toNatClampNeg
/-- one item at place p -/
def ps_item (S : List Int32) (p : Nat) (m : Nat → Bool) : Nat ⊕ (Nat × (Nat → Bool)) :=
  if ps_it (nx_of S p) = false then .inl p
  else if nx_of S (p + 1) = 45 then
    if ps_it (nx_of S (p + 2)) = false ∨ nx_of S (p + 2) < nx_of S p then .inl (p + 2)
    else .inr (p + 3, ps_rg m (nxN S p) (nxN S (p + 2)))
  else .inr (p + 1, ps_rg m (nxN S p) (nxN S p))
def ps_items (S : List Int32) : Nat → Nat → (Nat → Bool) → Nat ⊕ (Nat × (Nat → Bool))
  | 0, p, m => .inr (p, m)
  | f + 1, p, m => if nx_of S p = 0 ∨ nx_of S p = 93 then .inr (p, m) else
    match ps_item S p m with
    | .inl e => .inl e
    | .inr (p', m') => ps_items S f p' m'
/-- behind the bracket -/
def ps_set (S : List Int32) (p : Nat) : Nat ⊕ (Nat × (Nat → Bool)) :=
  match ps_item S (if nx_of S p = 94 then p + 1 else p) ps_no with
  | .inl e => .inl e
  | .inr (p1, m1) => match ps_items S 60 p1 m1 with
    | .inl e => .inl e
    | .inr (p2, m2) => if nx_of S p2 = 93 then .inr (p2 + 1, if nx_of S p = 94 then ps_cm m2 else m2) else .inl p2
def ps_one (p : Nat) (N : RdN) (A : RdA) (m : Nat → Bool) : RdR := .inr (N.length, p, N ++ [(3, A.length, 0)], A ++ [m])
abbrev RdG : Type := Nat → RdN → RdA → RdR
def ps_atom (S : List Int32) (G : RdG) (p : Nat) (N : RdN) (A : RdA) : RdR :=
  if ps_rp (nx_of S p) = true ∨ nx_of S p = 93 then .inl p
  else if nx_of S p = 94 then .inr (N.length, p + 1, N ++ [(1, 0, 0)], A)
  else if nx_of S p = 36 then .inr (N.length, p + 1, N ++ [(2, 0, 0)], A)
  else if nx_of S p = 46 then ps_one (p + 1) N A (ps_rg ps_no 1 255)
  else if nx_of S p = 92 then (if nx_of S (p + 1) = 0 then .inl (p + 1) else ps_one (p + 2) N A (ps_rg ps_no (nxN S (p + 1)) (nxN S (p + 1))))
  else if nx_of S p = 91 then (match ps_set S (p + 1) with
    | .inl e => .inl e
    | .inr (p', m) => ps_one p' N A m)
  else if nx_of S p = 40 then G (p + 1) N A
  else ps_one (p + 1) N A (ps_rg ps_no (nxN S p) (nxN S p))
def ps_rep (S : List Int32) : Nat → Nat → Nat → RdN → Nat × Nat × RdN
  | 0, w, p, N => (w, p, N)
  | f + 1, w, p, N => if ps_rp (nx_of S p) = true then ps_rep S f N.length (p + 1) (N ++ [(ps_kd (nx_of S p), w, 0)]) else (w, p, N)
def ps_seq (S : List Int32) (G : RdG) : Nat → Nat → Nat → RdN → RdA → RdR
  | 0, w, p, N, A => .inr (w, p, N, A)
  | f + 1, w, p, N, A => if nx_of S p = 0 ∨ nx_of S p = 124 ∨ nx_of S p = 41 then .inr (w, p, N, A) else
    match ps_atom S G p N A with
    | .inl e => .inl e
    | .inr (w1, p1, N1, A1) => ps_seq S G f (ps_rep S 60 w1 p1 N1).2.2.length (ps_rep S 60 w1 p1 N1).2.1 ((ps_rep S 60 w1 p1 N1).2.2 ++ [(4, w, (ps_rep S 60 w1 p1 N1).1)]) A1
def ps_sq (S : List Int32) (G : RdG) (p : Nat) (N : RdN) (A : RdA) : RdR := ps_seq S G 60 N.length p (N ++ [(0, 0, 0)]) A
def ps_al (S : List Int32) (G : RdG) : Nat → Nat → Nat → RdN → RdA → RdR
  | 0, w, p, N, A => .inr (w, p, N, A)
  | f + 1, w, p, N, A => if nx_of S p = 124 then
      (match ps_sq S G (p + 1) N A with
      | .inl e => .inl e
      | .inr (w1, p1, N1, A1) => ps_al S G f N1.length p1 (N1 ++ [(5, w, w1)]) A1)
    else .inr (w, p, N, A)
def ps_alt (S : List Int32) (G : RdG) (p : Nat) (N : RdN) (A : RdA) : RdR :=
  match ps_sq S G p N A with
  | .inl e => .inl e
  | .inr (w, p1, N1, A1) => ps_al S G 60 w p1 N1 A1
/-- behind an opening sign, with so many levels left -/
def ps_grp (S : List Int32) : Nat → RdG
  | 0 => fun q _ _ => .inl (q - 1)
  | k + 1 => fun q N A => match ps_alt S (ps_grp S k) q N A with
    | .inl e => .inl e
    | .inr (w, p, N1, A1) => if nx_of S p = 41 then .inr (w, p + 1, N1, A1) else .inl p
def ps_read (S : List Int32) : Nat ⊕ (Nat × RdN × RdA) :=
  match ps_alt S (ps_grp S 10) 0 [] [] with
  | .inl e => .inl e
  | .inr (w, p, N, A) => if p < S.length then .inl p else .inr (w, N, A)
/-- what is known of a result: the place grows but not past the end; nodes and atoms are added, so many at most -/
def ps_ok (S : List Int32) (k p : Nat) (N : RdN) (A : RdA) (c : Nat) (R : RdR) : Prop := match R with
  | .inl e => e ≤ S.length
  | .inr (w, p', N', A') => p + k ≤ p' ∧ p' ≤ S.length ∧ (∃ M, N' = N ++ M) ∧ (∃ B, A' = A ++ B) ∧ N'.length + 2 * p + 2 * k ≤ N.length + 2 * p' + c ∧ w < N'.length ∧ A'.length + p ≤ A.length + p'
theorem nx_lt {S : List Int32} {p : Nat} (h : ¬ nx_of S p = 0) : p < S.length := Nat.not_le.mp fun z => h (by
  rw [nx_of, List.getD_eq_getElem?_getD, List.getElem?_eq_none z]
  rfl)
theorem nx_end {S : List Int32} {p : Nat} (h : S.length ≤ p) : nx_of S p = 0 := by
  rw [nx_of, List.getD_eq_getElem?_getD, List.getElem?_eq_none h]
  rfl
theorem nx_lt2 {S : List Int32} {p : Nat} {c : Int32} (h : nx_of S p = c) (hc : c ≠ 0) : p < S.length := nx_lt (by rw [h]; exact hc)
theorem ps_it_lt {S : List Int32} {p : Nat} (h : ¬ ps_it (nx_of S p) = false) : p < S.length := nx_lt (fun z => h (by rw [z]; rfl))
theorem ps_rp_lt {S : List Int32} {p : Nat} (h : ps_rp (nx_of S p) = true) : p < S.length := nx_lt (fun z => by rw [z] at h; cases h)
theorem ps_item_ok {S : List Int32} {p : Nat} (m : Nat → Bool) (hp : p ≤ S.length) : (∀ e, ps_item S p m = .inl e → e ≤ S.length) ∧ ∀ q, ps_item S p m = .inr q → p < q.1 ∧ q.1 ≤ S.length := by
  unfold ps_item
  by_cases h1 : ps_it (nx_of S p) = false
  · rw [if_pos h1]
    exact ⟨fun e he => (by cases he; exact hp), fun q hq => by cases hq⟩
  · rw [if_neg h1]
    have l1 := ps_it_lt h1
    by_cases h2 : nx_of S (p + 1) = 45
    · rw [if_pos h2]
      have l2 := nx_lt2 h2 (by decide)
      by_cases h3 : ps_it (nx_of S (p + 2)) = false ∨ nx_of S (p + 2) < nx_of S p
      · rw [if_pos h3]
        exact ⟨fun e he => (by cases he; omega), fun q hq => by cases hq⟩
      · rw [if_neg h3]
        have l3 := ps_it_lt (fun z => h3 (.inl z))
        exact ⟨fun e he => (by cases he), fun q hq => (by cases hq; exact ⟨(by simp only; omega), (by simp only; omega)⟩)⟩
    · rw [if_neg h2]
      exact ⟨fun e he => (by cases he), fun q hq => (by cases hq; exact ⟨(by simp only; omega), (by simp only; omega)⟩)⟩
theorem ps_items_ok {S : List Int32} (f : Nat) : ∀ (p : Nat) (m : Nat → Bool), p ≤ S.length → (∀ e, ps_items S f p m = .inl e → e ≤ S.length) ∧ ∀ q, ps_items S f p m = .inr q → p ≤ q.1 ∧ q.1 ≤ S.length := by
  induction f with
  | zero =>
    intro p m hp
    exact ⟨fun e he => (by cases he), fun q hq => by cases hq; exact ⟨Nat.le_refl _, hp⟩⟩
  | succ f ih =>
    intro p m hp
    unfold ps_items
    by_cases h1 : nx_of S p = 0 ∨ nx_of S p = 93
    · rw [if_pos h1]
      exact ⟨fun e he => (by cases he), fun q hq => by cases hq; exact ⟨Nat.le_refl _, hp⟩⟩
    · rw [if_neg h1]
      obtain ⟨k1, k2⟩ := ps_item_ok m hp
      cases hq : ps_item S p m with
      | inl e => exact ⟨fun e' he => (by cases he; exact k1 e hq), fun q hq => by cases hq⟩
      | inr q =>
        obtain ⟨q1, q2⟩ := k2 q hq
        obtain ⟨j1, j2⟩ := ih q.1 q.2 q2
        exact ⟨j1, fun q' hq' => ⟨by have := (j2 q' hq').1; omega, (j2 q' hq').2⟩⟩
theorem ps_set_ok {S : List Int32} {p : Nat} (hp : p ≤ S.length) : (∀ e, ps_set S p = .inl e → e ≤ S.length) ∧ ∀ q, ps_set S p = .inr q → p < q.1 ∧ q.1 ≤ S.length := by
  unfold ps_set
  have hp1 : (if nx_of S p = 94 then p + 1 else p) ≤ S.length ∧ p ≤ (if nx_of S p = 94 then p + 1 else p) := by
    by_cases h : nx_of S p = 94
    · rw [if_pos h]
      have := nx_lt2 h (by decide)
      omega
    · rw [if_neg h]
      omega
  revert hp1
  generalize (if nx_of S p = 94 then p + 1 else p) = q0
  intro hp1
  obtain ⟨k1, k2⟩ := ps_item_ok ps_no hp1.1
  cases hq : ps_item S q0 ps_no with
  | inl e => exact ⟨fun e' he => (by cases he; exact k1 e hq), fun q hq => by cases hq⟩
  | inr q =>
    obtain ⟨q1, q2⟩ := k2 q hq
    obtain ⟨j1, j2⟩ := ps_items_ok 60 q.1 q.2 q2
    cases hr : ps_items S 60 q.1 q.2 with
    | inl e => simp only [hr]; exact ⟨fun e' he => (by cases he; exact j1 e hr), fun q hq => by cases hq⟩
    | inr u =>
      obtain ⟨u1, u2⟩ := j2 u hr
      simp only [hr]
      by_cases h : nx_of S u.1 = 93
      · rw [if_pos h]
        have := nx_lt2 h (by decide)
        exact ⟨fun e he => (by cases he), fun q hq => (by cases hq; exact ⟨(by simp only; omega), (by simp only; omega)⟩)⟩
      · rw [if_neg h]
        exact ⟨fun e he => (by cases he; exact u2), fun q hq => (by cases hq)⟩
theorem ps_one_ok {S : List Int32} {p p' : Nat} {N : RdN} {A : RdA} (m : Nat → Bool) (h : p + 1 ≤ p') (h2 : p' ≤ S.length) : ps_ok S 1 p N A 1 (ps_one p' N A m) :=
  ⟨h, h2, ⟨_, rfl⟩, ⟨_, rfl⟩, by rw [List.length_append]; simp only [List.length_cons, List.length_nil]; omega, by rw [List.length_append]; simp only [List.length_cons, List.length_nil]; omega, by rw [List.length_append]; simp only [List.length_cons, List.length_nil]; omega⟩
theorem ps_nd_ok {S : List Int32} {p : Nat} {N : RdN} {A : RdA} (q : Nat × Nat × Nat) (h : p < S.length) : ps_ok S 1 p N A 1 (.inr (N.length, p + 1, N ++ [q], A)) :=
  ⟨Nat.le_refl _, h, ⟨_, rfl⟩, ⟨[], by simp⟩, by rw [List.length_append]; simp only [List.length_cons, List.length_nil]; omega, by rw [List.length_append]; simp only [List.length_cons, List.length_nil]; omega, by omega⟩
def ps_Gok (S : List Int32) (G : RdG) : Prop := ∀ p N A, p < S.length → ps_ok S 1 p N A 1 (G (p + 1) N A)
theorem ps_atom_ok {S : List Int32} {G : RdG} {p : Nat} {N : RdN} {A : RdA} (hG : ps_Gok S G) (hp : p < S.length) : ps_ok S 1 p N A 1 (ps_atom S G p N A) := by
  unfold ps_atom
  by_cases h1 : ps_rp (nx_of S p) = true ∨ nx_of S p = 93
  · rw [if_pos h1]; exact Nat.le_of_lt hp
  rw [if_neg h1]
  by_cases h2 : nx_of S p = 94
  · rw [if_pos h2]; exact ps_nd_ok _ hp
  rw [if_neg h2]
  by_cases h3 : nx_of S p = 36
  · rw [if_pos h3]; exact ps_nd_ok _ hp
  rw [if_neg h3]
  by_cases h4 : nx_of S p = 46
  · rw [if_pos h4]; exact ps_one_ok _ (Nat.le_refl _) hp
  rw [if_neg h4]
  by_cases h5 : nx_of S p = 92
  · rw [if_pos h5]
    by_cases h6 : nx_of S (p + 1) = 0
    · rw [if_pos h6]; exact hp
    · rw [if_neg h6]; exact ps_one_ok _ (by omega) (nx_lt h6)
  rw [if_neg h5]
  by_cases h7 : nx_of S p = 91
  · rw [if_pos h7]
    obtain ⟨k1, k2⟩ := ps_set_ok (S := S) (p := p + 1) hp
    cases hq : ps_set S (p + 1) with
    | inl e => exact k1 e hq
    | inr q => exact ps_one_ok _ (by have := (k2 q hq).1; omega) (k2 q hq).2
  rw [if_neg h7]
  by_cases h8 : nx_of S p = 40
  · rw [if_pos h8]; exact hG p N A hp
  rw [if_neg h8]
  exact ps_one_ok _ (Nat.le_refl _) hp
theorem ps_rep_ok {S : List Int32} (f : Nat) : ∀ (w p : Nat) (N : RdN), p ≤ S.length → w < N.length → p ≤ (ps_rep S f w p N).2.1 ∧ (ps_rep S f w p N).2.1 ≤ S.length ∧ (∃ M, (ps_rep S f w p N).2.2 = N ++ M) ∧ (ps_rep S f w p N).2.2.length + p = N.length + (ps_rep S f w p N).2.1 ∧ (ps_rep S f w p N).1 < (ps_rep S f w p N).2.2.length := by
  induction f with
  | zero =>
    intro w p N hp hw
    exact ⟨Nat.le_refl _, hp, ⟨[], by simp [ps_rep]⟩, rfl, hw⟩
  | succ f ih =>
    intro w p N hp hw
    unfold ps_rep
    by_cases h : ps_rp (nx_of S p) = true
    · rw [if_pos h]
      have hl : (N ++ [(ps_kd (nx_of S p), w, 0)]).length = N.length + 1 := by rw [List.length_append]; rfl
      obtain ⟨h1, h2, ⟨M, h3⟩, h4, h5⟩ := ih N.length (p + 1) (N ++ [(ps_kd (nx_of S p), w, 0)]) (ps_rp_lt h) (by omega)
      exact ⟨by omega, h2, ⟨_, by rw [h3, List.append_assoc]⟩, by omega, h5⟩
    · rw [if_neg h]
      exact ⟨Nat.le_refl _, hp, ⟨[], by simp⟩, rfl, hw⟩
theorem ps_ok.tr {S : List Int32} {k p p1 : Nat} {N N1 : RdN} {A A1 : RdA} {c k1 c1 k2 c2 : Nat} {R : RdR} (hp : p + k1 ≤ p1) (hN : ∃ M, N1 = N ++ M) (hA : ∃ B, A1 = A ++ B) (hl : N1.length + 2 * p + 2 * k1 ≤ N.length + 2 * p1 + c1) (hal : A1.length + p ≤ A.length + p1) (h : ps_ok S k2 p1 N1 A1 c2 R) (hk : k ≤ k1 + k2) (hc : c1 + c2 + 2 * k ≤ c + 2 * k1 + 2 * k2) : ps_ok S k p N A c R := by
  cases R with
  | inl e => exact h
  | inr q =>
    obtain ⟨w, p', N', A'⟩ := q
    obtain ⟨h1, h2, ⟨M', h3⟩, ⟨B', h4⟩, h5, h6, h7⟩ := h
    obtain ⟨M, hM⟩ := hN
    obtain ⟨B, hB⟩ := hA
    exact ⟨by omega, h2, ⟨M ++ M', by rw [h3, hM, List.append_assoc]⟩, ⟨B ++ B', by rw [h4, hB, List.append_assoc]⟩, by omega, h6, by omega⟩
theorem ps_seq_ok {S : List Int32} {G : RdG} (hG : ps_Gok S G) (f : Nat) : ∀ (w p : Nat) (N : RdN) (A : RdA), p ≤ S.length → w < N.length → ps_ok S 0 p N A 0 (ps_seq S G f w p N A) := by
  induction f with
  | zero =>
    intro w p N A hp hw
    exact ⟨Nat.le_refl _, hp, ⟨[], by simp⟩, ⟨[], by simp⟩, Nat.le_refl _, hw, by omega⟩
  | succ f ih =>
    intro w p N A hp hw
    unfold ps_seq
    by_cases h : nx_of S p = 0 ∨ nx_of S p = 124 ∨ nx_of S p = 41
    · rw [if_pos h]
      exact ⟨Nat.le_refl _, hp, ⟨[], by simp⟩, ⟨[], by simp⟩, Nat.le_refl _, hw, by omega⟩
    · rw [if_neg h]
      have ha := ps_atom_ok (N := N) (A := A) hG (nx_lt (fun z => h (.inl z)))
      revert ha
      cases ps_atom S G p N A with
      | inl e => exact fun ha => ha
      | inr q =>
        obtain ⟨w1, p1, N1, A1⟩ := q
        rintro ⟨a1, a2, ⟨M, a3⟩, a4, a5, a6, a7⟩
        obtain ⟨r1, r2, ⟨M2, r3⟩, r4, r5⟩ := ps_rep_ok 60 w1 p1 N1 a2 a6
        have hl : ((ps_rep S 60 w1 p1 N1).2.2 ++ [(4, w, (ps_rep S 60 w1 p1 N1).1)]).length = (ps_rep S 60 w1 p1 N1).2.2.length + 1 := by rw [List.length_append]; rfl
        refine ps_ok.tr (k1 := 1) (c1 := 2) (p1 := (ps_rep S 60 w1 p1 N1).2.1) (by omega) ?_ a4 ?_ ?_ (ih _ _ _ A1 r2 (by omega)) (by omega) (by omega)
        · exact ⟨M ++ M2 ++ [(4, w, (ps_rep S 60 w1 p1 N1).1)], by rw [r3, a3]; simp only [List.append_assoc]⟩
        · rw [hl]; omega
        · omega
theorem ps_sq_ok {S : List Int32} {G : RdG} (hG : ps_Gok S G) {p : Nat} {N : RdN} {A : RdA} (hp : p ≤ S.length) : ps_ok S 0 p N A 1 (ps_sq S G p N A) := by
  have hl : (N ++ [((0 : Nat), (0 : Nat), (0 : Nat))]).length = N.length + 1 := by rw [List.length_append]; rfl
  exact ps_ok.tr (k1 := 0) (c1 := 1) (Nat.le_refl _) ⟨_, rfl⟩ ⟨[], by simp⟩ (by omega) (by omega) (ps_seq_ok hG 60 N.length p (N ++ [(0, 0, 0)]) A hp (by omega)) (by omega) (by omega)
theorem ps_al_ok {S : List Int32} {G : RdG} (hG : ps_Gok S G) (f : Nat) : ∀ (w p : Nat) (N : RdN) (A : RdA), p ≤ S.length → w < N.length → ps_ok S 0 p N A 0 (ps_al S G f w p N A) := by
  induction f with
  | zero =>
    intro w p N A hp hw
    exact ⟨Nat.le_refl _, hp, ⟨[], by simp⟩, ⟨[], by simp⟩, Nat.le_refl _, hw, by omega⟩
  | succ f ih =>
    intro w p N A hp hw
    unfold ps_al
    by_cases h : nx_of S p = 124
    · rw [if_pos h]
      have ha := ps_sq_ok (N := N) (A := A) hG (nx_lt2 h (by decide))
      revert ha
      cases ps_sq S G (p + 1) N A with
      | inl e => exact fun ha => ha
      | inr q =>
        obtain ⟨w1, p1, N1, A1⟩ := q
        rintro ⟨a1, a2, ⟨M, a3⟩, a4, a5, a6, a7⟩
        have hl : (N1 ++ [((5 : Nat), w, w1)]).length = N1.length + 1 := by rw [List.length_append]; rfl
        refine ps_ok.tr (k1 := 0) (c1 := 0) (p1 := p1) (by omega) ⟨M ++ [(5, w, w1)], by rw [a3]; simp only [List.append_assoc]⟩ a4 ?_ ?_ (ih _ _ _ A1 a2 (by omega)) (by omega) (by omega)
        · rw [hl]; omega
        · omega
    · rw [if_neg h]
      exact ⟨Nat.le_refl _, hp, ⟨[], by simp⟩, ⟨[], by simp⟩, Nat.le_refl _, hw, by omega⟩
theorem ps_alt_ok {S : List Int32} {G : RdG} (hG : ps_Gok S G) {p : Nat} {N : RdN} {A : RdA} (hp : p ≤ S.length) : ps_ok S 0 p N A 1 (ps_alt S G p N A) := by
  have ha := ps_sq_ok (N := N) (A := A) hG hp
  unfold ps_alt
  revert ha
  cases ps_sq S G p N A with
  | inl e => exact fun ha => ha
  | inr q =>
    obtain ⟨w1, p1, N1, A1⟩ := q
    rintro ⟨a1, a2, a3, a4, a5, a6, a7⟩
    exact ps_ok.tr (k1 := 0) (c1 := 1) (by omega) a3 a4 (by omega) a7 (ps_al_ok hG 60 w1 p1 N1 A1 a2 a6) (by omega) (by omega)
theorem ps_grp_ok {S : List Int32} (k : Nat) : ps_Gok S (ps_grp S k) := by
  induction k with
  | zero =>
    intro p N A hp
    show p + 1 - 1 ≤ S.length
    omega
  | succ k ih =>
    intro p N A hp
    have ha := ps_alt_ok (N := N) (A := A) ih (show p + 1 ≤ S.length from hp)
    show ps_ok S 1 p N A 1 (match ps_alt S (ps_grp S k) (p + 1) N A with
      | .inl e => .inl e
      | .inr (w, p, N1, A1) => if nx_of S p = 41 then .inr (w, p + 1, N1, A1) else .inl p)
    revert ha
    cases ps_alt S (ps_grp S k) (p + 1) N A with
    | inl e => exact fun ha => ha
    | inr q =>
      obtain ⟨w1, p1, N1, A1⟩ := q
      rintro ⟨a1, a2, a3, a4, a5, a6, a7⟩
      simp only
      by_cases h : nx_of S p1 = 41
      · rw [if_pos h]
        exact ⟨by omega, nx_lt2 h (by decide), a3, a4, by omega, a6, by omega⟩
      · rw [if_neg h]
        exact a2
