/-! graphs of points and edges: from, to, kind (0 free, 1 at the beginning, 2 at the end, 3 a sign), place -/
abbrev Ed : Type := Nat × Nat × Nat × Nat
def ed_ok (M : Nat → Nat → Bool) (w : List Int32) (s e k p : Nat) : Prop := if k = 0 then e = s else if k = 1 then e = s ∧ s = 0 else if k = 2 then e = s ∧ s = w.length else s < w.length ∧ e = s + 1 ∧ M p (sg_of w s) = true
/-- one edge from point a at place s to point b at place e -/
def gs (M : Nat → Nat → Bool) (E : List Ed) (w : List Int32) (a s b e : Nat) : Prop := ∃ q ∈ E, q.1 = a ∧ q.2.1 = b ∧ ed_ok M w s e q.2.2.1 q.2.2.2
def gn (M : Nat → Nat → Bool) (E : List Ed) (w : List Int32) : Nat → Nat → Nat → Nat → Nat → Prop
  | 0, a, s, b, e => a = b ∧ s = e
  | n + 1, a, s, b, e => ∃ c m, gs M E w a s c m ∧ gn M E w n c m b e
def gR (M : Nat → Nat → Bool) (E : List Ed) (w : List Int32) (a s b e : Nat) : Prop := ∃ n, gn M E w n a s b e
/-- all edges have their points from lo to hi - 1 -/
def g_in (E : List Ed) (lo hi : Nat) : Prop := ∀ q ∈ E, lo ≤ q.1 ∧ q.1 < hi ∧ lo ≤ q.2.1 ∧ q.2.1 < hi
section
variable {M : Nat → Nat → Bool} {E E' E1 E2 : List Ed} {w : List Int32} {a b c s e m lo hi : Nat}
theorem gs_mono (h : ∀ q ∈ E, q ∈ E') (z : gs M E w a s b e) : gs M E' w a s b e := by
  obtain ⟨q, h1, h2⟩ := z
  exact ⟨q, h q h1, h2⟩
theorem gn_mono (h : ∀ q ∈ E, q ∈ E') (n : Nat) : ∀ a s, gn M E w n a s b e → gn M E' w n a s b e := by
  induction n with
  | zero => exact fun a s z => z
  | succ n ih => exact fun a s ⟨c, m, z1, z2⟩ => ⟨c, m, gs_mono h z1, ih c m z2⟩
theorem gR_mono (h : ∀ q ∈ E, q ∈ E') (z : gR M E w a s b e) : gR M E' w a s b e := by
  obtain ⟨n, z⟩ := z
  exact ⟨n, gn_mono h n a s z⟩
theorem gR_rf : gR M E w a s a s := ⟨0, rfl, rfl⟩
theorem gn_tr (n : Nat) : ∀ a s, gn M E w n a s b m → gR M E w b m c e → gR M E w a s c e := by
  induction n with
  | zero =>
    rintro a s ⟨rfl, rfl⟩ z
    exact z
  | succ n ih =>
    rintro a s ⟨c', m', z1, z2⟩ z
    obtain ⟨k, hk⟩ := ih c' m' z2 z
    exact ⟨k + 1, c', m', z1, hk⟩
theorem gR_tr (h : gR M E w a s b m) (h' : gR M E w b m c e) : gR M E w a s c e := by
  obtain ⟨n, h⟩ := h
  exact gn_tr n a s h h'
theorem gR_ed {q : Ed} (hq : q ∈ E) (h : ed_ok M w s e q.2.2.1 q.2.2.2) : gR M E w q.1 s q.2.1 e := ⟨1, _, _, ⟨q, hq, rfl, rfl, h⟩, rfl, rfl⟩
theorem gR_fr {p : Nat} (hq : (a, b, 0, p) ∈ E) : gR M E w a s b s := gR_ed (q := (a, b, 0, p)) hq (show ed_ok M w s s 0 p from rfl)
theorem ed_ok_0 {p : Nat} (h : ed_ok M w s e 0 p) : e = s := h
/-- a way that begins among the edges of E2, which lead nowhere else -/
theorem gn_stay (P : Nat → Prop) (h1 : ∀ q ∈ E, P q.1 → q ∈ E2 ∧ P q.2.1) (n : Nat) : ∀ a s, P a → gn M E w n a s b e → gn M E2 w n a s b e ∧ P b := by
  induction n with
  | zero =>
    rintro a s hp ⟨rfl, rfl⟩
    exact ⟨⟨rfl, rfl⟩, hp⟩
  | succ n ih =>
    rintro a s hp ⟨c, m, ⟨q, q1, rfl, rfl, q4⟩, z2⟩
    obtain ⟨k1, k2⟩ := h1 q q1 hp
    obtain ⟨z3, z4⟩ := ih _ _ k2 z2
    exact ⟨⟨_, _, ⟨q, k1, rfl, rfl, q4⟩, z3⟩, z4⟩
/-- first E1, then one edge, then E2 -/
theorem g_then {p' P : Nat} {x y : Nat} (hE1 : ∀ q ∈ E1, q.1 < P ∧ q.2.1 < P) (hE2 : ∀ q ∈ E2, P ≤ q.1 ∧ P ≤ q.2.1) (ha : a < P) (hp : P ≤ p') (hx : x < P) (hy : P ≤ y) : gR M (E1 ++ (a, p', 0, 0) :: E2) w x s y e ↔ ∃ m, gR M E1 w x s a m ∧ gR M E2 w p' m y e := by
  constructor
  · rintro ⟨n, h⟩
    have key : ∀ n x s, x < P → gn M (E1 ++ (a, p', 0, 0) :: E2) w n x s y e → ∃ m, gR M E1 w x s a m ∧ gR M E2 w p' m y e := by
      intro n
      induction n with
      | zero =>
        rintro x s hx ⟨rfl, rfl⟩
        exact absurd hx (by omega)
      | succ n ih =>
        rintro x s hx ⟨c, m, ⟨q, q1, rfl, rfl, q4⟩, z2⟩
        rcases List.mem_append.mp q1 with q1 | q1
        · obtain ⟨m', k1, k2⟩ := ih _ _ (hE1 q q1).2 z2
          exact ⟨m', gR_tr (gR_ed q1 q4) k1, k2⟩
        · rcases List.mem_cons.mp q1 with rfl | q1
          · have hm : m = s := q4
            subst hm
            refine ⟨m, gR_rf, n, (gn_stay (E2 := E2) (fun z => P ≤ z) (fun q hq hP => ?_) n p' m hp z2).1⟩
            rcases List.mem_append.mp hq with hq | hq
            · exact absurd (hE1 q hq).1 (by omega)
            · rcases List.mem_cons.mp hq with rfl | hq
              · exact absurd ha (by simp only at hP; omega)
              · exact ⟨hq, (hE2 q hq).2⟩
          · exact absurd (hE2 q q1).1 (by omega)
    exact key n x s hx h
  · rintro ⟨m, h1, h2⟩
    exact gR_tr (gR_mono (fun q hq => List.mem_append_left _ hq) h1) (gR_tr (gR_fr (p := 0) (List.mem_append_right _ List.mem_cons_self)) (gR_mono (fun q hq => List.mem_append_right _ (List.mem_cons_of_mem _ hq)) h2))
/-- one more road from B to C -/
theorem g_alt {B C q0 : Nat} (hBC : B ≠ C) (hB : B < q0) (hC : C < q0) (hE1 : ∀ q ∈ E1, q.1 < q0 ∧ q.2.1 < q0) (hto : ∀ q ∈ E1, q.2.1 ≠ B) (hfr : ∀ q ∈ E1, q.1 ≠ C) (hE2 : ∀ q ∈ E2, q0 ≤ q.1 ∧ q0 ≤ q.2.1) (ha : q0 ≤ a) : gR M (E1 ++ (B, q0, 0, 0) :: (E2 ++ [(a, C, 0, 0)])) w B s C e ↔ gR M E1 w B s C e ∨ gR M E2 w q0 s a e := by
  have mem : ∀ q : Ed, q ∈ E1 ++ (B, q0, 0, 0) :: (E2 ++ [(a, C, 0, 0)]) ↔ q ∈ E1 ∨ q = (B, q0, 0, 0) ∨ q ∈ E2 ∨ q = (a, C, 0, 0) := fun q => by
    simp only [List.mem_append, List.mem_cons, List.not_mem_nil, or_false]
  constructor
  · rintro ⟨n, h⟩
    have atC : ∀ n s, gn M (E1 ++ (B, q0, 0, 0) :: (E2 ++ [(a, C, 0, 0)])) w n C s C e → e = s := by
      intro n s z
      cases n with
      | zero => exact z.2.symm
      | succ n =>
        obtain ⟨c, m, ⟨q, q1, q2, -⟩, -⟩ := z
        rcases (mem q).mp q1 with h | rfl | h | rfl
        · exact absurd q2 (hfr q h)
        · exact absurd q2 hBC
        · exact absurd (hE2 q h).1 (by omega)
        · exact absurd q2 (by simp only; omega)
    have fromNew : ∀ n x s, q0 ≤ x → gn M (E1 ++ (B, q0, 0, 0) :: (E2 ++ [(a, C, 0, 0)])) w n x s C e → gR M E2 w x s a e := by
      intro n
      induction n with
      | zero =>
        rintro x s hx ⟨rfl, rfl⟩
        exact absurd hx (by omega)
      | succ n ih =>
        rintro x s hx ⟨c, m, ⟨q, q1, rfl, rfl, q4⟩, z2⟩
        rcases (mem q).mp q1 with h | rfl | h | rfl
        · exact absurd (hE1 q h).1 (by omega)
        · exact absurd hx (by simp only; omega)
        · exact gR_tr (gR_ed h q4) (ih _ _ (hE2 q h).2 z2)
        · have hm : m = s := q4
          subst hm
          have := atC n m z2
          subst this
          exact gR_rf
    have fromOld : ∀ n x s, x < q0 → x ≠ B → gn M (E1 ++ (B, q0, 0, 0) :: (E2 ++ [(a, C, 0, 0)])) w n x s C e → gR M E1 w x s C e := by
      intro n
      induction n with
      | zero =>
        rintro x s hx hB' ⟨rfl, rfl⟩
        exact gR_rf
      | succ n ih =>
        rintro x s hx hB' ⟨c, m, ⟨q, q1, rfl, rfl, q4⟩, z2⟩
        rcases (mem q).mp q1 with h | rfl | h | rfl
        · exact gR_tr (gR_ed h q4) (ih _ _ (hE1 q h).2 (hto q h) z2)
        · exact absurd rfl hB'
        · exact absurd (hE2 q h).1 (by omega)
        · exact absurd hx (by simp only; omega)
    cases n with
    | zero => exact absurd h.1 hBC
    | succ n =>
      obtain ⟨c, m, ⟨q, q1, q2, rfl, q4⟩, z2⟩ := h
      rcases (mem q).mp q1 with h | rfl | h | rfl
      · exact Or.inl (gR_tr (by rw [← q2]; exact gR_ed h q4) (fromOld n _ _ (hE1 q h).2 (hto q h) z2))
      · have hm : m = s := q4
        subst hm
        exact Or.inr (fromNew n _ _ (Nat.le_refl q0) z2)
      · exact absurd (hE2 q h).1 (by omega)
      · simp only at q2
        omega
  · rintro (h | h)
    · exact gR_mono (fun q hq => (mem q).mpr (Or.inl hq)) h
    · exact gR_tr (gR_fr (p := 0) ((mem _).mpr (Or.inr (Or.inl rfl)))) (gR_tr (gR_mono (fun q hq => (mem q).mpr (Or.inr (Or.inr (Or.inl hq)))) h) (gR_fr (p := 0) ((mem _).mpr (Or.inr (Or.inr (Or.inr rfl))))))
/-- roads from B to C become a piece from O to X -/
theorem g_grp {O B C X : Nat} (hE : ∀ q ∈ E, q.1 ≠ O ∧ q.2.1 ≠ O ∧ q.1 ≠ X ∧ q.2.1 ≠ X ∧ q.1 ≠ C) (hOX : O ≠ X) (hOC : O ≠ C) (hBO : B ≠ O) (hBX : B ≠ X) (hCX : C ≠ X) : gR M ((O, B, 0, 0) :: (E ++ [(C, X, 0, 0)])) w O s X e ↔ gR M E w B s C e := by
  have mem : ∀ q : Ed, q ∈ (O, B, 0, 0) :: (E ++ [(C, X, 0, 0)]) ↔ q = (O, B, 0, 0) ∨ q ∈ E ∨ q = (C, X, 0, 0) := fun q => by
    simp only [List.mem_append, List.mem_cons, List.not_mem_nil, or_false]
  constructor
  · rintro ⟨n, h⟩
    have atX : ∀ n s, gn M ((O, B, 0, 0) :: (E ++ [(C, X, 0, 0)])) w n X s X e → e = s := by
      intro n s z
      cases n with
      | zero => exact z.2.symm
      | succ n =>
        obtain ⟨c, m, ⟨q, q1, q2, -⟩, -⟩ := z
        rcases (mem q).mp q1 with rfl | h | rfl
        · exact absurd q2 hOX
        · exact absurd q2 (hE q h).2.2.1
        · exact absurd q2 hCX
    have from' : ∀ n x s, x ≠ O → x ≠ X → gn M ((O, B, 0, 0) :: (E ++ [(C, X, 0, 0)])) w n x s X e → gR M E w x s C e := by
      intro n
      induction n with
      | zero =>
        rintro x s h1 h2 ⟨rfl, rfl⟩
        exact absurd rfl h2
      | succ n ih =>
        rintro x s h1 h2 ⟨c, m, ⟨q, q1, rfl, rfl, q4⟩, z2⟩
        rcases (mem q).mp q1 with rfl | h | rfl
        · exact absurd rfl h1
        · exact gR_tr (gR_ed h q4) (ih _ _ (hE q h).2.1 (hE q h).2.2.2.1 z2)
        · have hm : m = s := q4
          subst hm
          have := atX n m z2
          subst this
          exact gR_rf
    cases n with
    | zero => exact absurd h.1 hOX
    | succ n =>
      obtain ⟨c, m, ⟨q, q1, q2, rfl, q4⟩, z2⟩ := h
      rcases (mem q).mp q1 with rfl | h | rfl
      · have hm : m = s := q4
        subst hm
        exact from' n _ _ hBO hBX z2
      · exact absurd q2 (hE q h).1
      · exact absurd q2.symm hOC
  · intro h
    exact gR_tr (gR_fr (p := 0) ((mem _).mpr (Or.inl rfl))) (gR_tr (gR_mono (fun q hq => (mem q).mpr (Or.inr (Or.inl hq))) h) (gR_fr (p := 0) ((mem _).mpr (Or.inr (Or.inr rfl)))))
/-- a piece with a road past it (sk) and a road back (lp) -/
def g_F (R : Nat → Nat → Prop) (sk lp : Bool) (s e : Nat) : Prop := match sk, lp with
  | false, false => R s e
  | true, false => e = s ∨ R s e
  | false, true => ∃ k, rl_pow R (k + 1) s e
  | true, true => ∃ k, rl_pow R k s e
theorem rl_1 {R : Nat → Nat → Prop} {s e : Nat} (h : R s e) : rl_pow R 1 s e := ⟨e, h, rfl⟩
theorem rl_ap {R : Nat → Nat → Prop} {m e : Nat} (j : Nat) : ∀ (k s : Nat), rl_pow R k s m → rl_pow R j m e → rl_pow R (k + j) s e := by
  intro k
  induction k with
  | zero =>
    rintro s h1 h2
    cases h1
    rw [Nat.zero_add]
    exact h2
  | succ k ih =>
    rintro s ⟨m', h1, h3⟩ h2
    rw [Nat.succ_add]
    exact ⟨m', h1, ih m' h3 h2⟩
theorem g_F_step {R : Nat → Nat → Prop} {sk lp : Bool} {s m e : Nat} (h : R s m) (h2 : e = m ∨ (lp = true ∧ g_F R sk lp m e)) : g_F R sk lp s e := by
  cases lp with
  | false =>
    have : e = m := h2.elim id (fun z => by cases z.1)
    subst this
    cases sk with
    | false => exact h
    | true => exact Or.inr h
  | true =>
    cases sk with
    | false =>
      rcases h2 with rfl | ⟨-, k, hk⟩
      · exact ⟨0, rl_1 h⟩
      · exact ⟨k + 1, m, h, hk⟩
    | true =>
      rcases h2 with rfl | ⟨-, k, hk⟩
      · exact ⟨1, rl_1 h⟩
      · exact ⟨k + 1, m, h, hk⟩
theorem g_F_skip {R : Nat → Nat → Prop} {lp : Bool} {s e : Nat} (h2 : e = s ∨ (lp = true ∧ g_F R true lp s e)) : g_F R true lp s e := by
  cases lp with
  | false =>
    have : e = s := h2.elim id (fun z => by cases z.1)
    exact Or.inl this
  | true =>
    rcases h2 with rfl | ⟨-, h⟩
    · exact ⟨0, rfl⟩
    · exact h
theorem g_rep {X : List Ed} {p : Nat} {sk lp : Bool} (hpa : p ≠ a) (hto : ∀ q ∈ E, q.2.1 ≠ p) (hfr : ∀ q ∈ E, q.1 ≠ a) (hX : ∀ q ∈ X, (q = (p, a, 0, 0) ∧ sk = true) ∨ (q = (a, p, 0, 0) ∧ lp = true)) (hsk : sk = true → (p, a, 0, 0) ∈ X) (hlp : lp = true → (a, p, 0, 0) ∈ X) : gR M (E ++ X) w p s a e ↔ g_F (fun s e => gR M E w p s a e) sk lp s e := by
  have hb : ∀ n s m, gn M E w n a s a m → m = s := by
    intro n s m z
    cases n with
    | zero => exact z.2.symm
    | succ n =>
      obtain ⟨c, m', ⟨q, q1, q2, -⟩, -⟩ := z
      exact absurd q2 (hfr q q1)
  constructor
  · rintro ⟨n, h⟩
    have key : ∀ n x s, gn M (E ++ X) w n x s a e → (∃ m, gR M E w x s a m ∧ (e = m ∨ (lp = true ∧ g_F (fun s e => gR M E w p s a e) sk lp m e))) ∨ (x = p ∧ sk = true ∧ (e = s ∨ (lp = true ∧ g_F (fun s e => gR M E w p s a e) sk lp s e))) := by
      intro n
      induction n with
      | zero =>
        rintro x s ⟨rfl, rfl⟩
        exact Or.inl ⟨s, gR_rf, Or.inl rfl⟩
      | succ n ih =>
        rintro x s ⟨c, m, ⟨q, q1, rfl, rfl, q4⟩, z2⟩
        have h2 := ih _ _ z2
        rcases List.mem_append.mp q1 with q1 | q1
        · rcases h2 with ⟨m', k1, k2⟩ | ⟨k1, -⟩
          · exact Or.inl ⟨m', gR_tr (gR_ed q1 q4) k1, k2⟩
          · exact absurd k1 (hto q q1)
        · rcases hX q q1 with ⟨rfl, hs⟩ | ⟨rfl, hs⟩
          · have hm : m = s := q4
            subst hm
            simp only at h2
            rcases h2 with ⟨m', ⟨k, k1⟩, k2⟩ | ⟨k1, -⟩
            · have := hb k _ _ k1
              subst this
              exact Or.inr ⟨rfl, hs, k2⟩
            · exact absurd k1.symm hpa
          · have hm : m = s := q4
            subst hm
            simp only at h2
            refine Or.inl ⟨m, gR_rf, Or.inr ⟨hs, ?_⟩⟩
            rcases h2 with ⟨m', k1, k2⟩ | ⟨-, k1, k2⟩
            · exact g_F_step k1 k2
            · subst k1
              exact g_F_skip k2
    rcases key n p s h with ⟨m, k1, k2⟩ | ⟨-, k1, k2⟩
    · exact g_F_step k1 k2
    · subst k1
      exact g_F_skip k2
  · have base : ∀ s e, gR M E w p s a e → gR M (E ++ X) w p s a e := fun s e h => gR_mono (fun q hq => List.mem_append_left _ hq) h
    have back : lp = true → ∀ s, gR M (E ++ X) w a s p s := fun h s => gR_fr (p := 0) (List.mem_append_right _ (hlp h))
    have pow : lp = true → ∀ k s e, rl_pow (fun s e => gR M E w p s a e) (k + 1) s e → gR M (E ++ X) w p s a e := by
      intro hl k
      induction k with
      | zero =>
        rintro s e ⟨m, h1, h2⟩
        cases h2
        exact base _ _ h1
      | succ k ih =>
        rintro s e ⟨m, h1, h2⟩
        exact gR_tr (base _ _ h1) (gR_tr (back hl m) (ih m e h2))
    intro h
    cases sk with
    | false =>
      cases lp with
      | false => exact base _ _ h
      | true => obtain ⟨k, hk⟩ := h; exact pow rfl k s e hk
    | true =>
      have skip : ∀ s, gR M (E ++ X) w p s a s := fun s => gR_fr (p := 0) (List.mem_append_right _ (hsk rfl))
      cases lp with
      | false =>
        rcases h with rfl | h
        · exact skip _
        · exact base _ _ h
      | true =>
        obtain ⟨k, hk⟩ := h
        cases k with
        | zero => cases hk; exact skip _
        | succ k => exact pow rfl k s e hk
/-- what a repeating sign does to the two roads -/
theorem g_F_6 {R : Nat → Nat → Prop} {sk lp : Bool} {s e : Nat} : (∃ k, rl_pow (g_F R sk lp) k s e) ↔ g_F R true true s e := by
  have inc : ∀ s e, g_F R sk lp s e → ∃ k, rl_pow R k s e := by
    intro s e h
    cases sk <;> cases lp
    · exact ⟨1, rl_1 h⟩
    · obtain ⟨k, hk⟩ := h; exact ⟨k + 1, hk⟩
    · rcases h with rfl | h
      · exact ⟨0, rfl⟩
      · exact ⟨1, rl_1 h⟩
    · exact h
  have inc2 : ∀ s e, R s e → g_F R sk lp s e := by
    intro s e h
    cases sk <;> cases lp
    · exact h
    · exact ⟨0, rl_1 h⟩
    · exact Or.inr h
    · exact ⟨1, rl_1 h⟩
  constructor
  · rintro ⟨k, h⟩
    induction k generalizing s with
    | zero => cases h; exact ⟨0, rfl⟩
    | succ k ih =>
      obtain ⟨m, h1, h2⟩ := h
      obtain ⟨j, hj⟩ := inc _ _ h1
      obtain ⟨j2, hj2⟩ := ih h2
      exact ⟨j + j2, rl_ap j2 j s hj hj2⟩
  · rintro ⟨k, h⟩
    induction k generalizing s with
    | zero => cases h; exact ⟨0, rfl⟩
    | succ k ih =>
      obtain ⟨m, h1, h2⟩ := h
      obtain ⟨j, hj⟩ := ih h2
      exact ⟨j + 1, m, inc2 _ _ h1, hj⟩
theorem g_F_7 {R : Nat → Nat → Prop} {sk lp : Bool} {s e : Nat} : (∃ k, rl_pow (g_F R sk lp) (k + 1) s e) ↔ g_F R sk true s e := by
  cases sk with
  | true =>
    rw [show g_F R true true s e ↔ ∃ k, rl_pow (g_F R true lp) k s e from g_F_6.symm]
    constructor
    · rintro ⟨k, h⟩; exact ⟨k + 1, h⟩
    · rintro ⟨k, h⟩
      cases k with
      | zero =>
        cases h
        refine ⟨0, rl_1 ?_⟩
        cases lp
        · exact Or.inl rfl
        · exact ⟨0, rfl⟩
      | succ k => exact ⟨k, h⟩
  | false =>
    cases lp with
    | false => exact Iff.rfl
    | true =>
      constructor
      · rintro ⟨k, h⟩
        induction k generalizing s with
        | zero => obtain ⟨m, h1, h2⟩ := h; cases h2; exact h1
        | succ k ih =>
          obtain ⟨m, ⟨j, hj⟩, h2⟩ := h
          obtain ⟨j2, hj2⟩ := ih h2
          exact ⟨j + j2 + 1, by
            have := rl_ap (j2 + 1) (j + 1) s hj hj2
            rwa [show j + 1 + (j2 + 1) = j + j2 + 1 + 1 by omega] at this⟩
      · intro h
        exact ⟨0, rl_1 h⟩
theorem g_F_8 {R : Nat → Nat → Prop} {sk lp : Bool} {s e : Nat} : (e = s ∨ g_F R sk lp s e) ↔ g_F R true lp s e := by
  cases sk <;> cases lp
  · exact Iff.rfl
  · constructor
    · rintro (rfl | ⟨k, h⟩)
      · exact ⟨0, rfl⟩
      · exact ⟨k + 1, h⟩
    · rintro ⟨k, h⟩
      cases k with
      | zero => exact Or.inl h
      | succ k => exact Or.inr ⟨k, h⟩
  · constructor
    · rintro (h | h)
      · exact Or.inl h
      · exact h
    · exact Or.inr
  · constructor
    · rintro (rfl | h)
      · exact ⟨0, rfl⟩
      · exact h
    · exact Or.inr
end
