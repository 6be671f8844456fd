/-! paths over atoms, and relations on places -/
def rl_pow (R : Nat → Nat → Prop) : Nat → Nat → Nat → Prop
  | 0, s, e => e = s
  | n + 1, s, e => ∃ m, R s m ∧ rl_pow R n m e
/-- T s p: atom p takes the sign at s; a path of n steps from atom p at s to atom q -/
def gp (T FO : Nat → Nat → Prop) : Nat → Nat → Nat → Nat → Prop
  | 0, s, p, q => p = q ∧ T s p
  | n + 1, s, p, q => T s p ∧ ∃ p', FO p p' ∧ gp T FO n (s + 1) p' q
def GA (T FO : Nat → Nat → Prop) (F L : Nat → Prop) (s e : Nat) : Prop := ∃ n p q, e = s + n + 1 ∧ F p ∧ gp T FO n s p q ∧ L q
theorem gp_mono {T FO FO' : Nat → Nat → Prop} (h : ∀ a b, FO a b → FO' a b) : ∀ (n s p q : Nat), gp T FO n s p q → gp T FO' n s p q := by
  intro n
  induction n with
  | zero => exact fun s p q z => z
  | succ n ih => exact fun s p q ⟨z1, p', z2, z3⟩ => ⟨z1, p', h _ _ z2, ih _ _ _ z3⟩
theorem GA_mono {T FO FO' : Nat → Nat → Prop} {F F' L L' : Nat → Prop} {s e : Nat} (h : ∀ a b, FO a b → FO' a b) (hF : ∀ a, F a → F' a) (hL : ∀ a, L a → L' a) : GA T FO F L s e → GA T FO' F' L' s e :=
  fun ⟨n, p, q, h1, h2, h3, h4⟩ => ⟨n, p, q, h1, hF p h2, gp_mono h n s p q h3, hL q h4⟩
theorem gp_app {T FO : Nat → Nat → Prop} {n2 p2 q2 : Nat} : ∀ (n s p q : Nat), gp T FO n s p q → FO q p2 → gp T FO n2 (s + n + 1) p2 q2 → gp T FO (n + n2 + 1) s p q2 := by
  intro n
  induction n with
  | zero =>
    intro s p q h h2 h3
    rw [Nat.zero_add]
    obtain ⟨rfl, h1⟩ := h
    exact ⟨h1, p2, h2, h3⟩
  | succ n ih =>
    intro s p q h h2 h3
    obtain ⟨h1, p', h4, h5⟩ := h
    rw [show n + 1 + n2 + 1 = (n + n2 + 1) + 1 by omega]
    exact ⟨h1, p', h4, ih _ _ _ h5 h2 (by rwa [show s + 1 + n + 1 = s + (n + 1) + 1 by omega])⟩
theorem GA_app {T FO : Nat → Nat → Prop} {F L F2 L2 : Nat → Prop} {s m e : Nat} (h1 : GA T FO F L s m) (h2 : GA T FO F2 L2 m e) (hl : ∀ a b, L a → F2 b → FO a b) : GA T FO F L2 s e := by
  obtain ⟨n, p, q, a1, a2, a3, a4⟩ := h1
  obtain ⟨n', p', q', b1, b2, b3, b4⟩ := h2
  subst a1
  exact ⟨n + n' + 1, p, q', by omega, a2, gp_app n s p q a3 (hl _ _ a4 b2) b3, b4⟩
/-- a path that cannot leave: within one part -/
theorem gp_stay {T FO FO' : Nat → Nat → Prop} {R : Nat → Prop} (h : ∀ a b, R a → FO a b → FO' a b ∧ R b) : ∀ (n s p q : Nat), R p → gp T FO n s p q → gp T FO' n s p q ∧ R q := by
  intro n
  induction n with
  | zero => exact fun s p q hp ⟨z1, z2⟩ => ⟨⟨z1, z2⟩, by rw [← z1]; exact hp⟩
  | succ n ih =>
    intro s p q hp ⟨z1, p', z2, z3⟩
    obtain ⟨u1, u2⟩ := h _ _ hp z2
    obtain ⟨v1, v2⟩ := ih _ _ _ u2 z3
    exact ⟨⟨z1, p', u1, v1⟩, v2⟩
/-- a path that may leave its part once, or over and over: up to its first leaving -/
theorem gp_cut {T FO FO' : Nat → Nat → Prop} {R L F : Nat → Prop} (h : ∀ a b, R a → FO a b → (FO' a b ∧ R b) ∨ (L a ∧ F b)) : ∀ (n s p q : Nat), R p → gp T FO n s p q → (gp T FO' n s p q ∧ R q) ∨ ∃ n1 n2 q1 p2, n = n1 + n2 + 1 ∧ gp T FO' n1 s p q1 ∧ L q1 ∧ F p2 ∧ gp T FO n2 (s + n1 + 1) p2 q := by
  intro n
  induction n with
  | zero => exact fun s p q hp ⟨z1, z2⟩ => .inl ⟨⟨z1, z2⟩, by rw [← z1]; exact hp⟩
  | succ n ih =>
    intro s p q hp ⟨z1, p', z2, z3⟩
    rcases h _ _ hp z2 with ⟨u1, u2⟩ | ⟨u1, u2⟩
    · rcases ih _ _ _ u2 z3 with ⟨v1, v2⟩ | ⟨n1, n2, q1, p2, v1, v2, v3, v4, v5⟩
      · exact .inl ⟨⟨z1, p', u1, v1⟩, v2⟩
      · exact .inr ⟨n1 + 1, n2, q1, p2, by omega, ⟨z1, p', u1, v2⟩, v3, v4, by rwa [show s + (n1 + 1) + 1 = s + 1 + n1 + 1 by omega]⟩
    · exact .inr ⟨0, n, p, p', by omega, ⟨rfl, z1⟩, u1, u2, z3⟩
/-- what a part means: empty parts by kind of place, or paths -/
def gm (T : Nat → Nat → Prop) (n : Nat) (FO : Nat → Nat → Prop) (E : Nat → Prop) (F L : Nat → Nat → Prop) (s e : Nat) : Prop := (e = s ∧ E (pq_of s n)) ∨ GA T FO (F (pq_of s n)) (L (pq_of e n)) s e
theorem GA_lt {T FO : Nat → Nat → Prop} {F L : Nat → Prop} {s e : Nat} (h : GA T FO F L s e) : s < e := by
  obtain ⟨n, -, -, h, -⟩ := h
  omega
theorem pq_in {s n : Nat} (h : 0 < s) (h2 : s < n) : pq_of s n = 0 := by
  unfold pq_of
  rw [if_neg (by omega), if_neg (by omega)]
section
variable {T : Nat → Nat → Prop} {n : Nat} {X Y : Nat → Nat → Prop} {FO FO1 FO2 : Nat → Nat → Prop} {E E1 E2 : Nat → Prop} {F F1 F2 L L1 L2 : Nat → Nat → Prop} {R1 R2 : Nat → Prop}
/-- one behind the other -/
theorem gm_then (hX : ∀ s e, s ≤ n → e ≤ n → (X s e ↔ gm T n FO1 E1 F1 L1 s e)) (hY : ∀ s e, s ≤ n → e ≤ n → (Y s e ↔ gm T n FO2 E2 F2 L2 s e)) (hXn : ∀ s e, X s e → s ≤ n → e ≤ n)
    (hR : ∀ a, R1 a → R2 a → False) (r1 : ∀ u a, F1 u a → R1 a) (r2 : ∀ u a, L1 u a → R1 a) (r3 : ∀ a b, FO1 a b → R1 a ∧ R1 b) (r4 : ∀ u a, F2 u a → R2 a) (r5 : ∀ u a, L2 u a → R2 a) (r6 : ∀ a b, FO2 a b → R2 a ∧ R2 b)
    (hE : ∀ u, E u ↔ E1 u ∧ E2 u) (hF : ∀ u a, F u a ↔ F1 u a ∨ (E1 u ∧ F2 u a)) (hL : ∀ u a, L u a ↔ L2 u a ∨ (E2 u ∧ L1 u a)) (hFO : ∀ a b, FO a b ↔ FO1 a b ∨ FO2 a b ∨ (L1 0 a ∧ F2 0 b)) :
    ∀ s e, s ≤ n → e ≤ n → ((∃ m, X s m ∧ Y m e) ↔ gm T n FO E F L s e) := by
  intro s e hs he
  have i1 : ∀ a b, FO1 a b → FO a b := fun a b h => (hFO a b).mpr (.inl h)
  have i2 : ∀ a b, FO2 a b → FO a b := fun a b h => (hFO a b).mpr (.inr (.inl h))
  constructor
  · rintro ⟨m, h1, h2⟩
    have hm := hXn _ _ h1 hs
    rcases (hX s m hs hm).mp h1 with ⟨rfl, x1⟩ | x1
    · rcases (hY m e hm he).mp h2 with ⟨rfl, y1⟩ | y1
      · exact .inl ⟨rfl, (hE _).mpr ⟨x1, y1⟩⟩
      · exact .inr (GA_mono i2 (fun a h => (hF _ a).mpr (.inr ⟨x1, h⟩)) (fun a h => (hL _ a).mpr (.inl h)) y1)
    · rcases (hY m e hm he).mp h2 with ⟨rfl, y1⟩ | y1
      · exact .inr (GA_mono i1 (fun a h => (hF _ a).mpr (.inl h)) (fun a h => (hL _ a).mpr (.inr ⟨y1, h⟩)) x1)
      · have l1 := GA_lt x1
        have l2 := GA_lt y1
        have hk : pq_of m n = 0 := pq_in (by omega) (by omega)
        refine .inr (GA_app (GA_mono i1 (fun a h => (hF _ a).mpr (.inl h)) (fun a h => h) x1) (GA_mono i2 (fun a h => h) (fun a h => (hL _ a).mpr (.inl h)) y1) (fun a b ha hb => ?_))
        rw [hk] at ha hb
        exact (hFO a b).mpr (.inr (.inr ⟨ha, hb⟩))
  · rintro (⟨rfl, h⟩ | ⟨k, p, q, h1, h2, h3, h4⟩)
    · obtain ⟨x1, x2⟩ := (hE _).mp h
      exact ⟨e, (hX e e hs hs).mpr (.inl ⟨rfl, x1⟩), (hY e e hs hs).mpr (.inl ⟨rfl, x2⟩)⟩
    · have st2 : ∀ a b, R2 a → FO a b → FO2 a b ∧ R2 b := fun a b ha hf => by
        rcases (hFO a b).mp hf with z | z | z
        · exact (hR a (r3 a b z).1 ha).elim
        · exact ⟨z, (r6 a b z).2⟩
        · exact (hR a (r2 _ _ z.1) ha).elim
      have ct : ∀ a b, R1 a → FO a b → (FO1 a b ∧ R1 b) ∨ (L1 0 a ∧ F2 0 b) := fun a b ha hf => by
        rcases (hFO a b).mp hf with z | z | z
        · exact .inl ⟨z, (r3 a b z).2⟩
        · exact (hR a ha (r6 a b z).1).elim
        · exact .inr z
      rcases (hF _ _).mp h2 with h2 | ⟨hE1, h2⟩
      · rcases gp_cut ct k s p q (r1 _ _ h2) h3 with ⟨v1, v2⟩ | ⟨n1, n2, q1, p2, v1, v2, v3, v4, v5⟩
        · rcases (hL _ _).mp h4 with h4 | ⟨hE2, h4⟩
          · exact (hR q v2 (r5 _ _ h4)).elim
          · exact ⟨e, (hX s e hs he).mpr (.inr ⟨k, p, q, h1, h2, v1, h4⟩), (hY e e he he).mpr (.inl ⟨rfl, hE2⟩)⟩
        · obtain ⟨u1, u2⟩ := gp_stay st2 n2 _ _ _ (r4 _ _ v4) v5
          have hk : pq_of (s + n1 + 1) n = 0 := pq_in (by omega) (by omega)
          rcases (hL _ _).mp h4 with h4 | ⟨hE2, h4⟩
          · exact ⟨s + n1 + 1, (hX _ _ hs (by omega)).mpr (.inr ⟨n1, p, q1, rfl, h2, v2, by rw [hk]; exact v3⟩), (hY _ _ (by omega) he).mpr (.inr ⟨n2, p2, q, by omega, by rw [hk]; exact v4, u1, h4⟩)⟩
          · exact (hR q (r2 _ _ h4) u2).elim
      · obtain ⟨u1, u2⟩ := gp_stay st2 k _ _ _ (r4 _ _ h2) h3
        rcases (hL _ _).mp h4 with h4 | ⟨hE2, h4⟩
        · exact ⟨s, (hX s s hs hs).mpr (.inl ⟨rfl, hE1⟩), (hY s e hs he).mpr (.inr ⟨k, p, q, h1, h2, u1, h4⟩)⟩
        · exact (hR q (r2 _ _ h4) u2).elim
/-- either -/
theorem gm_or (hX : ∀ s e, s ≤ n → e ≤ n → (X s e ↔ gm T n FO1 E1 F1 L1 s e)) (hY : ∀ s e, s ≤ n → e ≤ n → (Y s e ↔ gm T n FO2 E2 F2 L2 s e))
    (hR : ∀ a, R1 a → R2 a → False) (r1 : ∀ u a, F1 u a → R1 a) (r2 : ∀ u a, L1 u a → R1 a) (r3 : ∀ a b, FO1 a b → R1 a ∧ R1 b) (r4 : ∀ u a, F2 u a → R2 a) (r5 : ∀ u a, L2 u a → R2 a) (r6 : ∀ a b, FO2 a b → R2 a ∧ R2 b)
    (hE : ∀ u, E u ↔ E1 u ∨ E2 u) (hF : ∀ u a, F u a ↔ F1 u a ∨ F2 u a) (hL : ∀ u a, L u a ↔ L1 u a ∨ L2 u a) (hFO : ∀ a b, FO a b ↔ FO1 a b ∨ FO2 a b) :
    ∀ s e, s ≤ n → e ≤ n → ((X s e ∨ Y s e) ↔ gm T n FO E F L s e) := by
  intro s e hs he
  have i1 : ∀ a b, FO1 a b → FO a b := fun a b h => (hFO a b).mpr (.inl h)
  have i2 : ∀ a b, FO2 a b → FO a b := fun a b h => (hFO a b).mpr (.inr h)
  constructor
  · rintro (h | h)
    · rcases (hX s e hs he).mp h with ⟨x1, x2⟩ | x
      · exact .inl ⟨x1, (hE _).mpr (.inl x2)⟩
      · exact .inr (GA_mono i1 (fun a h => (hF _ a).mpr (.inl h)) (fun a h => (hL _ a).mpr (.inl h)) x)
    · rcases (hY s e hs he).mp h with ⟨x1, x2⟩ | x
      · exact .inl ⟨x1, (hE _).mpr (.inr x2)⟩
      · exact .inr (GA_mono i2 (fun a h => (hF _ a).mpr (.inr h)) (fun a h => (hL _ a).mpr (.inr h)) x)
  · rintro (⟨h1, h2⟩ | ⟨k, p, q, h1, h2, h3, h4⟩)
    · rcases (hE _).mp h2 with h2 | h2
      · exact .inl ((hX s e hs he).mpr (.inl ⟨h1, h2⟩))
      · exact .inr ((hY s e hs he).mpr (.inl ⟨h1, h2⟩))
    · have st1 : ∀ a b, R1 a → FO a b → FO1 a b ∧ R1 b := fun a b ha hf => by
        rcases (hFO a b).mp hf with z | z
        · exact ⟨z, (r3 a b z).2⟩
        · exact (hR a ha (r6 a b z).1).elim
      have st2 : ∀ a b, R2 a → FO a b → FO2 a b ∧ R2 b := fun a b ha hf => by
        rcases (hFO a b).mp hf with z | z
        · exact (hR a (r3 a b z).1 ha).elim
        · exact ⟨z, (r6 a b z).2⟩
      rcases (hF _ _).mp h2 with h2 | h2
      · obtain ⟨u1, u2⟩ := gp_stay st1 k _ _ _ (r1 _ _ h2) h3
        rcases (hL _ _).mp h4 with h4 | h4
        · exact .inl ((hX s e hs he).mpr (.inr ⟨k, p, q, h1, h2, u1, h4⟩))
        · exact (hR q u2 (r5 _ _ h4)).elim
      · obtain ⟨u1, u2⟩ := gp_stay st2 k _ _ _ (r4 _ _ h2) h3
        rcases (hL _ _).mp h4 with h4 | h4
        · exact (hR q (r2 _ _ h4) u2).elim
        · exact .inr ((hY s e hs he).mpr (.inr ⟨k, p, q, h1, h2, u1, h4⟩))
/-- times: paths from powers -/
theorem gm_pow (hX : ∀ s e, s ≤ n → e ≤ n → (X s e ↔ gm T n FO1 E1 F1 L1 s e)) (hXn : ∀ s e, X s e → s ≤ n → e ≤ n) (hFO : ∀ a b, FO a b ↔ FO1 a b ∨ (L1 0 a ∧ F1 0 b)) :
    ∀ (k s e : Nat), s ≤ n → rl_pow X k s e → e ≤ n ∧ (e = s ∨ GA T FO (F1 (pq_of s n)) (L1 (pq_of e n)) s e) := by
  have i1 : ∀ a b, FO1 a b → FO a b := fun a b h => (hFO a b).mpr (.inl h)
  intro k
  induction k with
  | zero => exact fun s e hs h => ⟨by rw [show e = s from h]; exact hs, .inl h⟩
  | succ k ih =>
    rintro s e hs ⟨m, h1, h2⟩
    have hm := hXn _ _ h1 hs
    obtain ⟨he, h3⟩ := ih m e hm h2
    refine ⟨he, ?_⟩
    rcases (hX s m hs hm).mp h1 with ⟨rfl, -⟩ | x1
    · exact h3
    · have x2 := GA_mono i1 (fun a h => h) (fun a h => h) x1
      rcases h3 with rfl | h3
      · exact .inr x2
      · have l1 := GA_lt x1
        have l2 := GA_lt h3
        have hk : pq_of m n = 0 := pq_in (by omega) (by omega)
        refine .inr (GA_app x2 h3 (fun a b ha hb => ?_))
        rw [hk] at ha hb
        exact (hFO a b).mpr (.inr ⟨ha, hb⟩)
/-- times: powers from paths -/
theorem gm_wop (hX : ∀ s e, s ≤ n → e ≤ n → (X s e ↔ gm T n FO1 E1 F1 L1 s e)) (r1 : ∀ u a, F1 u a → R1 a) (r3 : ∀ a b, FO1 a b → R1 a ∧ R1 b) (hFO : ∀ a b, FO a b ↔ FO1 a b ∨ (L1 0 a ∧ F1 0 b)) :
    ∀ (f k s p q : Nat), k < f → s + k + 1 ≤ n → F1 (pq_of s n) p → gp T FO k s p q → L1 (pq_of (s + k + 1) n) q → ∃ j, rl_pow X (j + 1) s (s + k + 1) := by
  have ct : ∀ a b, R1 a → FO a b → (FO1 a b ∧ R1 b) ∨ (L1 0 a ∧ F1 0 b) := fun a b ha hf => by
    rcases (hFO a b).mp hf with z | z
    · exact .inl ⟨z, (r3 a b z).2⟩
    · exact .inr z
  intro f
  induction f with
  | zero => exact fun k s p q h => absurd h (Nat.not_lt_zero _)
  | succ f ih =>
    intro k s p q hk hn h2 h3 h4
    rcases gp_cut ct k s p q (r1 _ _ h2) h3 with ⟨v1, v2⟩ | ⟨n1, n2, q1, p2, v1, v2, v3, v4, v5⟩
    · exact ⟨0, s + k + 1, (hX _ _ (by omega) hn).mpr (.inr ⟨k, p, q, rfl, h2, v1, h4⟩), rfl⟩
    · have hm : pq_of (s + n1 + 1) n = 0 := pq_in (by omega) (by omega)
      have he : s + k + 1 = s + n1 + 1 + n2 + 1 := by omega
      rw [he] at h4
      obtain ⟨j, hj⟩ := ih n2 (s + n1 + 1) p2 q (by omega) (by omega) (by rw [hm]; exact v4) v5 h4
      exact ⟨j + 1, s + n1 + 1, (hX _ _ (by omega) (by omega)).mpr (.inr ⟨n1, p, q1, rfl, h2, v2, by rw [hm]; exact v3⟩), by rw [he]; exact hj⟩
end
