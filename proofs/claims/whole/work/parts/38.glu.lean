/-! nodes as relations; nodes as automata; both are one -/
def nr_st (A : RdA) (X : Nat → Rel) (q : Nat × Nat × Nat) : Rel := fun w s e =>
  if q.1 = 1 then e = s ∧ s = 0
  else if q.1 = 2 then e = s ∧ s = w.length
  else if q.1 = 3 then s < w.length ∧ e = s + 1 ∧ rd_a A q.2.1 (sg_of w s) = true
  else if q.1 = 4 then ∃ m, X q.2.1 w s m ∧ X q.2.2 w m e
  else if q.1 = 5 then X q.2.1 w s e ∨ X q.2.2 w s e
  else if q.1 = 6 then ∃ k, rl_pow (X q.2.1 w) k s e
  else if q.1 = 7 then ∃ k, rl_pow (X q.2.1 w) (k + 1) s e
  else if q.1 = 8 then e = s ∨ X q.2.1 w s e
  else e = s
def nr_pre (A : RdA) (N : RdN) : Nat → Nat → Rel
  | 0 => fun _ _ _ _ => False
  | k + 1 => fun j => if j = k then nr_st A (nr_pre A N k) (rd_n N k) else nr_pre A N k j
def nr (A : RdA) (N : RdN) : Nat → Rel := nr_pre A N N.length
theorem nr_mono {A : RdA} {N : RdN} {j k : Nat} (hj : j < k) (d : Nat) : nr_pre A N (k + d) j = nr_pre A N k j := by
  induction d with
  | zero => rfl
  | succ d ih =>
    rw [← ih]
    show (if j = k + d then _ else _) = _
    rw [if_neg (by omega)]
    rfl
theorem nr_mono2 {A : RdA} {N : RdN} {j k k' : Nat} (hj : j < k) (h : k ≤ k') : nr_pre A N k' j = nr_pre A N k j := by
  have := nr_mono (A := A) (N := N) hj (k' - k)
  rwa [show k + (k' - k) = k' by omega] at this
theorem nr_st_co {A : RdA} {m k : Nat} {X X' : Nat → Rel} {q : Nat × Nat × Nat} (hq : nd_q m k q) (h : ∀ j, j < k → X j = X' j) : nr_st A X q = nr_st A X' q := by
  obtain ⟨q1, q2, q3⟩ := q
  obtain ⟨o1, o2, o3, o4⟩ := hq
  simp only at o1 o2 o3 o4
  have hc : q1 = 0 ∨ q1 = 1 ∨ q1 = 2 ∨ q1 = 3 ∨ q1 = 4 ∨ q1 = 5 ∨ q1 = 6 ∨ q1 = 7 ∨ q1 = 8 := by omega
  rcases hc with z | z | z | z | z | z | z | z | z <;> subst z
  · rfl
  · rfl
  · rfl
  · rfl
  · funext w s e; show (∃ m, X q2 w s m ∧ X q3 w m e) = _; rw [h q2 (o3 (by omega)), h q3 (o4 (by omega))]; rfl
  · funext w s e; show (X q2 w s e ∨ X q3 w s e) = _; rw [h q2 (o3 (by omega)), h q3 (o4 (by omega))]; rfl
  · funext w s e; show (∃ k, rl_pow (X q2 w) k s e) = _; rw [h q2 (o3 (by omega))]; rfl
  · funext w s e; show (∃ k, rl_pow (X q2 w) (k + 1) s e) = _; rw [h q2 (o3 (by omega))]; rfl
  · funext w s e; show (e = s ∨ X q2 w s e) = _; rw [h q2 (o3 (by omega))]; rfl
theorem nr_eq {A : RdA} {m k : Nat} {N : RdN} (hok : nd_ok N m) (hk : k < N.length) : nr A N k = nr_st A (nr A N) (rd_n N k) := by
  have h1 : nr A N k = nr_pre A N (k + 1) k := nr_mono2 (by omega) (by omega)
  rw [h1]
  show (if k = k then _ else _) = _
  rw [if_pos rfl]
  exact nr_st_co (hok k hk) (fun j hj => (nr_mono2 hj (by omega)).symm)
def Tr (N : RdN) (k lo a b : Nat) : Prop := ∀ P : Nat → Nat → Nat → Nat → Prop,
  (∀ k a, k < N.length → (rd_n N k).1 ≤ 2 → P k k a a) →
  (∀ k a, k < N.length → (rd_n N k).1 = 3 → (rd_n N k).2.1 = a → P k k a (a + 1)) →
  (∀ k l r lo a b c, k < N.length → ((rd_n N k).1 = 4 ∨ (rd_n N k).1 = 5) → (rd_n N k).2.1 = l → (rd_n N k).2.2 = r → P l lo a b → P r (l + 1) b c → r + 1 = k → P k lo a c) →
  (∀ k l lo a b, k < N.length → 6 ≤ (rd_n N k).1 → (rd_n N k).1 ≤ 8 → (rd_n N k).2.1 = l → l + 1 = k → P l lo a b → P k lo a b) → P k lo a b
def gE (N : RdN) (k u : Nat) : Prop := (wt_v (wt_all u N) k).1 = true
def gF (N : RdN) (k u p : Nat) : Prop := lb (wt_v (wt_all u N) k).2.1 p = true
def gL (N : RdN) (k u p : Nat) : Prop := lb (wt_v (wt_all u N) k).2.2 p = true
def gO (N : RdN) (lo k p q : Nat) : Prop := ∃ j, lo ≤ j ∧ j ≤ k ∧ lb (fo_l (wt_all 0 N) (rd_n N j)) p = true ∧ lb (fo_f (wt_all 0 N) (rd_n N j)) q = true
def gT (A : RdA) (w : List Int32) (s p : Nat) : Prop := s < w.length ∧ rd_a A p (sg_of w s) = true
def gG (A : RdA) (N : RdN) (w : List Int32) (k lo a b : Nat) : Prop := lo ≤ k ∧ k < N.length ∧ a ≤ b ∧ (∀ u p, gF N k u p → a ≤ p ∧ p < b) ∧ (∀ u p, gL N k u p → a ≤ p ∧ p < b) ∧ (∀ p q, gO N lo k p q → (a ≤ p ∧ p < b) ∧ (a ≤ q ∧ q < b)) ∧ (∀ s e, nr A N k w s e → s ≤ w.length → e ≤ w.length) ∧ ∀ s e, s ≤ w.length → e ≤ w.length → (nr A N k w s e ↔ gm (gT A w) w.length (gO N lo k) (gE N k) (gF N k) (gL N k) s e)
theorem gO_1 {N : RdN} {k p q : Nat} : gO N k k p q ↔ lb (fo_l (wt_all 0 N) (rd_n N k)) p = true ∧ lb (fo_f (wt_all 0 N) (rd_n N k)) q = true :=
  ⟨fun ⟨j, h1, h2, h3⟩ => by rw [show j = k by omega] at h3; exact h3, fun h => ⟨k, Nat.le_refl _, Nat.le_refl _, h⟩⟩
theorem gO_2 {N : RdN} {lo l k p q : Nat} (h1 : lo ≤ l) (h2 : l ≤ k) : gO N lo k p q ↔ gO N lo l p q ∨ gO N (l + 1) k p q := by
  constructor
  · rintro ⟨j, a1, a2, a3⟩
    by_cases h : j ≤ l
    · exact .inl ⟨j, a1, h, a3⟩
    · exact .inr ⟨j, by omega, a2, a3⟩
  · rintro (⟨j, a1, a2, a3⟩ | ⟨j, a1, a2, a3⟩)
    · exact ⟨j, a1, by omega, a3⟩
    · exact ⟨j, by omega, a2, a3⟩
theorem lb_if {a c : Int64} {b : Bool} {j : Nat} : lb (a ||| (if b = true then c else 0)) j = true ↔ lb a j = true ∨ (b = true ∧ lb c j = true) := by
  rw [lb_or, Bool.or_eq_true]
  cases b with
  | true => simp
  | false => simp [lb_0]
theorem lb_oi {a c : Int64} {j : Nat} : lb (a ||| c) j = true ↔ lb a j = true ∨ lb c j = true := by
  rw [lb_or, Bool.or_eq_true]
theorem pq_b (s n : Nat) : pq_of s n % 2 = 1 ↔ s = 0 := by
  unfold pq_of
  split <;> split <;> omega
theorem pq_e (s n : Nat) : 2 ≤ pq_of s n ↔ s = n := by
  unfold pq_of
  split <;> split <;> omega
theorem rl_pow_n {R : Nat → Nat → Prop} {n : Nat} (h : ∀ s e, R s e → s ≤ n → e ≤ n) : ∀ (k s e : Nat), rl_pow R k s e → s ≤ n → e ≤ n := by
  intro k
  induction k with
  | zero => intro s e h1 h2; rw [show e = s from h1]; exact h2
  | succ k ih => rintro s e ⟨m, h1, h2⟩ h3; exact ih m e h2 (h _ _ h1 h3)
theorem gG_of {A : RdA} {N : RdN} {w : List Int32} {m k lo a b : Nat} (hok : nd_ok N m) (hm : m ≤ 60) (h : Tr N k lo a b) : gG A N w k lo a b := by
  refine h (gG A N w) ?_ ?_ ?_ ?_
  · intro k a hk hq
    have e1 := fun u => wt_eq (u := u) hok hk
    have e2 := nr_eq (A := A) hok hk
    have e3 : ∀ p q, gO N k k p q → False := fun p q z => by
      have z1 := (gO_1.mp z).1
      rw [fo_l, if_neg (by omega), lb_0] at z1
      cases z1
    revert e1 e2
    obtain ⟨-, -, -, -⟩ := hok k hk
    generalize hv : rd_n N k = v at hq
    obtain ⟨q1, q2, q3⟩ := v
    intro e1 e2
    simp only at hq
    have hF : ∀ u p, gF N k u p → False := fun u p z => by
      unfold gF at z
      rw [e1 u] at z
      have hc : q1 = 0 ∨ q1 = 1 ∨ q1 = 2 := by omega
      rcases hc with y | y | y <;> subst y <;> exact absurd (z.symm.trans (lb_0 p)) (by decide)
    have hL : ∀ u p, gL N k u p → False := fun u p z => by
      unfold gL at z
      rw [e1 u] at z
      have hc : q1 = 0 ∨ q1 = 1 ∨ q1 = 2 := by omega
      rcases hc with y | y | y <;> subst y <;> exact absurd (z.symm.trans (lb_0 p)) (by decide)
    have key : ∀ s e, nr A N k w s e ↔ e = s ∧ gE N k (pq_of s w.length) := by
      intro s e
      unfold gE
      rw [e2, e1]
      have hc : q1 = 0 ∨ q1 = 1 ∨ q1 = 2 := by omega
      rcases hc with y | y | y <;> subst y
      · show e = s ↔ e = s ∧ true = true
        exact ⟨fun z => ⟨z, rfl⟩, fun z => z.1⟩
      · show (e = s ∧ s = 0) ↔ e = s ∧ decide (pq_of s w.length % 2 = 1) = true
        rw [decide_eq_true_eq, pq_b]
      · show (e = s ∧ s = w.length) ↔ e = s ∧ decide (2 ≤ pq_of s w.length) = true
        rw [decide_eq_true_eq, pq_e]
    refine ⟨Nat.le_refl _, hk, Nat.le_refl _, fun u p z => (hF u p z).elim, fun u p z => (hL u p z).elim, fun p q z => (e3 p q z).elim, fun s e z hs => ?_, fun s e hs he => ?_⟩
    · rw [((key s e).mp z).1]; exact hs
    · rw [key s e]
      constructor
      · exact .inl
      · rintro (z | ⟨n, p, q, -, z, -⟩)
        · exact z
        · exact (hF _ _ z).elim
  · intro k a hk hq ha
    have e1 := fun u => wt_eq (u := u) hok hk
    have e2 := nr_eq (A := A) hok hk
    have e3 : ∀ p q, gO N k k p q → False := fun p q z => by
      have z1 := (gO_1.mp z).1
      rw [fo_l, if_neg (by omega), lb_0] at z1
      cases z1
    obtain ⟨-, o2, -, -⟩ := hok k hk
    have ha60 : a < 60 := by
      have := o2 hq
      omega
    revert e1 e2
    generalize hv : rd_n N k = v at hq ha
    obtain ⟨q1, q2, q3⟩ := v
    intro e1 e2
    simp only at hq ha
    subst hq ha
    have hF : ∀ u p, gF N k u p ↔ p = q2 := fun u p => by
      unfold gF
      rw [e1 u]
      show lb (wt_1 q2) p = true ↔ _
      rw [wt_1, lb_shl1 (by omega), decide_eq_true_eq]
    have hL : ∀ u p, gL N k u p ↔ p = q2 := fun u p => by
      unfold gL
      rw [e1 u]
      show lb (wt_1 q2) p = true ↔ _
      rw [wt_1, lb_shl1 (by omega), decide_eq_true_eq]
    have hE : ∀ u, ¬ gE N k u := fun u z => by
      unfold gE at z
      rw [e1 u] at z
      cases z
    have key : ∀ s e, nr A N k w s e ↔ s < w.length ∧ e = s + 1 ∧ rd_a A q2 (sg_of w s) = true := by
      intro s e
      rw [e2]
      exact Iff.rfl
    refine ⟨Nat.le_refl _, hk, by omega, fun u p z => by rw [(hF u p).mp z]; omega, fun u p z => by rw [(hL u p).mp z]; omega, fun p q z => (e3 p q z).elim, fun s e z hs => ?_, fun s e hs he => ?_⟩
    · obtain ⟨z1, z2, -⟩ := (key s e).mp z
      omega
    · rw [key s e]
      constructor
      · rintro ⟨z1, z2, z3⟩
        exact .inr ⟨0, q2, q2, z2, (hF _ _).mpr rfl, ⟨rfl, z1, z3⟩, (hL _ _).mpr rfl⟩
      · rintro (⟨-, z⟩ | ⟨n, p, q, z1, z2, z3, z4⟩)
        · exact (hE _ z).elim
        · rw [hF] at z2
          rw [hL] at z4
          subst z2 z4
          cases n with
          | zero => exact ⟨z3.2.1, z1, z3.2.2⟩
          | succ n =>
            obtain ⟨-, p', z5, -⟩ := z3
            exact (e3 _ _ z5).elim
  · intro k l r lo a b c hk hq hl hr ⟨g1, g2, g3, g4, g5, g6, g7, g8⟩ ⟨h1, h2, h3, h4, h5, h6, h7, h8⟩ hrk
    have e1 := fun u => wt_eq (u := u) hok hk
    have e2 := nr_eq (A := A) hok hk
    have hO : ∀ p q, gO N lo k p q ↔ gO N lo l p q ∨ gO N (l + 1) r p q ∨ gO N k k p q := fun p q => by
      rw [gO_2 (l := l) g1 (by omega), gO_2 (lo := l + 1) (l := r) h1 (by omega), hrk]
    have hk1 : ∀ p q, gO N k k p q ↔ lb (fo_l (wt_all 0 N) (rd_n N k)) p = true ∧ lb (fo_f (wt_all 0 N) (rd_n N k)) q = true := fun p q => gO_1
    revert e1 e2 hk1
    generalize hv : rd_n N k = v at hq hl hr
    obtain ⟨q1, q2, q3⟩ := v
    intro e1 e2 hk1
    simp only at hq hl hr
    subst hl hr
    have hR : ∀ x, (a ≤ x ∧ x < b) → (b ≤ x ∧ x < c) → False := fun x z1 z2 => by omega
    rcases hq with hq | hq <;> subst hq
    · have hk2 : ∀ p q, gO N k k p q ↔ gL N q2 0 p ∧ gF N q3 0 q := fun p q => hk1 p q
      have hEE : ∀ u, gE N k u ↔ gE N q2 u ∧ gE N q3 u := fun u => by
        unfold gE
        rw [e1 u]
        show ((wt_v (wt_all u N) q2).1 && (wt_v (wt_all u N) q3).1) = true ↔ _
        rw [Bool.and_eq_true]
      have hFF : ∀ u p, gF N k u p ↔ gF N q2 u p ∨ (gE N q2 u ∧ gF N q3 u p) := fun u p => by
        unfold gF gE
        rw [e1 u]
        exact lb_if
      have hLL : ∀ u p, gL N k u p ↔ gL N q3 u p ∨ (gE N q3 u ∧ gL N q2 u p) := fun u p => by
        unfold gL gE
        rw [e1 u]
        exact lb_if
      have hOO : ∀ p q, gO N lo k p q ↔ gO N lo q2 p q ∨ gO N (q2 + 1) q3 p q ∨ (gL N q2 0 p ∧ gF N q3 0 q) := fun p q => by rw [hO, hk2]
      have kk : ∀ s e, nr A N k w s e = ∃ m, nr A N q2 w s m ∧ nr A N q3 w m e := fun s e => by rw [e2]; rfl
      refine ⟨by omega, hk, by omega, fun u p z => ?_, fun u p z => ?_, fun p q z => ?_, fun s e z hs => ?_, fun s e hs he => ?_⟩
      · rcases (hFF u p).mp z with z | ⟨-, z⟩
        · have := g4 u p z; omega
        · have := h4 u p z; omega
      · rcases (hLL u p).mp z with z | ⟨-, z⟩
        · have := h5 u p z; omega
        · have := g5 u p z; omega
      · rcases (hOO p q).mp z with z | z | ⟨z1, z2⟩
        · have := g6 p q z; omega
        · have := h6 p q z; omega
        · have := g5 0 p z1
          have := h4 0 q z2
          omega
      · rw [kk] at z
        obtain ⟨m, z1, z2⟩ := z
        exact h7 m e z2 (g7 s m z1 hs)
      · rw [kk]
        exact gm_then g8 h8 g7 hR g4 g5 g6 h4 h5 h6 hEE hFF hLL hOO s e hs he
    · have hk2 : ∀ p q, gO N k k p q → False := fun p q z => by
        have z1 := ((hk1 p q).mp z).1
        rw [show fo_l (wt_all 0 N) (5, q2, q3) = 0 from rfl, lb_0] at z1
        cases z1
      have hEE : ∀ u, gE N k u ↔ gE N q2 u ∨ gE N q3 u := fun u => by
        unfold gE
        rw [e1 u]
        show ((wt_v (wt_all u N) q2).1 || (wt_v (wt_all u N) q3).1) = true ↔ _
        rw [Bool.or_eq_true]
      have hFF : ∀ u p, gF N k u p ↔ gF N q2 u p ∨ gF N q3 u p := fun u p => by
        unfold gF
        rw [e1 u]
        exact lb_oi
      have hLL : ∀ u p, gL N k u p ↔ gL N q2 u p ∨ gL N q3 u p := fun u p => by
        unfold gL
        rw [e1 u]
        exact lb_oi
      have hOO : ∀ p q, gO N lo k p q ↔ gO N lo q2 p q ∨ gO N (q2 + 1) q3 p q := fun p q => by
        rw [hO]
        constructor
        · rintro (z | z | z)
          · exact .inl z
          · exact .inr z
          · exact (hk2 p q z).elim
        · rintro (z | z)
          · exact .inl z
          · exact .inr (.inl z)
      have kk : ∀ s e, nr A N k w s e = (nr A N q2 w s e ∨ nr A N q3 w s e) := fun s e => by rw [e2]; rfl
      refine ⟨by omega, hk, by omega, fun u p z => ?_, fun u p z => ?_, fun p q z => ?_, fun s e z hs => ?_, fun s e hs he => ?_⟩
      · rcases (hFF u p).mp z with z | z
        · have := g4 u p z; omega
        · have := h4 u p z; omega
      · rcases (hLL u p).mp z with z | z
        · have := g5 u p z; omega
        · have := h5 u p z; omega
      · rcases (hOO p q).mp z with z | z
        · have := g6 p q z; omega
        · have := h6 p q z; omega
      · rw [kk] at z
        rcases z with z | z
        · exact g7 s e z hs
        · exact h7 s e z hs
      · rw [kk]
        exact gm_or g8 h8 hR g4 g5 g6 h4 h5 h6 hEE hFF hLL hOO s e hs he
  · intro k l lo a b hk hq6 hq8 hl hlk ⟨g1, g2, g3, g4, g5, g6, g7, g8⟩
    have e1 := fun u => wt_eq (u := u) hok hk
    have e2 := nr_eq (A := A) hok hk
    have hO : ∀ p q, gO N lo k p q ↔ gO N lo l p q ∨ gO N k k p q := fun p q => by
      rw [gO_2 (l := l) g1 (by omega), hlk]
    have hk1 : ∀ p q, gO N k k p q ↔ lb (fo_l (wt_all 0 N) (rd_n N k)) p = true ∧ lb (fo_f (wt_all 0 N) (rd_n N k)) q = true := fun p q => gO_1
    revert e1 e2 hk1
    generalize hv : rd_n N k = v at hq6 hq8 hl
    obtain ⟨q1, q2, q3⟩ := v
    intro e1 e2 hk1
    simp only at hq6 hq8 hl
    subst hl
    have hc : q1 = 6 ∨ q1 = 7 ∨ q1 = 8 := by omega
    have hFF : ∀ u p, gF N k u p ↔ gF N q2 u p := fun u p => by
      unfold gF
      rw [e1 u]
      rcases hc with z | z | z <;> subst z <;> exact Iff.rfl
    have hLL : ∀ u p, gL N k u p ↔ gL N q2 u p := fun u p => by
      unfold gL
      rw [e1 u]
      rcases hc with z | z | z <;> subst z <;> exact Iff.rfl
    have hOk : ∀ p q, gO N k k p q → gL N q2 0 p ∧ gF N q2 0 q := fun p q z => by
      have z1 := (hk1 p q).mp z
      rcases hc with y | y | y <;> subst y
      · exact z1
      · exact z1
      · rw [show fo_l (wt_all 0 N) (8, q2, q3) = 0 from rfl, lb_0] at z1
        cases z1.1
    have b1 : lo ≤ k := by omega
    have b4 : ∀ u p, gF N k u p → a ≤ p ∧ p < b := fun u p z => g4 u p ((hFF u p).mp z)
    have b5 : ∀ u p, gL N k u p → a ≤ p ∧ p < b := fun u p z => g5 u p ((hLL u p).mp z)
    have b6 : ∀ p q, gO N lo k p q → (a ≤ p ∧ p < b) ∧ (a ≤ q ∧ q < b) := fun p q z => by
      rcases (hO p q).mp z with z | z
      · exact g6 p q z
      · exact ⟨g5 0 p (hOk p q z).1, g4 0 q (hOk p q z).2⟩
    have up : ∀ s e, GA (gT A w) (gO N lo k) (gF N q2 (pq_of s w.length)) (gL N q2 (pq_of e w.length)) s e ↔ GA (gT A w) (gO N lo k) (gF N k (pq_of s w.length)) (gL N k (pq_of e w.length)) s e := fun s e =>
      ⟨GA_mono (fun _ _ z => z) (fun p => (hFF _ p).mpr) (fun p => (hLL _ p).mpr), GA_mono (fun _ _ z => z) (fun p => (hFF _ p).mp) (fun p => (hLL _ p).mp)⟩
    rcases hc with z | z | z <;> subst z
    · have hOO : ∀ p q, gO N lo k p q ↔ gO N lo q2 p q ∨ (gL N q2 0 p ∧ gF N q2 0 q) := fun p q => by
        rw [hO]
        exact ⟨fun z => z.elim .inl (fun z => .inr (hOk p q z)), fun z => z.elim .inl (fun z => .inr ((hk1 p q).mpr z))⟩
      have hE : ∀ u, gE N k u := fun u => by
        unfold gE
        rw [e1 u]
        rfl
      have kk : ∀ s e, nr A N k w s e = ∃ j, rl_pow (nr A N q2 w) j s e := fun s e => by rw [e2]; rfl
      refine ⟨b1, hk, g3, b4, b5, b6, fun s e z hs => ?_, fun s e hs he => ?_⟩
      · rw [kk] at z
        obtain ⟨j, z⟩ := z
        exact rl_pow_n g7 j s e z hs
      · rw [kk]
        constructor
        · rintro ⟨j, z⟩
          rcases (gm_pow g8 g7 hOO j s e hs z).2 with z | z
          · exact .inl ⟨z, hE _⟩
          · exact .inr ((up s e).mp z)
        · rintro (⟨z, -⟩ | z)
          · exact ⟨0, z⟩
          · obtain ⟨j, p, q, z1, z2, z3, z4⟩ := (up s e).mpr z
            subst z1
            obtain ⟨i, hi⟩ := gm_wop (R1 := fun x => a ≤ x ∧ x < b) g8 g4 g6 hOO (j + 1) j s p q (by omega) he z2 z3 z4
            exact ⟨_, hi⟩
    · have hOO : ∀ p q, gO N lo k p q ↔ gO N lo q2 p q ∨ (gL N q2 0 p ∧ gF N q2 0 q) := fun p q => by
        rw [hO]
        exact ⟨fun z => z.elim .inl (fun z => .inr (hOk p q z)), fun z => z.elim .inl (fun z => .inr ((hk1 p q).mpr z))⟩
      have hE : ∀ u, gE N k u ↔ gE N q2 u := fun u => by
        unfold gE
        rw [e1 u]
        exact Iff.rfl
      have kk : ∀ s e, nr A N k w s e = ∃ j, rl_pow (nr A N q2 w) (j + 1) s e := fun s e => by rw [e2]; rfl
      refine ⟨b1, hk, g3, b4, b5, b6, fun s e z hs => ?_, fun s e hs he => ?_⟩
      · rw [kk] at z
        obtain ⟨j, z⟩ := z
        exact rl_pow_n g7 _ s e z hs
      · rw [kk]
        constructor
        · rintro ⟨j, m, z1, z2⟩
          have hm := g7 _ _ z1 hs
          rcases (g8 s m hs hm).mp z1 with ⟨rfl, z3⟩ | z3
          · rcases (gm_pow g8 g7 hOO j m e hs z2).2 with z | z
            · exact .inl ⟨z, (hE _).mpr z3⟩
            · exact .inr ((up m e).mp z)
          · rcases (gm_pow g8 g7 hOO (j + 1) s e hs ⟨m, z1, z2⟩).2 with z | z
            · have l1 := GA_lt z3
              rcases (gm_pow g8 g7 hOO j m e hm z2).2 with y | y
              · omega
              · have := GA_lt y
                omega
            · exact .inr ((up s e).mp z)
        · rintro (⟨z, z2⟩ | z)
          · subst z
            exact ⟨0, e, (g8 e e hs hs).mpr (.inl ⟨rfl, (hE _).mp z2⟩), rfl⟩
          · obtain ⟨j, p, q, z1, z2, z3, z4⟩ := (up s e).mpr z
            subst z1
            exact gm_wop (R1 := fun x => a ≤ x ∧ x < b) g8 g4 g6 hOO (j + 1) j s p q (by omega) he z2 z3 z4
    · have hOO : ∀ p q, gO N lo k p q ↔ gO N lo q2 p q := fun p q => by
        rw [hO]
        constructor
        · rintro (z | z)
          · exact z
          · have z1 := (hk1 p q).mp z
            rw [show fo_l (wt_all 0 N) (8, q2, q3) = 0 from rfl, lb_0] at z1
            cases z1.1
        · exact .inl
      have hE : ∀ u, gE N k u := fun u => by
        unfold gE
        rw [e1 u]
        rfl
      have kk : ∀ s e, nr A N k w s e = (e = s ∨ nr A N q2 w s e) := fun s e => by rw [e2]; rfl
      refine ⟨b1, hk, g3, b4, b5, b6, fun s e z hs => ?_, fun s e hs he => ?_⟩
      · rw [kk] at z
        rcases z with z | z
        · rw [z]; exact hs
        · exact g7 s e z hs
      · rw [kk]
        constructor
        · rintro (z | z)
          · exact .inl ⟨z, hE _⟩
          · rcases (g8 s e hs he).mp z with ⟨z, -⟩ | z
            · exact .inl ⟨z, hE _⟩
            · exact .inr (GA_mono (fun p q => (hOO p q).mpr) (fun p => (hFF _ p).mpr) (fun p => (hLL _ p).mpr) z)
        · rintro (⟨z, -⟩ | z)
          · exact .inl z
          · exact .inr ((g8 s e hs he).mpr (.inr (GA_mono (fun p q => (hOO p q).mp) (fun p => (hFF _ p).mp) (fun p => (hLL _ p).mp) z)))
