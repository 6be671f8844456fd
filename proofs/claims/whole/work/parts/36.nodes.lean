/-! the parser's nodes have their parts ahead of them -/
def nd_R (R : RdR) : Prop := match R with
  | .inl _ => True
  | .inr (_, _, N, A) => nd_ok N A.length
theorem nd_q_mk {m k a x y : Nat} (h1 : a ≤ 8) (h3 : a = 3 → x < m) (h4 : 4 ≤ a → x < k) (h5 : a = 4 ∨ a = 5 → y < k) : nd_q m k (a, x, y) := ⟨h1, h3, h4, h5⟩
theorem nd_mo {N : RdN} {m m' : Nat} (h : nd_ok N m) (hm : m ≤ m') : nd_ok N m' := fun k hk => by
  obtain ⟨h1, h2, h3, h4⟩ := h k hk
  exact ⟨h1, fun z => Nat.lt_of_lt_of_le (h2 z) hm, h3, h4⟩
theorem nd_ap {N : RdN} {m : Nat} {q : Nat × Nat × Nat} (h : nd_ok N m) (hq : nd_q m N.length q) : nd_ok (N ++ [q]) m := fun k hk => by
  rw [List.length_append] at hk
  simp only [List.length_cons, List.length_nil] at hk
  by_cases hkl : k = N.length
  · subst hkl; rw [rn_s]; exact hq
  · rw [rn_l (by omega)]; exact h k (by omega)
theorem nd_ap3 {N : RdN} {A : RdA} (h : nd_ok N A.length) (p : Nat) (m : Nat → Bool) : nd_R (ps_one p N A m) := by
  show nd_ok (N ++ [(3, A.length, 0)]) (A ++ [m]).length
  have hl : (A ++ [m]).length = A.length + 1 := by rw [List.length_append]; rfl
  rw [hl]
  exact nd_ap (nd_mo h (by omega)) (nd_q_mk (by decide) (fun _ => Nat.lt_succ_self _) (fun z => absurd z (by decide)) (fun z => absurd z (by decide)))
def nd_G (G : RdG) : Prop := ∀ p N A, nd_ok N A.length → nd_R (G p N A)
theorem nd_atom {S : List Int32} {G : RdG} {p : Nat} {N : RdN} {A : RdA} (hG : nd_G G) (h : nd_ok N A.length) : nd_R (ps_atom S G p N A) := by
  unfold ps_atom
  by_cases h1 : ps_rp (nx_of S p) = true ∨ nx_of S p = 93
  · rw [if_pos h1]; trivial
  rw [if_neg h1]
  by_cases h2 : nx_of S p = 94
  · rw [if_pos h2]; exact nd_ap h ⟨(by decide), fun z => absurd z (by decide), fun z => absurd z (by decide), fun z => absurd z (by decide)⟩
  rw [if_neg h2]
  by_cases h3 : nx_of S p = 36
  · rw [if_pos h3]; exact nd_ap h ⟨(by decide), fun z => absurd z (by decide), fun z => absurd z (by decide), fun z => absurd z (by decide)⟩
  rw [if_neg h3]
  by_cases h4 : nx_of S p = 46
  · rw [if_pos h4]; exact nd_ap3 h _ _
  rw [if_neg h4]
  by_cases h5 : nx_of S p = 92
  · rw [if_pos h5]
    by_cases h6 : nx_of S (p + 1) = 0
    · rw [if_pos h6]; trivial
    · rw [if_neg h6]; exact nd_ap3 h _ _
  rw [if_neg h5]
  by_cases h7 : nx_of S p = 91
  · rw [if_pos h7]
    cases ps_set S (p + 1) with
    | inl e => trivial
    | inr q => exact nd_ap3 h _ _
  rw [if_neg h7]
  by_cases h8 : nx_of S p = 40
  · rw [if_pos h8]; exact hG _ N A h
  rw [if_neg h8]
  exact nd_ap3 h _ _
theorem ps_kd_q {c : Int32} {m k w : Nat} (hw : w < k) : nd_q m k (ps_kd c, w, 0) := by
  unfold ps_kd
  repeat' split
  all_goals exact (nd_q_mk (by decide) (fun z => absurd z (by decide)) (fun _ => hw) (fun z => absurd z (by decide)))
theorem nd_rep {S : List Int32} {m : Nat} (f : Nat) : ∀ (w p : Nat) (N : RdN), nd_ok N m → w < N.length → nd_ok (ps_rep S f w p N).2.2 m := by
  induction f with
  | zero => exact fun w p N h _ => h
  | succ f ih =>
    intro w p N h hw
    unfold ps_rep
    by_cases h1 : ps_rp (nx_of S p) = true
    · rw [if_pos h1]
      exact ih _ _ _ (nd_ap h (ps_kd_q hw)) (by rw [List.length_append]; simp only [List.length_cons, List.length_nil]; omega)
    · rw [if_neg h1]; exact h
theorem nd_seq {S : List Int32} {G : RdG} (hok : ps_Gok S G) (hG : nd_G G) (f : Nat) : ∀ (w p : Nat) (N : RdN) (A : RdA), nd_ok N A.length → w < N.length → nd_R (ps_seq S G f w p N A) := by
  induction f with
  | zero => exact fun w p N A h _ => h
  | succ f ih =>
    intro w p N A h hw
    unfold ps_seq
    by_cases h1 : nx_of S p = 0 ∨ nx_of S p = 124 ∨ nx_of S p = 41
    · rw [if_pos h1]; exact h
    · rw [if_neg h1]
      have ha := ps_atom_ok (N := N) (A := A) hok (nx_lt (fun z => h1 (.inl z)))
      have hb := nd_atom (S := S) (p := p) hG h
      revert ha hb
      cases ps_atom S G p N A with
      | inl e => exact fun _ _ => trivial
      | inr q =>
        obtain ⟨w1, p1, N1, A1⟩ := q
        rintro ⟨a1, a2, ⟨M, a3⟩, a4, a5, a6, a7⟩ hb
        obtain ⟨r1, r2, ⟨M2, r3⟩, r4, r5⟩ := ps_rep_ok 60 w1 p1 N1 a2 a6
        have hlen : N.length ≤ N1.length := by rw [a3, List.length_append]; omega
        exact ih _ _ _ _ (nd_ap (nd_rep 60 w1 p1 N1 hb a6) (nd_q_mk (by decide) (fun z => absurd z (by decide)) (fun _ => by omega) (fun _ => r5))) (by rw [List.length_append]; simp only [List.length_cons, List.length_nil]; omega)
theorem nd_sq {S : List Int32} {G : RdG} (hok : ps_Gok S G) (hG : nd_G G) {p : Nat} {N : RdN} {A : RdA} (h : nd_ok N A.length) : nd_R (ps_sq S G p N A) :=
  nd_seq hok hG 60 _ _ _ _ (nd_ap h ⟨(by decide), fun z => absurd z (by decide), fun z => absurd z (by decide), fun z => absurd z (by decide)⟩) (by rw [List.length_append]; simp only [List.length_cons, List.length_nil]; omega)
theorem nd_al {S : List Int32} {G : RdG} (hok : ps_Gok S G) (hG : nd_G G) (f : Nat) : ∀ (w p : Nat) (N : RdN) (A : RdA), nd_ok N A.length → w < N.length → nd_R (ps_al S G f w p N A) := by
  induction f with
  | zero => exact fun w p N A h _ => h
  | succ f ih =>
    intro w p N A h hw
    unfold ps_al
    by_cases h1 : nx_of S p = 124
    · rw [if_pos h1]
      have ha := ps_sq_ok (N := N) (A := A) hok (nx_lt2 h1 (by decide))
      have hb := nd_sq (S := S) (p := p + 1) hok hG h
      revert ha hb
      cases ps_sq S G (p + 1) N A with
      | inl e => exact fun _ _ => trivial
      | inr q =>
        obtain ⟨w1, p1, N1, A1⟩ := q
        rintro ⟨a1, a2, ⟨M, a3⟩, a4, a5, a6, a7⟩ hb
        have hlen : N.length ≤ N1.length := by rw [a3, List.length_append]; omega
        exact ih _ _ _ _ (nd_ap hb (nd_q_mk (by decide) (fun z => absurd z (by decide)) (fun _ => by omega) (fun _ => a6))) (by rw [List.length_append]; simp only [List.length_cons, List.length_nil]; omega)
    · rw [if_neg h1]; exact h
theorem nd_alt {S : List Int32} {G : RdG} (hok : ps_Gok S G) (hG : nd_G G) {p : Nat} {N : RdN} {A : RdA} (hp : p ≤ S.length) (h : nd_ok N A.length) : nd_R (ps_alt S G p N A) := by
  have ha := ps_sq_ok (N := N) (A := A) hok hp
  have hb := nd_sq (S := S) (p := p) hok hG h
  unfold ps_alt
  revert ha hb
  cases ps_sq S G p N A with
  | inl e => exact fun _ _ => trivial
  | inr q =>
    obtain ⟨w1, p1, N1, A1⟩ := q
    rintro ⟨a1, a2, a3, a4, a5, a6, a7⟩ hb
    exact nd_al hok hG 60 _ _ _ _ hb a6
theorem nd_alt_out {S : List Int32} {G : RdG} {p : Nat} {N : RdN} {A : RdA} (hp : S.length < p) (h : nd_ok N A.length) : nd_R (ps_alt S G p N A) := by
  have h0 : nx_of S p = 0 := nx_end (by omega)
  have h1 : ps_sq S G p N A = .inr (N.length, p, N ++ [(0, 0, 0)], A) := by
    unfold ps_sq
    show (if _ then _ else _) = _
    rw [if_pos (.inl h0)]
  unfold ps_alt
  rw [h1]
  show nd_R (if _ then _ else _)
  rw [if_neg (by rw [h0]; decide)]
  exact nd_ap h ⟨(by decide), fun z => absurd z (by decide), fun z => absurd z (by decide), fun z => absurd z (by decide)⟩
theorem nd_grp {S : List Int32} (k : Nat) : nd_G (ps_grp S k) := by
  induction k with
  | zero => exact fun _ _ _ _ => trivial
  | succ k ih =>
    intro p N A h
    show nd_R (match ps_alt S (ps_grp S k) p N A with
      | .inl e => .inl e
      | .inr (w, p, N1, A1) => if nx_of S p = 41 then .inr (w, p + 1, N1, A1) else .inl p)
    have hb : nd_R (ps_alt S (ps_grp S k) p N A) := by
      by_cases hp : p ≤ S.length
      · exact nd_alt (ps_grp_ok k) ih hp h
      · exact nd_alt_out (by omega) h
    revert hb
    cases ps_alt S (ps_grp S k) p N A with
    | inl e => exact fun _ => trivial
    | inr q =>
      obtain ⟨w1, p1, N1, A1⟩ := q
      intro hb
      simp only
      by_cases h : nx_of S p1 = 41
      · rw [if_pos h]; exact hb
      · rw [if_neg h]; trivial
/-- what is known of a text that is read -/
theorem ps_read_ok {S : List Int32} {w : Nat} {N : RdN} {A : RdA} (h : ps_read S = .inr (w, N, A)) : nd_ok N A.length ∧ w < N.length ∧ A.length ≤ S.length := by
  have ha := ps_alt_ok (N := []) (A := []) (ps_grp_ok (S := S) 10) (Nat.zero_le _)
  have hb := nd_alt (S := S) (N := []) (A := []) (ps_grp_ok 10) (nd_grp 10) (Nat.zero_le _) (fun k hk => absurd hk (Nat.not_lt_zero _))
  unfold ps_read at h
  revert ha hb h
  cases ps_alt S (ps_grp S 10) 0 [] [] with
  | inl e => intro h; cases h
  | inr q =>
    obtain ⟨w1, p1, N1, A1⟩ := q
    simp only
    by_cases hp : p1 < S.length
    · rw [if_pos hp]; intro h; cases h
    · rw [if_neg hp]
      intro h
      cases h
      rintro ⟨a1, a2, a3, a4, a5, a6, a7⟩ hb
      exact ⟨hb, a6, by simp only [List.length_nil] at a7; omega⟩
theorem ps_read_flt {S : List Int32} {e : Nat} (h : ps_read S = .inl e) : e ≤ S.length := by
  have ha := ps_alt_ok (N := []) (A := []) (ps_grp_ok (S := S) 10) (Nat.zero_le _)
  unfold ps_read at h
  revert ha h
  cases ps_alt S (ps_grp S 10) 0 [] [] with
  | inl e => intro h; cases h; exact fun ha => ha
  | inr q =>
    obtain ⟨w1, p1, N1, A1⟩ := q
    simp only
    by_cases hp : p1 < S.length
    · rw [if_pos hp]; intro h; cases h; exact fun _ => Nat.le_of_lt hp
    · rw [if_neg hp]; intro h; cases h
