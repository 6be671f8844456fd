/-! the reference: draw -/
/-- an edge of a sign stands at a place where one may be -/
def ed_v (T : List Int32) (q : Ed) : Prop := q.2.2.1 ≤ 3 ∧ (q.2.2.1 ≠ 0 → q.2.2.2 < T.length) ∧ (q.2.2.1 = 3 → (nx_of T q.2.2.2 = 91 → ∃ z, ps_set T (q.2.2.2 + 1) = .inr z) ∧ (nx_of T q.2.2.2 = 92 → q.2.2.2 + 1 < T.length))
/-- what holds while it draws -/
def dr_inv (T : List Int32) (u : DrS) : Prop := u.1 ≤ 3 + 4 * dr_pl u ∧ 3 ≤ u.1 ∧ u.2.1.length ≤ 1 + 3 * dr_pl u ∧ dr_dp u ≤ 10 ∧ dr_pl u ≤ T.length ∧ u.2.2.2.2.2.2.1 < u.1 ∧ (∀ p, u.2.2.2.2.2.2.2.1 = some p → p < u.1) ∧ (∀ q ∈ u.2.1, q.1 < u.1 ∧ q.2.1 < u.1 ∧ ed_v T q) ∧ ∀ j, j ≤ dr_dp u → u.2.2.1 j < u.1 ∧ u.2.2.2.1 j < u.1 ∧ (1 ≤ j → u.2.2.2.2.1 j < u.1)
section
variable {T : List Int32}
theorem ed_v0 {a b : Nat} : ed_v T (a, b, 0, 0) := ⟨Nat.zero_le _, fun h => absurd rfl h, fun h => absurd (show (0 : Nat) = 3 from h) (by decide)⟩
theorem dr_inv_st {P : Nat} {E : List Ed} {bg cl ou : Nat → Nat} {dp a : Nat} {pc : Option Nat} {pl : Nat} {v : DrS} (h : dr_inv T (P, E, bg, cl, ou, dp, a, pc, pl)) (hp : pl < T.length) (hs : dr_st T P E bg cl ou dp a pc pl = .inr v) : dr_inv T v := by
  obtain ⟨h1, h2, h3, h4, h5, h6, h7, h8, h9⟩ := h
  simp only [dr_pl, dr_dp] at h1 h2 h3 h4 h5 h6 h7 h8 h9
  have lv : ∀ P', P ≤ P' → ∀ j, j ≤ dp → bg j < P' ∧ cl j < P' ∧ (1 ≤ j → ou j < P') := fun P' hP j hj => by
    obtain ⟨a1, a2, a3⟩ := h9 j hj
    exact ⟨by omega, by omega, fun z => by have := a3 z; omega⟩
  have ed : ∀ P', P ≤ P' → ∀ q ∈ E, q.1 < P' ∧ q.2.1 < P' ∧ ed_v T q := fun P' hP q hq => by
    obtain ⟨a1, a2, a3⟩ := h8 q hq
    exact ⟨by omega, by omega, a3⟩
  have ap : ∀ (P' : Nat) (X : List Ed), P ≤ P' → (∀ q ∈ X, q.1 < P' ∧ q.2.1 < P' ∧ ed_v T q) → ∀ q ∈ E ++ X, q.1 < P' ∧ q.2.1 < P' ∧ ed_v T q := fun P' X hP hX q hq => (List.mem_append.mp hq).elim (ed P' hP q) (hX q)
  unfold dr_st at hs
  by_cases c1 : ps_rp (nx_of T pl) = true
  · rw [if_pos c1] at hs
    cases pc with
    | none => cases hs
    | some p =>
      have hpP := h7 p rfl
      dsimp only at hs
      cases hs
      refine ⟨by show P ≤ 3 + 4 * (pl + 1); omega, h2, ?_, h4, hp, h6, fun p' hp' => by cases hp'; exact hpP, ap P _ (Nat.le_refl _) (fun q hq => ?_), lv P (Nat.le_refl _)⟩
      · show (E ++ _).length ≤ 1 + 3 * (pl + 1)
        rw [List.length_append, List.length_append]
        split <;> split <;> simp only [List.length_nil, List.length_cons] <;> omega
      · rcases List.mem_append.mp hq with hq | hq
        · split at hq
          · cases hq
          · rw [List.mem_singleton.mp hq]; exact ⟨hpP, h6, ed_v0⟩
        · split at hq
          · cases hq
          · rw [List.mem_singleton.mp hq]; exact ⟨h6, hpP, ed_v0⟩
  rw [if_neg c1] at hs
  obtain ⟨b1, b2, b3⟩ := h9 dp (Nat.le_refl _)
  have two : ∀ x y : Ed, (E ++ [x, y]).length = E.length + 2 := fun x y => by rw [List.length_append]; rfl
  by_cases c2 : nx_of T pl = 124
  · rw [if_pos c2] at hs
    cases hs
    refine ⟨by show P + 1 ≤ 3 + 4 * (pl + 1); omega, by show 3 ≤ P + 1; omega, by show (E ++ _).length ≤ 1 + 3 * (pl + 1); rw [two]; omega, h4, hp, by show P < P + 1; omega, fun p' hp' => (by cases hp'), ap (P + 1) _ (by omega) (fun q hq => ?_), lv (P + 1) (by omega)⟩
    simp only [List.mem_cons, List.not_mem_nil, or_false] at hq
    rcases hq with rfl | rfl
    · exact ⟨by show a < P + 1; omega, by show cl dp < P + 1; omega, ed_v0⟩
    · exact ⟨by show bg dp < P + 1; omega, by show P < P + 1; omega, ed_v0⟩
  rw [if_neg c2] at hs
  by_cases c3 : nx_of T pl = 40
  · rw [if_pos c3] at hs
    by_cases c10 : dp = 10
    · rw [if_pos c10] at hs; cases hs
    rw [if_neg c10] at hs
    cases hs
    refine ⟨by show P + 4 ≤ 3 + 4 * (pl + 1); omega, by show 3 ≤ P + 4; omega, by show (E ++ _).length ≤ 1 + 3 * (pl + 1); rw [List.length_append]; simp only [List.length_cons, List.length_nil]; omega, by show dp + 1 ≤ 10; omega, hp, by show P + 3 < P + 4; omega, fun p' hp' => (by cases hp'), ap (P + 4) _ (by omega) (fun q hq => ?_), fun j hj => ?_⟩
    · simp only [List.mem_cons, List.not_mem_nil, or_false] at hq
      rcases hq with rfl | rfl | rfl
      · exact ⟨by show a < P + 4; omega, by show P < P + 4; omega, ed_v0⟩
      · exact ⟨by show P < P + 4; omega, by show P + 1 < P + 4; omega, ed_v0⟩
      · exact ⟨by show P + 1 < P + 4; omega, by show P + 3 < P + 4; omega, ed_v0⟩
    · show up1 bg (dp + 1) (P + 1) j < P + 4 ∧ up1 cl (dp + 1) (P + 2) j < P + 4 ∧ (1 ≤ j → up1 ou (dp + 1) P j < P + 4)
      have hj : j ≤ dp + 1 := hj
      by_cases hje : j = dp + 1
      · rw [hje, up1_s, up1_s, up1_s]
        exact ⟨by omega, by omega, fun _ => by omega⟩
      · rw [show up1 bg (dp + 1) (P + 1) j = bg j from if_neg hje, show up1 cl (dp + 1) (P + 2) j = cl j from if_neg hje, show up1 ou (dp + 1) P j = ou j from if_neg hje]
        exact lv (P + 4) (by omega) j (by omega)
  rw [if_neg c3] at hs
  by_cases c4 : nx_of T pl = 41
  · rw [if_pos c4] at hs
    by_cases c0 : dp = 0
    · rw [if_pos c0] at hs; cases hs
    rw [if_neg c0] at hs
    cases hs
    refine ⟨by show P + 1 ≤ 3 + 4 * (pl + 1); omega, by show 3 ≤ P + 1; omega, by show (E ++ _).length ≤ 1 + 3 * (pl + 1); rw [two]; omega, by show dp - 1 ≤ 10; omega, hp, by show P < P + 1; omega, fun p' hp' => by cases hp'; show ou dp < P + 1; have := b3 (by omega); omega, ap (P + 1) _ (by omega) (fun q hq => ?_), fun j hj => lv (P + 1) (by omega) j (by have hj : j ≤ dp - 1 := hj; omega)⟩
    simp only [List.mem_cons, List.not_mem_nil, or_false] at hq
    rcases hq with rfl | rfl
    · exact ⟨by show a < P + 1; omega, by show cl dp < P + 1; omega, ed_v0⟩
    · exact ⟨by show cl dp < P + 1; omega, by show P < P + 1; omega, ed_v0⟩
  rw [if_neg c4] at hs
  by_cases c5 : nx_of T pl = 93
  · rw [if_pos c5] at hs; cases hs
  rw [if_neg c5] at hs
  have one : ∀ (k pl' : Nat), k ≤ 3 → pl < pl' → pl' ≤ T.length → ((k = 3) → (nx_of T pl = 91 → ∃ z, ps_set T (pl + 1) = .inr z) ∧ (nx_of T pl = 92 → pl + 1 < T.length)) → dr_inv T (P + 2, E ++ [(a, P, 0, 0), (P, P + 1, k, pl)], bg, cl, ou, dp, P + 1, some P, pl') := fun k pl' hk hpl hpl' hv => by
    refine ⟨by show P + 2 ≤ 3 + 4 * pl'; omega, by show 3 ≤ P + 2; omega, by show (E ++ _).length ≤ 1 + 3 * pl'; rw [two]; omega, h4, hpl', by show P + 1 < P + 2; omega, fun p' hp' => by cases hp'; show P < P + 2; omega, ap (P + 2) _ (by omega) (fun q hq => ?_), lv (P + 2) (by omega)⟩
    simp only [List.mem_cons, List.not_mem_nil, or_false] at hq
    rcases hq with rfl | rfl
    · exact ⟨by show a < P + 2; omega, by show P < P + 2; omega, ed_v0⟩
    · exact ⟨by show P < P + 2; omega, by show P + 1 < P + 2; omega, hk, fun _ => hp, hv⟩
  by_cases c6 : nx_of T pl = 92
  · rw [if_pos c6] at hs
    by_cases hl : pl + 1 < T.length
    · rw [if_pos hl] at hs
      cases hs
      exact one 3 (pl + 2) (by omega) (by omega) (by omega) (fun _ => ⟨fun z => absurd (c6.symm.trans z) (by decide), fun _ => hl⟩)
    · rw [if_neg hl] at hs; cases hs
  rw [if_neg c6] at hs
  by_cases c7 : nx_of T pl = 91
  · rw [if_pos c7] at hs
    obtain ⟨-, k2⟩ := ps_set_ok (S := T) (p := pl + 1) (by omega)
    cases hps : ps_set T (pl + 1) with
    | inl e => rw [hps] at hs; cases hs
    | inr z =>
      have hk := k2 z hps
      rw [hps] at hs
      cases hs
      exact one 3 z.1 (by omega) (by omega) hk.2 (fun _ => ⟨fun _ => ⟨z, hps⟩, fun y => absurd y c6⟩)
  rw [if_neg c7] at hs
  cases hs
  exact one _ (pl + 1) (by unfold dr_kd; split; omega; split <;> omega) (by omega) (by omega) (fun _ => ⟨fun y => absurd y c7, fun y => absurd y c6⟩)
end
