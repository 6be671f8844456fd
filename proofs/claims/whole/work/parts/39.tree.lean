/-! what the parser makes is a tree -/
section
variable {N : RdN} {k lo a b c : Nat}
theorem tr_leaf (hk : k < N.length) (h : (rd_n N k).1 ≤ 2) : Tr N k k a a := fun P h1 _ _ _ => h1 k a hk h
theorem tr_atom (hk : k < N.length) (h : (rd_n N k).1 = 3) (ha : (rd_n N k).2.1 = a) : Tr N k k a (a + 1) := fun P _ h2 _ _ => h2 k a hk h ha
theorem tr_bin {l r : Nat} (hk : k < N.length) (h : (rd_n N k).1 = 4 ∨ (rd_n N k).1 = 5) (hl : (rd_n N k).2.1 = l) (hr : (rd_n N k).2.2 = r) (t1 : Tr N l lo a b) (t2 : Tr N r (l + 1) b c) (hrk : r + 1 = k) : Tr N k lo a c := fun P h1 h2 h3 h4 => h3 k l r lo a b c hk h hl hr (t1 P h1 h2 h3 h4) (t2 P h1 h2 h3 h4) hrk
theorem tr_un {l : Nat} (hk : k < N.length) (h6 : 6 ≤ (rd_n N k).1) (h8 : (rd_n N k).1 ≤ 8) (hl : (rd_n N k).2.1 = l) (hlk : l + 1 = k) (t1 : Tr N l lo a b) : Tr N k lo a b := fun P h1 h2 h3 h4 => h4 k l lo a b hk h6 h8 hl hlk (t1 P h1 h2 h3 h4)
theorem tr_ext {M : RdN} (h : Tr N k lo a b) : Tr (N ++ M) k lo a b := by
  have hl : ∀ {j : Nat}, j < N.length → j < (N ++ M).length := fun z => by rw [List.length_append]; omega
  refine h (Tr (N ++ M)) (fun k a hk z => tr_leaf (hl hk) (by rw [rn_l hk]; exact z)) (fun k a hk z1 z2 => tr_atom (hl hk) (by rw [rn_l hk]; exact z1) (by rw [rn_l hk]; exact z2)) (fun k l r lo a b c hk z1 z2 z3 t1 t2 z4 => tr_bin (hl hk) (by rw [rn_l hk]; exact z1) (by rw [rn_l hk]; exact z2) (by rw [rn_l hk]; exact z3) t1 t2 z4) (fun k l lo a b hk z1 z2 z3 z4 t1 => tr_un (hl hk) (by rw [rn_l hk]; exact z1) (by rw [rn_l hk]; exact z2) (by rw [rn_l hk]; exact z3) z4 t1)
end
def tr_R (lo a : Nat) (R : RdR) : Prop := match R with
  | .inl _ => True
  | .inr (w, _, N, A) => w + 1 = N.length ∧ Tr N w lo a A.length
def tr_G (S : List Int32) (G : RdG) : Prop := ∀ p N A, p < S.length → tr_R N.length A.length (G (p + 1) N A)
theorem ap_len {α : Type} {N : List α} {q : α} : (N ++ [q]).length = N.length + 1 := by rw [List.length_append]; rfl
theorem tr_one (p : Nat) (N : RdN) (A : RdA) (m : Nat → Bool) : tr_R N.length A.length (ps_one p N A m) := by
  refine ⟨ap_len.symm, ?_⟩
  rw [ap_len]
  exact tr_atom (by rw [ap_len]; omega) (by rw [rn_s]) (by rw [rn_s])
theorem tr_nd (p q1 : Nat) (N : RdN) (A : RdA) (h : q1 ≤ 2) : tr_R N.length A.length (.inr (N.length, p, N ++ [(q1, 0, 0)], A)) :=
  ⟨ap_len.symm, tr_leaf (by rw [ap_len]; omega) (by rw [rn_s]; exact h)⟩
theorem tr_at {S : List Int32} {G : RdG} {p : Nat} {N : RdN} {A : RdA} (hG : tr_G S G) (hp : p < S.length) : tr_R N.length A.length (ps_atom S G p N A) := by
  unfold ps_atom
  by_cases h1 : ps_rp (nx_of S p) = true ∨ nx_of S p = 93
  · rw [if_pos h1]; trivial
  rw [if_neg h1]
  by_cases h2 : nx_of S p = 94
  · rw [if_pos h2]; exact tr_nd _ 1 N A (by decide)
  rw [if_neg h2]
  by_cases h3 : nx_of S p = 36
  · rw [if_pos h3]; exact tr_nd _ 2 N A (by decide)
  rw [if_neg h3]
  by_cases h4 : nx_of S p = 46
  · rw [if_pos h4]; exact tr_one _ N A _
  rw [if_neg h4]
  by_cases h5 : nx_of S p = 92
  · rw [if_pos h5]
    by_cases h6 : nx_of S (p + 1) = 0
    · rw [if_pos h6]; trivial
    · rw [if_neg h6]; exact tr_one _ N A _
  rw [if_neg h5]
  by_cases h7 : nx_of S p = 91
  · rw [if_pos h7]
    cases ps_set S (p + 1) with
    | inl e => trivial
    | inr q => exact tr_one _ N A _
  rw [if_neg h7]
  by_cases h8 : nx_of S p = 40
  · rw [if_pos h8]; exact hG p N A hp
  rw [if_neg h8]
  exact tr_one _ N A _
theorem tr_rep {S : List Int32} {lo a b : Nat} (f : Nat) : ∀ (w p : Nat) (N : RdN), w + 1 = N.length → Tr N w lo a b → (ps_rep S f w p N).1 + 1 = (ps_rep S f w p N).2.2.length ∧ Tr (ps_rep S f w p N).2.2 (ps_rep S f w p N).1 lo a b := by
  induction f with
  | zero => exact fun w p N h1 h2 => ⟨h1, h2⟩
  | succ f ih =>
    intro w p N h1 h2
    unfold ps_rep
    by_cases h : ps_rp (nx_of S p) = true
    · rw [if_pos h]
      refine ih _ _ _ ap_len.symm (tr_un (l := w) (by rw [ap_len]; omega) ?_ ?_ (by rw [rn_s]) h1 (tr_ext h2))
      · rw [rn_s]
        show 6 ≤ ps_kd _
        unfold ps_kd
        repeat' split
        all_goals decide
      · rw [rn_s]
        show ps_kd _ ≤ 8
        unfold ps_kd
        repeat' split
        all_goals decide
    · rw [if_neg h]; exact ⟨h1, h2⟩
theorem tr_seq {S : List Int32} {G : RdG} (hok : ps_Gok S G) (hG : tr_G S G) {lo a : Nat} (f : Nat) : ∀ (w p : Nat) (N : RdN) (A : RdA), w + 1 = N.length → Tr N w lo a A.length → tr_R lo a (ps_seq S G f w p N A) := by
  induction f with
  | zero => exact fun w p N A h1 h2 => ⟨h1, h2⟩
  | succ f ih =>
    intro w p N A hw h2
    unfold ps_seq
    by_cases h1 : nx_of S p = 0 ∨ nx_of S p = 124 ∨ nx_of S p = 41
    · rw [if_pos h1]; exact ⟨hw, h2⟩
    · rw [if_neg h1]
      have ha := ps_atom_ok (N := N) (A := A) hok (nx_lt (fun z => h1 (.inl z)))
      have hb := tr_at (S := S) (p := p) (N := N) (A := A) hG (nx_lt (fun z => h1 (.inl z)))
      revert ha hb
      cases ps_atom S G p N A with
      | inl e => exact fun _ _ => trivial
      | inr q =>
        obtain ⟨w1, p1, N1, A1⟩ := q
        rintro ⟨a1, a2, ⟨M, a3⟩, a4, a5, a6, a7⟩ ⟨b1, b2⟩
        obtain ⟨r1, r2, ⟨M2, r3⟩, r4, r5⟩ := ps_rep_ok 60 w1 p1 N1 a2 a6
        obtain ⟨t1, t2⟩ := tr_rep (S := S) 60 w1 p1 N1 b1 b2
        have hx : Tr (ps_rep S 60 w1 p1 N1).2.2 w lo a A.length := by
          rw [r3, a3]
          exact tr_ext (tr_ext h2)
        refine ih _ _ _ _ ap_len.symm (tr_bin (l := w) (r := (ps_rep S 60 w1 p1 N1).1) (b := A.length) (by rw [ap_len]; omega) (.inl (by rw [rn_s])) (by rw [rn_s]) (by rw [rn_s]) (tr_ext hx) ?_ t1)
        rw [hw]
        exact tr_ext t2
theorem tr_sq {S : List Int32} {G : RdG} (hok : ps_Gok S G) (hG : tr_G S G) {p : Nat} {N : RdN} {A : RdA} : tr_R N.length A.length (ps_sq S G p N A) :=
  tr_seq hok hG 60 _ _ _ _ ap_len.symm (tr_leaf (by rw [ap_len]; omega) (by rw [rn_s]; decide))
theorem tr_al {S : List Int32} {G : RdG} (hok : ps_Gok S G) (hG : tr_G S G) {lo a : Nat} (f : Nat) : ∀ (w p : Nat) (N : RdN) (A : RdA), w + 1 = N.length → Tr N w lo a A.length → tr_R lo a (ps_al S G f w p N A) := by
  induction f with
  | zero => exact fun w p N A h1 h2 => ⟨h1, h2⟩
  | succ f ih =>
    intro w p N A hw h2
    unfold ps_al
    by_cases h1 : nx_of S p = 124
    · rw [if_pos h1]
      have ha := ps_sq_ok (N := N) (A := A) hok (nx_lt2 h1 (by decide))
      have hb := tr_sq (S := S) (p := p + 1) (N := N) (A := A) hok hG
      revert ha hb
      cases ps_sq S G (p + 1) N A with
      | inl e => exact fun _ _ => trivial
      | inr q =>
        obtain ⟨w1, p1, N1, A1⟩ := q
        rintro ⟨a1, a2, ⟨M, a3⟩, a4, a5, a6, a7⟩ ⟨b1, b2⟩
        have hx : Tr N1 w lo a A.length := by
          rw [a3]
          exact tr_ext h2
        refine ih _ _ _ _ ap_len.symm (tr_bin (l := w) (r := w1) (b := A.length) (by rw [ap_len]; omega) (.inr (by rw [rn_s])) (by rw [rn_s]) (by rw [rn_s]) (tr_ext hx) ?_ b1)
        rw [hw]
        exact tr_ext b2
    · rw [if_neg h1]; exact ⟨hw, h2⟩
theorem tr_alt {S : List Int32} {G : RdG} (hok : ps_Gok S G) (hG : tr_G S G) {p : Nat} {N : RdN} {A : RdA} : tr_R N.length A.length (ps_alt S G p N A) := by
  have hb := tr_sq (S := S) (p := p) (N := N) (A := A) hok hG
  unfold ps_alt
  revert hb
  cases ps_sq S G p N A with
  | inl e => exact fun _ => trivial
  | inr q =>
    obtain ⟨w1, p1, N1, A1⟩ := q
    rintro ⟨b1, b2⟩
    exact tr_al hok hG 60 _ _ _ _ b1 b2
theorem tr_grp {S : List Int32} (k : Nat) : tr_G S (ps_grp S k) := by
  induction k with
  | zero => exact fun _ _ _ _ => trivial
  | succ k ih =>
    intro p N A hp
    show tr_R N.length A.length (match ps_alt S (ps_grp S k) (p + 1) N A with
      | .inl e => .inl e
      | .inr (w, p, N1, A1) => if nx_of S p = 41 then .inr (w, p + 1, N1, A1) else .inl p)
    have hb := tr_alt (S := S) (p := p + 1) (N := N) (A := A) (ps_grp_ok k) ih
    revert hb
    cases ps_alt S (ps_grp S k) (p + 1) N A with
    | inl e => exact fun _ => trivial
    | inr q =>
      obtain ⟨w1, p1, N1, A1⟩ := q
      intro hb
      simp only
      by_cases h : nx_of S p1 = 41
      · rw [if_pos h]; exact hb
      · rw [if_neg h]; trivial
theorem tr_read {S : List Int32} {w : Nat} {N : RdN} {A : RdA} (h : ps_read S = .inr (w, N, A)) : w + 1 = N.length ∧ Tr N w 0 0 A.length := by
  have hb := tr_alt (S := S) (p := 0) (N := []) (A := []) (ps_grp_ok 10) (tr_grp 10)
  unfold ps_read at h
  revert hb h
  cases ps_alt S (ps_grp S 10) 0 [] [] with
  | inl e => intro h; cases h
  | inr q =>
    obtain ⟨w1, p1, N1, A1⟩ := q
    simp only
    by_cases hp : p1 < S.length
    · rw [if_pos hp]; intro h; cases h
    · rw [if_neg hp]
      intro h
      cases h
      exact fun hb => hb
/-- the relation of a text that is read; of one with a fault, none -/
def ps_rel (S : List Int32) : Rel := match ps_read S with
  | .inl _ => fun _ _ _ => False
  | .inr (w, N, A) => nr A N w
/-- runs are paths -/
theorem ex_S_gp {tk fo : Nat → Int64} {fi : Int64} {m : Nat} {w : List Int32} {b : Nat} {T : Nat → Nat → Prop} (hT : ∀ k p, b + k < w.length → (T (b + k) p ↔ p < m ∧ lb (tk (sg_of w (b + k))) p = true)) : ∀ k p, b + k < w.length → T (b + k) p → (ex_S tk fo fi m w b k p ↔ ∃ p0, lb fi p0 = true ∧ gp T (fun x y => lb (fo x) y = true) k b p0 p) := by
  have snoc : ∀ (k s p q r : Nat), gp T (fun x y => lb (fo x) y = true) k s p q → lb (fo q) r = true → T (s + k + 1) r → gp T (fun x y => lb (fo x) y = true) (k + 1) s p r := by
    intro k s p q r h1 h2 h3
    exact gp_app (n2 := 0) k s p q h1 h2 ⟨rfl, h3⟩
  have unsnoc : ∀ (k s p r : Nat), gp T (fun x y => lb (fo x) y = true) (k + 1) s p r → ∃ q, gp T (fun x y => lb (fo x) y = true) k s p q ∧ lb (fo q) r = true ∧ T (s + k) q := by
    intro k
    induction k with
    | zero =>
      rintro s p r ⟨h1, p', h2, h3, h4⟩
      subst h3
      exact ⟨p, ⟨rfl, h1⟩, h2, h1⟩
    | succ k ih =>
      rintro s p r ⟨h1, p', h2, h3⟩
      obtain ⟨q, a1, a2, a3⟩ := ih (s + 1) p' r h3
      exact ⟨q, ⟨h1, p', h2, a1⟩, a2, by rwa [show s + (k + 1) = s + 1 + k by omega]⟩
  intro k
  induction k with
  | zero =>
    intro p hk hp
    constructor
    · intro h
      exact ⟨p, h, rfl, hp⟩
    · rintro ⟨p0, h1, h2, -⟩
      rw [← h2]
      exact h1
  | succ k ih =>
    intro p hk hp
    constructor
    · rintro ⟨q, h1, h2, h3, h4⟩
      have hTq := (hT k q (by omega)).mpr ⟨h1, h3⟩
      obtain ⟨p0, a1, a2⟩ := (ih q (by omega) hTq).mp h2
      exact ⟨p0, a1, snoc k b p0 q p a2 h4 hp⟩
    · rintro ⟨p0, a1, a2⟩
      obtain ⟨q, b1, b2, b3⟩ := unsnoc k b p0 p a2
      have := (hT k q (by omega)).mp b3
      exact ⟨q, this.1, (ih q (by omega) b3).mpr ⟨p0, a1, b1⟩, this.2, b2⟩
/-- an expression object that holds what the reader weighed means what was read -/
theorem ex_A_rel {S : List Int32} {w0 : Nat} {N : RdN} {A : RdA} (hR : ps_read S = .inr (w0, N, A)) (hS : S.length ≤ 60) {tk fo fi la : Nat → Int64} {me : Nat → Int32}
    (htk : ∀ x, x < 256 → ∀ k, lb (tk x) k = true ↔ k < A.length ∧ rd_a A k x = true) (hfo : ∀ j, j < A.length → ∀ b, lb (fo j) b = true ↔ fo_of N N.length j b)
    (hfi : ∀ u, u < 4 → fi u = (wt_v (wt_all u N) w0).2.1) (hla : ∀ u, u < 4 → la u = (wt_v (wt_all u N) w0).2.2) (hme : ∀ u, u < 4 → me u = wt_b (wt_v (wt_all u N) w0).1) :
    ∀ w, sg_ok w → w.length ≤ 120 → ∀ b e, b ≤ w.length → e ≤ w.length → (ex_A tk fo fi la me A.length w b e ↔ ps_rel S w b e) := by
  intro w hw hl b e hb he
  obtain ⟨hok, hw0, hA⟩ := ps_read_ok hR
  obtain ⟨hlast, htr⟩ := tr_read hR
  obtain ⟨-, -, -, g4, g5, g6, -, g8⟩ := gG_of (A := A) (w := w) hok (by omega) htr
  have hrel : ps_rel S = nr A N w0 := by unfold ps_rel; rw [hR]
  rw [hrel, g8 b e hb he]
  have hsg : ∀ s, s < w.length → sg_of w s < 256 := fun s hs => by
    obtain ⟨j, h1, h2⟩ := vp_in_of (hw s hs) (by omega)
    unfold sg_of
    rw [h2, nI_clamp (by omega)]
    exact h1
  have hT : ∀ k p, b + k < w.length → ((fun s p => p < A.length ∧ gT A w s p) (b + k) p ↔ p < A.length ∧ lb (tk (sg_of w (b + k))) p = true) := fun k p hk => by
    simp only
    rw [htk _ (hsg _ hk) p]
    unfold gT
    exact ⟨fun z => ⟨z.1, z.1, z.2.2⟩, fun z => ⟨z.1, hk, z.2.2⟩⟩
  have hO : ∀ p q, p < A.length → (gO N 0 w0 p q ↔ lb (fo p) q = true) := fun p q hp => by
    rw [hfo p hp q]
    exact ⟨fun ⟨j, _, h2, h3⟩ => ⟨j, by omega, h3⟩, fun ⟨j, h2, h3⟩ => ⟨j, by omega, by omega, h3⟩⟩
  have hgp : ∀ n s p q, p < A.length → (gp (gT A w) (gO N 0 w0) n s p q ↔ gp (fun s p => p < A.length ∧ gT A w s p) (fun x y => lb (fo x) y = true) n s p q) := by
    intro n
    induction n with
    | zero => exact fun s p q hp => ⟨fun ⟨z1, z2⟩ => ⟨z1, hp, z2⟩, fun ⟨z1, z2⟩ => ⟨z1, z2.2⟩⟩
    | succ n ih =>
      intro s p q hp
      constructor
      · rintro ⟨z1, p', z2, z3⟩
        have hp' := (g6 p p' z2).2.2
        exact ⟨⟨hp, z1⟩, p', (hO p p' hp).mp z2, (ih _ _ _ hp').mp z3⟩
      · rintro ⟨z1, p', z2, z3⟩
        have z2' := (hO p p' hp).mpr z2
        have hp' := (g6 p p' z2').2.2
        exact ⟨z1.2, p', z2', (ih _ _ _ hp').mpr z3⟩
  have hend : ∀ n s p q, gp (fun s p => p < A.length ∧ gT A w s p) (fun x y => lb (fo x) y = true) n s p q → q < A.length ∧ gT A w (s + n) q := by
    intro n
    induction n with
    | zero => rintro s p q ⟨rfl, z⟩; exact z
    | succ n ih =>
      rintro s p q ⟨-, p', -, z⟩
      have := ih _ _ _ z
      rwa [show s + 1 + n = s + (n + 1) by omega] at this
  have pb := pq_lt b w.length
  have pe := pq_lt e w.length
  unfold ex_A gm
  rw [hme _ pb]
  constructor
  · rintro (⟨z1, z2⟩ | ⟨k, p, z1, z2, z3, z4⟩)
    · refine .inl ⟨z1, ?_⟩
      unfold gE
      cases hc : (wt_v (wt_all (pq_of b w.length) N) w0).1 with
      | true => rfl
      | false => rw [hc] at z2; exact absurd rfl z2
    · have hk : b + k < w.length := by omega
      have hp := (htk _ (hsg _ hk) p).mp z3
      have hTp := (hT k p hk).mpr ⟨hp.1, z3⟩
      obtain ⟨p0, a1, a2⟩ := (ex_S_gp (T := fun s p => p < A.length ∧ gT A w s p) hT k p hk hTp).mp z2
      rw [hfi _ pb] at a1
      rw [hla _ pe] at z4
      have hp0 := (g4 _ p0 a1).2
      exact .inr ⟨k, p0, p, z1, a1, (hgp k b p0 p hp0).mpr a2, z4⟩
  · rintro (⟨z1, z2⟩ | ⟨k, p0, p, z1, a1, a2, z4⟩)
    · refine .inl ⟨z1, ?_⟩
      rw [show (wt_v (wt_all (pq_of b w.length) N) w0).1 = true from z2]
      decide
    · have hk : b + k < w.length := by omega
      have hp0 := (g4 _ p0 a1).2
      have a3 := (hgp k b p0 p hp0).mp a2
      have hTp := hend k b p0 p a3
      have a1' : lb (fi (pq_of b w.length)) p0 = true := by rw [hfi _ pb]; exact a1
      refine .inr ⟨k, p, z1, (ex_S_gp (T := fun s p => p < A.length ∧ gT A w s p) hT k p hk hTp).mpr ⟨p0, a1', a3⟩, ((hT k p hk).mp hTp).2, ?_⟩
      rw [hla _ pe]
      exact z4
