/-! the drawing of sequences, of alternatives, of groups, of a whole text -/
/-- what a sequence leaves behind: edges E0 and those of its own, from q0 to where it stands -/
def dS (S : List Int32) (u : DrS) (E0 : List Ed) (q0 P : Nat) (bg cl ou : Nat → Nat) (dp : Nat) (R : RdR) : Prop := match R with
  | .inl e => df S u e
  | .inr (w1, p1, N1, A1) => ∃ (P1 : Nat) (Ec : List Ed) (bg1 cl1 ou1 : Nat → Nat) (a1 : Nat) (pc1 : Option Nat), dl S u (P1, E0 ++ Ec, bg1, cl1, ou1, dp, a1, pc1, p1) ∧ P ≤ P1 ∧ ag dp bg bg1 ∧ ag dp cl cl1 ∧ ag dp ou ou1 ∧ g_in Ec q0 P1 ∧ q0 ≤ a1 ∧ a1 < P1 ∧ mns S N1 A1 Ec q0 a1 w1
/-- what alternatives leave behind: edges E0 and those of their own; with an edge to C behind, from B to C -/
def dA (S : List Int32) (u : DrS) (E0 : List Ed) (B C P : Nat) (bg cl ou : Nat → Nat) (dp : Nat) (R : RdR) : Prop := match R with
  | .inl e => df S u e
  | .inr (w1, p1, N1, A1) => ∃ (P1 : Nat) (Ec : List Ed) (bg1 cl1 ou1 : Nat → Nat) (a1 : Nat) (pc1 : Option Nat), dl S u (P1, E0 ++ Ec, bg1, cl1, ou1, dp, a1, pc1, p1) ∧ P ≤ P1 ∧ ag dp bg bg1 ∧ ag dp cl cl1 ∧ ag dp ou ou1 ∧ (∀ q ∈ Ec, (q.1 = B ∨ P ≤ q.1) ∧ q.1 < P1 ∧ (q.2.1 = C ∨ P ≤ q.2.1) ∧ q.2.1 < P1) ∧ P ≤ a1 ∧ a1 < P1 ∧ mns S N1 A1 (Ec ++ [(a1, C, 0, 0)]) B C w1
section
variable {S : List Int32} {G : RdG} {k : Nat}
theorem dS_seq (hG : dG S G k) (hok : ps_Gok S G) (h60 : S.length ≤ 60) (hz : ∀ q, q < S.length → nx_of S q ≠ 0) {dp : Nat} (hd : dp + k = 10) {E0 : List Ed} {q0 : Nat} (f : Nat) : ∀ (w p : Nat) (N : RdN) (A : RdA) (P : Nat) (Ec : List Ed) (bg cl ou : Nat → Nat) (a : Nat) (pc : Option Nat), p ≤ S.length → w < N.length → g_in Ec q0 P → q0 ≤ a → a < P → mns S N A Ec q0 a w → (pc = none ∨ ps_rp (nx_of S p) = false) → dS S (P, E0 ++ Ec, bg, cl, ou, dp, a, pc, p) E0 q0 P bg cl ou dp (ps_seq S G f w p N A) := by
  induction f with
  | zero =>
    intro w p N A P Ec bg cl ou a pc hp hw h1 h2 h3 h4 h5
    exact ⟨P, Ec, bg, cl, ou, a, pc, dl_rf, Nat.le_refl _, ag_rf, ag_rf, ag_rf, h1, h2, h3, h4⟩
  | succ f ih =>
    intro w p N A P Ec bg cl ou a pc hp hw h1 h2 h3 h4 h5
    unfold ps_seq
    by_cases ht : nx_of S p = 0 ∨ nx_of S p = 124 ∨ nx_of S p = 41
    · rw [if_pos ht]
      exact ⟨P, Ec, bg, cl, ou, a, pc, dl_rf, Nat.le_refl _, ag_rf, ag_rf, ag_rf, h1, h2, h3, h4⟩
    rw [if_neg ht]
    have hlt : p < S.length := nx_lt (fun z => ht (Or.inl z))
    have ok := ps_atom_ok (N := N) (A := A) hok hlt
    have hat := dP_atom (N := N) (A := A) (E := E0 ++ Ec) (bg := bg) (cl := cl) (ou := ou) hG hd h3 hlt (fun z => ht (Or.inr (Or.inl z))) (fun z => ht (Or.inr (Or.inr z))) hz h5
    cases ha : ps_atom S G p N A with
    | inl e => rw [ha] at hat; exact hat
    | inr q =>
      obtain ⟨w1, p1, N1, A1⟩ := q
      rw [ha] at hat ok
      obtain ⟨o1, o2, o3, o4, o5, o6, o7⟩ := ok
      obtain ⟨P1, Ep, bg1, cl1, ou1, a1, z1, z2, z3, z4, z5, z6, z7, z8, z9, z10⟩ := hat
      obtain ⟨r1, r2, r3, r4⟩ := ps_rep_ok 60 w1 p1 N1 o2 o6
      obtain ⟨X, x1, x2, x3⟩ := d_rep (S := S) (A := A1) (P := P1) (E0 := E0 ++ Ec ++ [(a, P, 0, 0)]) (Ep := Ep) (bg := bg1) (cl := cl1) (ou := ou1) (dp := dp) (a := a1) (pc := P) (by omega) z8 z9 (by omega) z7 (by omega) 60 w1 p1 N1 [] false false o6 (fun q hq => by cases hq) (fun z => by cases z) (fun z => by cases z) (fun Nf Af hf v s e => z10 Nf Af hf v s e)
      rw [List.append_nil] at x1
      have hpe : ps_rp (nx_of S (ps_rep S 60 w1 p1 N1).2.1) = false := ps_rep_end 60 w1 p1 N1 (by omega)
      have r5 : (ps_rep S 60 w1 p1 N1).1 < (ps_rep S 60 w1 p1 N1).2.2.length := r4.2
      simp only
      generalize ps_rep S 60 w1 p1 N1 = R at *
      have hEX : g_in (Ep ++ X) P P1 := fun q hq => by
        rcases List.mem_append.mp hq with hq | hq
        · exact z5 q hq
        · rcases x2 q hq with rfl | rfl <;> simp only <;> omega
      have hm : mns S (R.2.2 ++ [(4, w, R.1)]) A1 (Ec ++ (a, P, 0, 0) :: (Ep ++ X)) q0 a1 R.2.2.length := fun Nf Af hf v s e => by
        have hN1 : ∃ M, R.2.2 ++ [(4, w, R.1)] = N ++ M := by
          obtain ⟨M1, hM1⟩ := r3
          obtain ⟨M2, hM2⟩ := o3
          exact ⟨M2 ++ (M1 ++ [(4, w, R.1)]), by rw [hM1, hM2]; simp only [List.append_assoc]⟩
        rw [hf.at (by rw [List.length_append]; simp), rn_s]
        rw [g_then (P := P) (fun q hq => ⟨(h1 q hq).2.1, (h1 q hq).2.2.2⟩) (fun q hq => ⟨(hEX q hq).1, (hEX q hq).2.2.1⟩) h3 (Nat.le_refl _) (by omega) (by omega)]
        have e1 := h4 Nf Af (hf.pre hN1 o4) v
        have e2 := x3 Nf Af (hf.pre ⟨[(4, w, R.1)], rfl⟩ ⟨[], by rw [List.append_nil]⟩) v
        show (∃ m, gR (at_m S) Ec v q0 s a m ∧ gR (at_m S) (Ep ++ X) v P m a1 e) ↔ ∃ m, nr Af Nf w v s m ∧ nr Af Nf R.1 v m e
        constructor
        · rintro ⟨m, y1, y2⟩
          exact ⟨m, (e1 s m).mp y1, (e2 m e).mp y2⟩
        · rintro ⟨m, y1, y2⟩
          exact ⟨m, (e1 s m).mpr y1, (e2 m e).mpr y2⟩
      have hin : g_in (Ec ++ (a, P, 0, 0) :: (Ep ++ X)) q0 P1 := fun q hq => by
        rcases List.mem_append.mp hq with hq | hq
        · have := h1 q hq; omega
        · rcases List.mem_cons.mp hq with rfl | hq
          · simp only; omega
          · have := hEX q hq; omega
      have hih := ih R.2.2.length R.2.1 (R.2.2 ++ [(4, w, R.1)]) A1 P1 (Ec ++ (a, P, 0, 0) :: (Ep ++ X)) bg1 cl1 ou1 a1 (some P) r2 (by rw [List.length_append]; simp) hin (by omega) z7 hm (Or.inr hpe)
      have hdl : dl S (P, E0 ++ Ec, bg, cl, ou, dp, a, pc, p) (P1, E0 ++ (Ec ++ (a, P, 0, 0) :: (Ep ++ X)), bg1, cl1, ou1, dp, a1, some P, R.2.1) := by
        refine dl_tr z1 ?_
        simp only [List.append_assoc, List.cons_append, List.nil_append] at x1 ⊢
        exact x1
      cases hs : ps_seq S G f R.2.2.length R.2.1 (R.2.2 ++ [(4, w, R.1)]) A1 with
      | inl e =>
        rw [hs] at hih
        exact df_tr hdl hih
      | inr q =>
        obtain ⟨w2, p2, N2, A2⟩ := q
        rw [hs] at hih
        obtain ⟨P2, Ec2, bg2, cl2, ou2, a2, pc2, y1, y2, y3, y4, y5, y6, y7, y8, y9⟩ := hih
        exact ⟨P2, Ec2, bg2, cl2, ou2, a2, pc2, dl_tr hdl y1, by omega, ag_tr z2 y3, ag_tr z3 y4, ag_tr z4 y5, y6, y7, y8, y9⟩
theorem dS_sq (hG : dG S G k) (hok : ps_Gok S G) (h60 : S.length ≤ 60) (hz : ∀ q, q < S.length → nx_of S q ≠ 0) {dp : Nat} (hd : dp + k = 10) {E0 : List Ed} {q0 p : Nat} {N : RdN} {A : RdA} {P : Nat} {bg cl ou : Nat → Nat} (hp : p ≤ S.length) (hq : q0 < P) : dS S (P, E0, bg, cl, ou, dp, q0, none, p) E0 q0 P bg cl ou dp (ps_sq S G p N A) := by
  have h := dS_seq hG hok h60 hz hd (E0 := E0) (q0 := q0) 60 N.length p (N ++ [(0, 0, 0)]) A P [] bg cl ou q0 none hp (by rw [List.length_append]; simp) (fun q hq => by cases hq) (Nat.le_refl _) hq (fun Nf Af hf v s e => by
    rw [hf.at (by rw [List.length_append]; simp), rn_s]
    show _ ↔ e = s
    constructor
    · rintro ⟨n, z⟩
      cases n with
      | zero => exact z.2.symm
      | succ n => obtain ⟨c, m, ⟨q, q1, -⟩, -⟩ := z; cases q1
    · rintro rfl
      exact gR_rf) (Or.inl rfl)
  rw [List.append_nil] at h
  exact h
theorem dA_al (hG : dG S G k) (hok : ps_Gok S G) (h60 : S.length ≤ 60) (hz : ∀ q, q < S.length → nx_of S q ≠ 0) {dp : Nat} (hd : dp + k = 10) {E0 : List Ed} {B C P0 : Nat} (hBC : B ≠ C) (hB : B < P0) (hC : C < P0) (f : Nat) : ∀ (w p : Nat) (N : RdN) (A : RdA) (P : Nat) (Ec : List Ed) (bg cl ou : Nat → Nat) (a : Nat) (pc : Option Nat), p ≤ S.length → w < N.length → P0 ≤ P → bg dp = B → cl dp = C → (∀ q ∈ Ec, (q.1 = B ∨ P0 ≤ q.1) ∧ q.1 < P ∧ (q.2.1 = C ∨ P0 ≤ q.2.1) ∧ q.2.1 < P) → P0 ≤ a → a < P → mns S N A (Ec ++ [(a, C, 0, 0)]) B C w → dA S (P, E0 ++ Ec, bg, cl, ou, dp, a, pc, p) E0 B C P0 bg cl ou dp (ps_al S G f w p N A) := by
  induction f with
  | zero =>
    intro w p N A P Ec bg cl ou a pc hp hw hP hbg hcl h1 h2 h3 h4
    exact ⟨P, Ec, bg, cl, ou, a, pc, dl_rf, hP, ag_rf, ag_rf, ag_rf, h1, h2, h3, h4⟩
  | succ f ih =>
    intro w p N A P Ec bg cl ou a pc hp hw hP hbg hcl h1 h2 h3 h4
    unfold ps_al
    by_cases ht' : ¬ nx_of S p = 124
    · rw [if_neg ht']
      exact ⟨P, Ec, bg, cl, ou, a, pc, dl_rf, hP, ag_rf, ag_rf, ag_rf, h1, h2, h3, h4⟩
    have ht := Classical.not_not.mp ht'
    rw [if_pos ht]
    have hlt : p < S.length := nx_lt2 ht (by decide)
    have st : dr_step S (P, E0 ++ Ec, bg, cl, ou, dp, a, pc, p) = dr_st S P (E0 ++ Ec) bg cl ou dp a pc p := rfl
    unfold dr_st at st
    rw [if_neg (by rw [ht]; decide), if_pos ht, hbg, hcl] at st
    have hsq := dS_sq (N := N) (A := A) hG hok h60 hz hd (E0 := E0 ++ Ec ++ [(a, C, 0, 0), (B, P, 0, 0)]) (q0 := P) (p := p + 1) (P := P + 1) (bg := bg) (cl := cl) (ou := ou) (by omega) (by omega)
    have ok := ps_sq_ok (N := N) (A := A) hok (p := p + 1) (by omega)
    cases hs : ps_sq S G (p + 1) N A with
    | inl e =>
      rw [hs] at hsq
      exact df_tr (dl_1 hlt st) hsq
    | inr q =>
      obtain ⟨w1, p1, N1, A1⟩ := q
      rw [hs] at hsq ok
      obtain ⟨o1, o2, o3, o4, o5, o6, o7⟩ := ok
      obtain ⟨P1, Ec1, bg1, cl1, ou1, a1, pc1, y1, y2, y3, y4, y5, y6, y7, y8, y9⟩ := hsq
      have hE : E0 ++ Ec ++ [(a, C, 0, 0), (B, P, 0, 0)] ++ Ec1 = E0 ++ (Ec ++ [(a, C, 0, 0)] ++ (B, P, 0, 0) :: Ec1) := by
        simp only [List.append_assoc, List.cons_append, List.nil_append]
      rw [hE] at y1
      have hm : mns S (N1 ++ [(5, w, w1)]) A1 (Ec ++ [(a, C, 0, 0)] ++ (B, P, 0, 0) :: Ec1 ++ [(a1, C, 0, 0)]) B C N1.length := fun Nf Af hf v s e => by
        have hN1 : ∃ M, N1 ++ [(5, w, w1)] = N ++ M := by
          obtain ⟨M2, hM2⟩ := o3
          exact ⟨M2 ++ [(5, w, w1)], by rw [hM2]; simp only [List.append_assoc]⟩
        rw [hf.at (by rw [List.length_append]; simp), rn_s]
        have hassoc : Ec ++ [(a, C, 0, 0)] ++ (B, P, 0, 0) :: Ec1 ++ [(a1, C, 0, 0)] = (Ec ++ [(a, C, 0, 0)]) ++ (B, P, 0, 0) :: (Ec1 ++ [(a1, C, 0, 0)]) := by
          simp only [List.append_assoc, List.cons_append, List.nil_append]
        rw [hassoc, g_alt hBC (by omega) (by omega) (fun q hq => ?_) (fun q hq => ?_) (fun q hq => ?_) (fun q hq => ⟨(y6 q hq).1, (y6 q hq).2.2.1⟩) y7]
        · have e1 := h4 Nf Af (hf.pre hN1 o4) v s e
          have e2 := y9 Nf Af (hf.pre ⟨[(5, w, w1)], rfl⟩ ⟨[], by rw [List.append_nil]⟩) v s e
          show _ ↔ (nr Af Nf w v s e ∨ nr Af Nf w1 v s e)
          rw [e1, e2]
        · rcases List.mem_append.mp hq with hq | hq
          · have := h1 q hq; omega
          · rw [List.mem_singleton.mp hq]; simp only; omega
        · rcases List.mem_append.mp hq with hq | hq
          · have := h1 q hq; omega
          · rw [List.mem_singleton.mp hq]; simp only; exact fun z => hBC z.symm
        · rcases List.mem_append.mp hq with hq | hq
          · have := h1 q hq; omega
          · rw [List.mem_singleton.mp hq]; simp only; omega
      have hEc : ∀ q ∈ Ec ++ [(a, C, 0, 0)] ++ (B, P, 0, 0) :: Ec1, (q.1 = B ∨ P0 ≤ q.1) ∧ q.1 < P1 ∧ (q.2.1 = C ∨ P0 ≤ q.2.1) ∧ q.2.1 < P1 := fun q hq => by
        rcases List.mem_append.mp hq with hq | hq
        · rcases List.mem_append.mp hq with hq | hq
          · have := h1 q hq; omega
          · rw [List.mem_singleton.mp hq]; exact ⟨Or.inr h2, (by omega : a < P1), Or.inl rfl, (by omega : C < P1)⟩
        · rcases List.mem_cons.mp hq with rfl | hq
          · exact ⟨Or.inl rfl, (by omega : B < P1), Or.inr hP, (by omega : P < P1)⟩
          · have := y6 q hq; omega
      have hih := ih N1.length p1 (N1 ++ [(5, w, w1)]) A1 P1 (Ec ++ [(a, C, 0, 0)] ++ (B, P, 0, 0) :: Ec1) bg1 cl1 ou1 a1 pc1 o2 (by rw [List.length_append]; simp) (by omega) ((y3 dp (Nat.le_refl _)).trans hbg) ((y4 dp (Nat.le_refl _)).trans hcl) hEc (by omega) y8 hm
      have hdl := dl_tr (dl_1 (u := (P, E0 ++ Ec, bg, cl, ou, dp, a, pc, p)) hlt st) y1
      show dA S (P, E0 ++ Ec, bg, cl, ou, dp, a, pc, p) E0 B C P0 bg cl ou dp (ps_al S G f N1.length p1 (N1 ++ [(5, w, w1)]) A1)
      cases hs2 : ps_al S G f N1.length p1 (N1 ++ [(5, w, w1)]) A1 with
      | inl e =>
        rw [hs2] at hih
        exact df_tr hdl hih
      | inr q =>
        obtain ⟨w2, p2, N2, A2⟩ := q
        rw [hs2] at hih
        obtain ⟨P2, Ec2, bg2, cl2, ou2, a2, pc2, x1, x2, x3, x4, x5, x6, x7, x8, x9⟩ := hih
        exact ⟨P2, Ec2, bg2, cl2, ou2, a2, pc2, dl_tr hdl x1, x2, ag_tr y3 x3, ag_tr y4 x4, ag_tr y5 x5, x6, x7, x8, x9⟩
theorem dA_alt (hG : dG S G k) (hok : ps_Gok S G) (h60 : S.length ≤ 60) (hz : ∀ q, q < S.length → nx_of S q ≠ 0) {dp : Nat} (hd : dp + k = 10) {E0 : List Ed} {B C q0 p : Nat} {N : RdN} {A : RdA} {P : Nat} {bg cl ou : Nat → Nat} (hBC : B ≠ C) (hB : B < q0) (hC : C < q0) (hq : q0 < P) (hbg : bg dp = B) (hcl : cl dp = C) (hp : p ≤ S.length) : dA S (P, E0 ++ [(B, q0, 0, 0)], bg, cl, ou, dp, q0, none, p) E0 B C q0 bg cl ou dp (ps_alt S G p N A) := by
  unfold ps_alt
  have hsq := dS_sq (N := N) (A := A) hG hok h60 hz hd (E0 := E0 ++ [(B, q0, 0, 0)]) (q0 := q0) (p := p) (P := P) (bg := bg) (cl := cl) (ou := ou) hp hq
  have ok := ps_sq_ok (N := N) (A := A) hok hp
  cases hs : ps_sq S G p N A with
  | inl e =>
    rw [hs] at hsq
    exact hsq
  | inr q =>
    obtain ⟨w1, p1, N1, A1⟩ := q
    rw [hs] at hsq ok
    obtain ⟨o1, o2, o3, o4, o5, o6, o7⟩ := ok
    obtain ⟨P1, Ec1, bg1, cl1, ou1, a1, pc1, y1, y2, y3, y4, y5, y6, y7, y8, y9⟩ := hsq
    rw [List.append_assoc] at y1
    have hm : mns S N1 A1 ([(B, q0, 0, 0)] ++ Ec1 ++ [(a1, C, 0, 0)]) B C w1 := fun Nf Af hf v s e => by
      have hassoc : [(B, q0, 0, 0)] ++ Ec1 ++ [(a1, C, 0, 0)] = [] ++ (B, q0, 0, 0) :: (Ec1 ++ [(a1, C, 0, 0)]) := by
        simp only [List.append_assoc, List.cons_append, List.nil_append]
      rw [hassoc, g_alt hBC hB hC (fun q hq => by cases hq) (fun q hq => by cases hq) (fun q hq => by cases hq) (fun q hq => ⟨(y6 q hq).1, (y6 q hq).2.2.1⟩) y7, ← y9 Nf Af hf v s e]
      constructor
      · rintro (⟨n, z⟩ | z)
        · cases n with
          | zero => exact absurd z.1 hBC
          | succ n => obtain ⟨c, m, ⟨q, q1, -⟩, -⟩ := z; cases q1
        · exact z
      · exact Or.inr
    have hEc : ∀ q ∈ [(B, q0, 0, 0)] ++ Ec1, (q.1 = B ∨ q0 ≤ q.1) ∧ q.1 < P1 ∧ (q.2.1 = C ∨ q0 ≤ q.2.1) ∧ q.2.1 < P1 := fun q hq => by
      rcases List.mem_append.mp hq with hq | hq
      · rw [List.mem_singleton.mp hq]; exact ⟨Or.inl rfl, (by omega : B < P1), Or.inr (Nat.le_refl _), (by omega : q0 < P1)⟩
      · have := y6 q hq; omega
    have h := dA_al hG hok h60 hz hd (E0 := E0) (P0 := q0) hBC hB hC 60 w1 p1 N1 A1 P1 ([(B, q0, 0, 0)] ++ Ec1) bg1 cl1 ou1 a1 pc1 o2 o6 (by omega) ((y3 dp (Nat.le_refl _)).trans hbg) ((y4 dp (Nat.le_refl _)).trans hcl) hEc y7 y8 hm
    show dA S (P, E0 ++ [(B, q0, 0, 0)], bg, cl, ou, dp, q0, none, p) E0 B C q0 bg cl ou dp (ps_al S G 60 w1 p1 N1 A1)
    cases hs2 : ps_al S G 60 w1 p1 N1 A1 with
    | inl e =>
      rw [hs2] at h
      exact df_tr y1 h
    | inr q =>
      obtain ⟨w2, p2, N2, A2⟩ := q
      rw [hs2] at h
      obtain ⟨P2, Ec2, bg2, cl2, ou2, a2, pc2, x1, x2, x3, x4, x5, x6, x7, x8, x9⟩ := h
      exact ⟨P2, Ec2, bg2, cl2, ou2, a2, pc2, dl_tr y1 x1, x2, ag_tr y3 x3, ag_tr y4 x4, ag_tr y5 x5, x6, x7, x8, x9⟩
theorem dG_grp (h60 : S.length ≤ 60) (hz : ∀ q, q < S.length → nx_of S q ≠ 0) (k : Nat) : dG S (ps_grp S k) k := by
  induction k with
  | zero =>
    intro p N A P E bg cl ou dp a pc hp h40 hd ha
    have st : dr_step S (P, E, bg, cl, ou, dp, a, pc, p) = dr_st S P E bg cl ou dp a pc p := rfl
    unfold dr_st at st
    rw [if_neg (by rw [h40]; decide), if_neg (by rw [h40]; decide), if_pos h40, if_pos (by omega)] at st
    exact df_1 hp st
  | succ k ih =>
    intro p N A P E bg cl ou dp a pc hp h40 hd ha
    have st : dr_step S (P, E, bg, cl, ou, dp, a, pc, p) = dr_st S P E bg cl ou dp a pc p := rfl
    unfold dr_st at st
    rw [if_neg (by rw [h40]; decide), if_neg (by rw [h40]; decide), if_pos h40, if_neg (by omega)] at st
    have hok := ps_grp_ok (S := S) k
    have halt := dA_alt (N := N) (A := A) ih hok h60 hz (dp := dp + 1) (by omega) (E0 := E ++ [(a, P, 0, 0), (P, P + 1, 0, 0)]) (B := P + 1) (C := P + 2) (q0 := P + 3) (p := p + 1) (P := P + 4) (bg := up1 bg (dp + 1) (P + 1)) (cl := up1 cl (dp + 1) (P + 2)) (ou := up1 ou (dp + 1) P) (by omega) (by omega) (by omega) (by omega) up1_s up1_s (by omega)
    have hE : E ++ [(a, P, 0, 0), (P, P + 1, 0, 0), (P + 1, P + 3, 0, 0)] = E ++ [(a, P, 0, 0), (P, P + 1, 0, 0)] ++ [(P + 1, P + 3, 0, 0)] := by
      simp only [List.append_assoc, List.cons_append, List.nil_append]
    rw [hE] at st
    have hd1 := dl_1 (u := (P, E, bg, cl, ou, dp, a, pc, p)) hp st
    have ok := ps_alt_ok (N := N) (A := A) hok (p := p + 1) (by omega)
    unfold ps_grp
    cases hs : ps_alt S (ps_grp S k) (p + 1) N A with
    | inl e =>
      rw [hs] at halt
      exact df_tr hd1 halt
    | inr q =>
      obtain ⟨w1, p1, N1, A1⟩ := q
      rw [hs] at halt ok
      have hend := ps_alt_end hok h60 (by omega) hs
      obtain ⟨o1, o2, o3, o4, o5, o6, o7⟩ := ok
      obtain ⟨P1, Ec, bg1, cl1, ou1, a1, pc1, y1, y2, y3, y4, y5, y6, y7, y8, y9⟩ := halt
      simp only
      by_cases h41 : nx_of S p1 = 41
      · rw [if_pos h41]
        have hlt : p1 < S.length := nx_lt2 h41 (by decide)
        have st2 : dr_step S (P1, E ++ [(a, P, 0, 0), (P, P + 1, 0, 0)] ++ Ec, bg1, cl1, ou1, dp + 1, a1, pc1, p1) = dr_st S P1 (E ++ [(a, P, 0, 0), (P, P + 1, 0, 0)] ++ Ec) bg1 cl1 ou1 (dp + 1) a1 pc1 p1 := rfl
        unfold dr_st at st2
        rw [if_neg (by rw [h41]; decide), if_neg (by rw [h41]; decide), if_neg (by rw [h41]; decide), if_pos h41, if_neg (by omega), (y4 (dp + 1) (Nat.le_refl _)).trans up1_s, (y5 (dp + 1) (Nat.le_refl _)).trans up1_s, Nat.add_sub_cancel] at st2
        have hE2 : E ++ [(a, P, 0, 0), (P, P + 1, 0, 0)] ++ Ec ++ [(a1, P + 2, 0, 0), (P + 2, P1, 0, 0)] = E ++ (a, P, 0, 0) :: ((P, P + 1, 0, 0) :: (Ec ++ [(a1, P + 2, 0, 0)] ++ [(P + 2, P1, 0, 0)])) := by
          simp only [List.append_assoc, List.cons_append, List.nil_append]
        rw [hE2] at st2
        have hmem : ∀ q ∈ (P, P + 1, 0, 0) :: (Ec ++ [(a1, P + 2, 0, 0)] ++ [(P + 2, P1, 0, 0)]), q = (P, P + 1, 0, 0) ∨ q ∈ Ec ∨ q = (a1, P + 2, 0, 0) ∨ q = (P + 2, P1, 0, 0) := fun q hq => by
          simp only [List.mem_append, List.mem_cons, List.not_mem_nil, or_false, or_assoc] at hq
          exact hq
        refine ⟨P1 + 1, (P, P + 1, 0, 0) :: (Ec ++ [(a1, P + 2, 0, 0)] ++ [(P + 2, P1, 0, 0)]), bg1, cl1, ou1, P1, dl_tr hd1 (dl_tr y1 (dl_1 hlt st2)), ag_tr ag_up (ag_le y3 (by omega)), ag_tr ag_up (ag_le y4 (by omega)), ag_tr ag_up (ag_le y5 (by omega)), fun q hq => ?_, by omega, by omega, fun q hq => ?_, fun q hq => ?_, fun Nf Af hf v s e => ?_⟩
        · rcases hmem q hq with rfl | hq | rfl | rfl
          · simp only; omega
          · have := y6 q hq; omega
          · simp only; omega
          · simp only; omega
        · rcases hmem q hq with rfl | hq | rfl | rfl
          · simp only; omega
          · have := y6 q hq; omega
          · simp only; omega
          · simp only; omega
        · rcases hmem q hq with rfl | hq | rfl | rfl
          · simp only; omega
          · have := y6 q hq; omega
          · simp only; omega
          · simp only; omega
        · rw [g_grp (fun q hq => ?_) (by omega) (by omega) (by omega) (by omega) (by omega)]
          · exact y9 Nf Af hf v s e
          · rcases List.mem_append.mp hq with hq | hq
            · have := y6 q hq; omega
            · rw [List.mem_singleton.mp hq]; simp only; omega
      · rw [if_neg h41]
        have h0 : nx_of S p1 = 0 := hend.elim id (fun z => absurd z h41)
        have hpe : ¬ p1 < S.length := fun z => hz p1 z h0
        refine df_tr hd1 ⟨_, y1, Or.inr ⟨hpe, Nat.succ_pos _, ?_⟩⟩
        show p1 = S.length
        omega
/-- the drawing of a whole text -/
def dr_0 : DrS := (3, [(0, 2, 0, 0)], fun _ => 0, fun _ => 1, fun _ => 0, 0, 2, none, 0)
theorem dr_read (h60 : S.length ≤ 60) (hz : ∀ q, q < S.length → nx_of S q ≠ 0) (bg cl ou : Nat → Nat) (hbg : bg 0 = 0) (hcl : cl 0 = 1) : match ps_read S with
  | .inl e => df S (3, [(0, 2, 0, 0)], bg, cl, ou, 0, 2, none, 0) e
  | .inr _ => ∃ (P1 : Nat) (E1 : List Ed) (bg1 cl1 ou1 : Nat → Nat) (a1 : Nat) (pc1 : Option Nat), dl S (3, [(0, 2, 0, 0)], bg, cl, ou, 0, 2, none, 0) (P1, E1, bg1, cl1, ou1, 0, a1, pc1, S.length) ∧ ∀ v s e, gR (at_m S) (E1 ++ [(a1, 1, 0, 0)]) v 0 s 1 e ↔ ps_rel S v s e := by
  have hok := ps_grp_ok (S := S) 10
  have halt := dA_alt (N := []) (A := []) (dG_grp h60 hz 10) hok h60 hz (dp := 0) (by omega) (E0 := []) (B := 0) (C := 1) (q0 := 2) (p := 0) (P := 3) (bg := bg) (cl := cl) (ou := ou) (by omega) (by omega) (by omega) (by omega) hbg hcl (by omega)
  have ok := ps_alt_ok (N := []) (A := []) hok (p := 0) (Nat.zero_le S.length)
  have hrel : ∀ w N A, ps_read S = .inr (w, N, A) → ps_rel S = nr A N w := fun w N A h => by unfold ps_rel; rw [h]
  have hrok : ∀ w N A, ps_read S = .inr (w, N, A) → nd_ok N A.length := fun w N A h => (ps_read_ok h).1
  have hrd : ps_read S = (match ps_alt S (ps_grp S 10) 0 [] [] with
    | .inl e => .inl e
    | .inr (w, p, N, A) => if p < S.length then .inl p else .inr (w, N, A)) := rfl
  cases hs : ps_alt S (ps_grp S 10) 0 [] [] with
  | inl e =>
    rw [hs] at halt hrd
    simp only at hrd
    rw [hrd]
    exact halt
  | inr q =>
    obtain ⟨w1, p1, N1, A1⟩ := q
    have hend := ps_alt_end hok h60 (Nat.zero_le _) hs
    rw [hs] at halt ok hrd
    obtain ⟨o1, o2, o3, o4, o5, o6, o7⟩ := ok
    obtain ⟨P1, Ec, bg1, cl1, ou1, a1, pc1, y1, y2, y3, y4, y5, y6, y7, y8, y9⟩ := halt
    rw [List.nil_append, List.nil_append] at y1
    simp only at hrd
    by_cases hp1 : p1 < S.length
    · rw [if_pos hp1] at hrd
      rw [hrd]
      have h41 : nx_of S p1 = 41 := hend.elim (fun z => absurd z (hz p1 hp1)) id
      have st : dr_step S (P1, Ec, bg1, cl1, ou1, 0, a1, pc1, p1) = dr_st S P1 Ec bg1 cl1 ou1 0 a1 pc1 p1 := rfl
      unfold dr_st at st
      rw [if_neg (by rw [h41]; decide), if_neg (by rw [h41]; decide), if_neg (by rw [h41]; decide), if_pos h41, if_pos rfl] at st
      exact df_tr y1 (df_1 hp1 st)
    · rw [if_neg hp1] at hrd
      have hpe : p1 = S.length := by omega
      rw [hrd]
      refine ⟨P1, Ec, bg1, cl1, ou1, a1, pc1, by rw [← hpe]; exact y1, fun v s e => ?_⟩
      rw [hrel _ _ _ hrd]
      exact y9 N1 A1 ⟨hrok _ _ _ hrd, ⟨[], by rw [List.append_nil]⟩, ⟨[], by rw [List.append_nil]⟩⟩ v s e
end
