/-! finding: the greatest end, the least beginning, as functions of a relation; an expression object that means a relation X -/
noncomputable def mx_of (A : Nat → Prop) : Nat → Option Nat
  | 0 => @ite _ (A 0) (Classical.propDecidable _) (some 0) none
  | n + 1 => @ite _ (A (n + 1)) (Classical.propDecidable _) (some (n + 1)) (mx_of A n)
def oI : Option Nat → Int32
  | none => -1
  | some p => nI p
theorem mx_of_is (A : Nat → Prop) (n : Nat) : mx_is A n (oI (mx_of A n)) := by
  induction n with
  | zero =>
    unfold mx_of
    by_cases h : A 0
    · rw [if_pos h]
      exact mx_yes h
    · rw [if_neg h]
      exact Or.inl ⟨rfl, fun e he => by rw [Nat.le_zero.mp he]; exact h⟩
  | succ n ih =>
    unfold mx_of
    by_cases h : A (n + 1)
    · rw [if_pos h]
      exact mx_yes h
    · rw [if_neg h]
      exact mx_no ih (by omega) (fun e h1 h2 => by rw [show e = n + 1 by omega]; exact h)
theorem mx_is_of {A : Nat → Prop} {n : Nat} {z : Int32} (h : mx_is A n z) : z = oI (mx_of A n) := by
  rcases h with ⟨h1, h2⟩ | ⟨e, h1, h2, h3, h4⟩ <;> rcases mx_of_is A n with ⟨g1, g2⟩ | ⟨e', g1, g2, g3, g4⟩
  · rw [h1, g1]
  · exact absurd g3 (h2 e' g1)
  · exact absurd h3 (g2 e h1)
  · rw [h2, g2, Nat.le_antisymm (g4 e h1 h3) (h4 e' g1 g3)]
theorem mx_of_some {A : Nat → Prop} {n e : Nat} (h : mx_of A n = some e) : e ≤ n ∧ A e ∧ ∀ e', e' ≤ n → A e' → e' ≤ e := by
  induction n with
  | zero =>
    unfold mx_of at h
    by_cases hA : A 0
    · rw [if_pos hA] at h
      cases h
      exact ⟨Nat.le_refl _, hA, fun e' he _ => he⟩
    · rw [if_neg hA] at h
      cases h
  | succ n ih =>
    unfold mx_of at h
    by_cases hA : A (n + 1)
    · rw [if_pos hA] at h
      cases h
      exact ⟨Nat.le_refl _, hA, fun e' he _ => he⟩
    · rw [if_neg hA] at h
      obtain ⟨h1, h2, h3⟩ := ih h
      refine ⟨by omega, h2, fun e' he hA' => ?_⟩
      by_cases he2 : e' = n + 1
      · rw [he2] at hA'; exact absurd hA' hA
      · exact h3 e' (by omega) hA'
theorem mx_of_none {A : Nat → Prop} {n : Nat} (h : mx_of A n = none) : ∀ e, e ≤ n → ¬ A e := by
  induction n with
  | zero =>
    unfold mx_of at h
    by_cases hA : A 0
    · rw [if_pos hA] at h
      cases h
    · intro e he
      rw [Nat.le_zero.mp he]; exact hA
  | succ n ih =>
    unfold mx_of at h
    by_cases hA : A (n + 1)
    · rw [if_pos hA] at h
      cases h
    · rw [if_neg hA] at h
      intro e he
      by_cases he2 : e = n + 1
      · rw [he2]; exact hA
      · exact ih h e (by omega)
theorem mx_of_congr {A B : Nat → Prop} {n : Nat} (h : ∀ e, e ≤ n → (A e ↔ B e)) : mx_of A n = mx_of B n := by
  induction n with
  | zero =>
    unfold mx_of
    by_cases hA : A 0
    · rw [if_pos hA, if_pos ((h 0 (Nat.le_refl _)).mp hA)]
    · rw [if_neg hA, if_neg (fun q => hA ((h 0 (Nat.le_refl _)).mpr q))]
  | succ n ih =>
    unfold mx_of
    rw [ih (fun e he => h e (by omega))]
    by_cases hA : A (n + 1)
    · rw [if_pos hA, if_pos ((h _ (Nat.le_refl _)).mp hA)]
    · rw [if_neg hA, if_neg (fun q => hA ((h _ (Nat.le_refl _)).mpr q))]
/-- the least beginning from p on, k places looked at -/
noncomputable def ff_of (A : Nat → Nat → Prop) (n : Nat) : Nat → Nat → Option Nat
  | 0, _ => none
  | k + 1, p => match mx_of (A p) n with
    | some _ => some p
    | none => ff_of A n k (p + 1)
theorem ff_of_congr {A B : Nat → Nat → Prop} {n : Nat} (h : ∀ p e, p ≤ n → e ≤ n → (A p e ↔ B p e)) : ∀ k p, p + k ≤ n + 1 → ff_of A n k p = ff_of B n k p := by
  intro k
  induction k with
  | zero => intro p _; rfl
  | succ k ih =>
    intro p hp
    unfold ff_of
    rw [mx_of_congr (fun e he => h p e (by omega) he), ih (p + 1) (by omega)]
theorem ff_of_some {A : Nat → Nat → Prop} {n : Nat} : ∀ {k p q : Nat}, ff_of A n k p = some q → p ≤ q ∧ q < p + k ∧ ∃ e, mx_of (A q) n = some e := by
  intro k
  induction k with
  | zero => intro p q h; cases h
  | succ k ih =>
    intro p q h
    unfold ff_of at h
    cases hm : mx_of (A p) n with
    | some e =>
      rw [hm] at h
      cases h
      exact ⟨Nat.le_refl _, by omega, e, hm⟩
    | none =>
      rw [hm] at h
      obtain ⟨h1, h2, h3⟩ := ih h
      exact ⟨by omega, by omega, h3⟩
/-- a relation of places on texts -/
abbrev Rel : Type := List Int32 → Nat → Nat → Prop
/-- the least beginning from b on -/
noncomputable def fd_of (X : Rel) (w : List Int32) (b : Nat) : Option Nat := ff_of (X w) w.length (w.length + 1 - b) b
/-- the end of the longest match from b on -/
noncomputable def en_of (X : Rel) (w : List Int32) (b : Nat) : Option Nat := mx_of (X w b) w.length
theorem fd_some {X : Rel} {w : List Int32} {b q : Nat} (h : fd_of X w b = some q) : b ≤ q ∧ q ≤ w.length ∧ ∃ e, en_of X w q = some e := by
  obtain ⟨h1, h2, h3⟩ := ff_of_some h
  exact ⟨h1, by omega, h3⟩
theorem oI_m1 {o : Option Nat} (h : ∀ q, o = some q → q < 2 ^ 31) : oI o = -1 ↔ o = none := by
  cases o with
  | none => exact ⟨fun _ => rfl, fun _ => rfl⟩
  | some q => exact ⟨fun z => absurd z.symm (mx_m1 (h q rfl)), fun z => by cases z⟩
section
variable {l : Launch} {E : We} {n0 d nx : Nat} {t : Wt} {r : Wr} {i : Wi} {g : Wl}
/-- expression object a means X -/
def ex_is (t : Wt) (r : Wr) (i : Wi) (g : Wl) (a : Nat) (X : Rel) : Prop := ∃ tk fo fi la me m : Nat, ex_at t r a tk fo fi la me ∧ i a 5 = nI m ∧ m ≤ 60 ∧ ∀ w, sg_ok w → w.length ≤ 120 → ∀ b e, b ≤ w.length → e ≤ w.length → (ex_A (g tk) (g fo) (g fi) (g la) (i me) m w b e ↔ X w b e)
theorem k_Exp_longestFrom {a b c s n : Nat} {w : List Int32} {X : Rel} (hX : ex_is t r i g a X) (hC : rw_at t r c s n) (hw : rw_is i c s w) (hl : w.length ≤ n) (hsg : sg_ok w) (hb : b ≤ w.length) :
    Ct l E n0 mt_Exp_longestFrom (d + 1) 0 0 [.ref a, .ref c, .int (nI b)] nx t r i g (qI nx t r g (fun z i' => z = oI (en_of X w b) ∧ i' = i)) := by
  obtain ⟨tk, fo, fi, la, me, m, hA, hm, hm60, hX⟩ := hX
  refine Ct.mono (c_Exp_longestFrom hA hm hm60 hC hw hl hsg hb) ?_
  rintro v nx' t' r' i' g' ⟨x, h1, h2, h3, h4, h5, h6, h7⟩
  refine ⟨x, h1, h2, h3, h4, h5, ?_, h7⟩
  rw [mx_is_of h6, en_of, mx_of_congr (fun e he => hX w hsg (Nat.le_trans hl hC.2.2.2) b e hb he)]
theorem k_Exp_firstFrom {a b c s n : Nat} {w : List Int32} {X : Rel} (hX : ex_is t r i g a X) (hC : rw_at t r c s n) (hw : rw_is i c s w) (hl : w.length ≤ n) (hsg : sg_ok w) (hb : b ≤ w.length + 1) :
    Ct l E n0 mt_Exp_firstFrom (d + 2) 0 0 [.ref a, .ref c, .int (nI b)] nx t r i g (qI nx t r g (fun z i' => z = oI (fd_of X w b) ∧ i' = i)) := by
  have hX' := hX
  have hC' := hC
  have hw' := hw
  obtain ⟨tk, fo, fi, la, me, m, ⟨ha, -⟩, -⟩ := hX
  obtain ⟨hc, hr, hs, hn⟩ := hC
  obtain ⟨w1, w2⟩ := hw
  refine Ct.of (by decide) (Nat.le_of_ble_eq_true rfl) ?_
  refine wf_iload_n dc_Exp_firstFrom_0 rfl ?_
  refine wf_istore_n dc_Exp_firstFrom_1 (by decide) ?_
  have loop : ∀ (k p : Nat), p + k = w.length + 1 → ff_of (X w) w.length k p = fd_of X w b →
      Wf l E n0 mt_Exp_firstFrom (d + 2) 0 0 (qI nx t r g (fun z i' => z = oI (fd_of X w b) ∧ i' = i)) 0 0 2 [(0, .ref a), (1, .ref c), (3, .int (nI p))] [] nx t r i g := by
    intro k
    induction k with
    | zero =>
      intro p hp hf
      refine wf_iload_n dc_Exp_firstFrom_2 rfl ?_
      refine wf_aload_n dc_Exp_firstFrom_3 rfl ?_
      refine wf_geti dc_Exp_firstFrom_4 fl_Exp_38 rfl (by assumption) ?_
      rw [w1]
      refine wf_icmp_gt 28 dc_Exp_firstFrom_7 (by decide) (fun hc => ?_) (fun hc => absurd ((nI_ltI (by omega) (by omega)).mpr (by omega)) hc)
      refine wf_iconst (-1) dc_Exp_firstFrom_28 (by decide) ?_
      exact wf_ireturn rfl dc_Exp_firstFrom_29 ⟨_, rfl, rfl, rfl, rfl, rfl, by rw [← hf]; rfl, rfl⟩
    | succ k ih =>
      intro p hp hf
      refine wf_iload_n dc_Exp_firstFrom_2 rfl ?_
      refine wf_aload_n dc_Exp_firstFrom_3 rfl ?_
      refine wf_geti dc_Exp_firstFrom_4 fl_Exp_38 rfl (by assumption) ?_
      rw [w1]
      refine wf_icmp_gt 28 dc_Exp_firstFrom_7 (by decide) (fun hc => absurd ((nI_ltI (by omega) (by omega)).mp hc) (by omega)) (fun hc => ?_)
      refine wf_aload_n dc_Exp_firstFrom_10 rfl ?_
      refine wf_aload_n dc_Exp_firstFrom_11 rfl ?_
      refine wf_iload_n dc_Exp_firstFrom_12 rfl ?_
      refine wf_iv2 (M' := mt_Exp_longestFrom) (c := 2) dc_Exp_firstFrom_13 tg_Exp_longestFrom ml_Exp_43 im_Exp_longestFrom se_Exp_longestFrom ⟨_, rfl, rfl⟩ (by assumption) (Nat.le_of_ble_eq_true rfl) (Nat.le_refl _) (Nat.le_refl _) (k_Exp_longestFrom hX' hC' hw' hl hsg (by omega)) qI_nt (qI_go (fun x2 i2 hp => ?_))
      obtain ⟨rfl, rfl⟩ := hp
      have hsm : ∀ q, en_of X w p = some q → q < 2 ^ 31 := fun q hq => by
        have := (mx_of_some hq).1
        omega
      unfold ff_of at hf
      refine wf_iconst (-1) dc_Exp_firstFrom_16 (by decide) ?_
      refine wf_icmp_eq 22 dc_Exp_firstFrom_17 (by decide) (fun hc2 => ?_) (fun hc2 => ?_)
      · have h0 := (oI_m1 hsm).mp hc2
        unfold en_of at h0
        rw [h0] at hf
        refine wf_iinc _ dc_Exp_firstFrom_22 rfl (nI_1 p) (by decide) ?_
        refine wf_goto 2 dc_Exp_firstFrom_25 (by decide) ?_
        exact Wf.to (by exact ⟨rfl, rfl, rfl, trivial⟩) (ih (p + 1) (by omega) hf)
      · cases h0 : mx_of (X w p) w.length with
        | none => exact absurd (by rw [en_of, h0]; rfl) hc2
        | some e =>
          rw [h0] at hf
          refine wf_iload_n dc_Exp_firstFrom_20 rfl ?_
          exact wf_ireturn rfl dc_Exp_firstFrom_21 ⟨_, rfl, rfl, rfl, rfl, rfl, by rw [← hf]; rfl, rfl⟩
  exact Wf.to (by exact ⟨rfl, rfl, rfl, trivial⟩) (loop (w.length + 1 - b) b (by omega) rfl)
theorem ex_is.fr {i' : Wi} {a : Nat} {X : Rel} {S : List Nat} (h : ex_is t r i g a X) (hf : fr_is S i i') (ha : a ∉ S) (hm : ∀ m, r a 4 = some m → m ∉ S) : ex_is t r i' g a X := by
  obtain ⟨tk, fo, fi, la, me, m, hA, h1, h2, h3⟩ := h
  refine ⟨tk, fo, fi, la, me, m, hA, (hf a ha 5).trans h1, h2, fun w hw hl b e hb he => ?_⟩
  have e1 : i' me = i me := funext (hf me (hm me hA.2.2.2.2.2.1.1))
  rw [e1]
  exact h3 w hw hl b e hb he
end
