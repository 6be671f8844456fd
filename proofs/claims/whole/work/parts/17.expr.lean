/-! class Expression: an automaton over atoms; its runs -/
section
variable {l : Launch} {E : We} {n0 d nx : Nat} {t : Wt} {r : Wr} {i : Wi} {g : Wl}
theorem c_Arr_fill {s n : Nat} {x : Int64} (hs : t s = some (.inr (2, n))) (hn : n ≤ 1000) : Ct l E n0 mt_Arr_fill d 0 0 [.ref s, .long x] nx t r i g (qVl nx t r (fun i' g' => i' = i ∧ (∀ k, k < n → g' s k = x) ∧ fr_is [s] g g')) := by
  refine Ct.ofF (by decide +kernel) (Nat.le_of_ble_eq_true rfl) ?_
  refine wf_iconst 0 dc_Arr_fill_0 (by decide) ?_
  refine wf_istore_n dc_Arr_fill_1 (by decide) ?_
  refine wf_aload_n dc_Arr_fill_2 rfl ?_
  refine wf_alen dc_Arr_fill_3 (by assumption) ?_
  refine wf_istore dc_Arr_fill_4 (by decide) ?_
  have loop : ∀ (k j : Nat) (g1 : Wl), j + k = n → (∀ k, k < j → g1 s k = x) → fr_is [s] g g1 → Wf l E n0 mt_Arr_fill d 0 0 (qVl nx t r (fun i' g' => i' = i ∧ (∀ k, k < n → g' s k = x) ∧ fr_is [s] g g')) 0 0 6 [(0, .ref s), (1, .long x), (3, .int (nI j)), (4, .int (nI n))] [] nx t r i g1 := by
    intro k
    induction k with
    | zero =>
      intro j g1 hj hx hf
      refine wf_iload_n dc_Arr_fill_6 rfl ?_
      refine wf_iload dc_Arr_fill_7 rfl ?_
      refine wf_icmp_ge 22 dc_Arr_fill_9 (by decide) (fun hc => ?_) (fun hc => absurd ((nI_leI (by omega) (by omega)).mpr (by omega)) hc)
      exact wf_return rfl dc_Arr_fill_22 ⟨rfl, rfl, rfl, rfl, rfl, fun k hk => hx k (by omega), hf⟩
    | succ k ih =>
      intro j g1 hj hx hf
      refine wf_iload_n dc_Arr_fill_6 rfl ?_
      refine wf_iload dc_Arr_fill_7 rfl ?_
      refine wf_icmp_ge 22 dc_Arr_fill_9 (by decide) (fun hc => absurd ((nI_leI (by omega) (by omega)).mp hc) (by omega)) (fun hc => ?_)
      refine wf_aload_n dc_Arr_fill_12 rfl ?_
      refine wf_iload_n dc_Arr_fill_13 rfl ?_
      refine wf_lload_n dc_Arr_fill_14 rfl ?_
      refine wf_lastore (y := 2) dc_Arr_fill_15 rfl (by decide) (by assumption) (vp_in_nI (by omega) (by omega)) ?_
      rw [nI_clamp (by omega)]
      refine wf_iinc _ dc_Arr_fill_16 rfl (nI_1 j) (by decide) ?_
      refine wf_goto 6 dc_Arr_fill_19 (by decide) ?_
      refine Wf.to (by exact ⟨rfl, rfl, rfl, rfl, trivial⟩) (ih (j + 1) _ (by omega) (fun k hk => ?_) (fr_up hf (by simp)))
      by_cases hkj : k = j
      · rw [hkj, wf_up_s]
      · rw [wf_up_k hkj]
        exact hx k (by omega)
  exact Wf.to (by exact ⟨rfl, rfl, rfl, rfl, trivial⟩) (loop n 0 g (by omega) (fun k hk => absurd hk (Nat.not_lt_zero _)) fr_rf)
/-- expression object a: takers, followers, firsts, lasts, matchesEmpty -/
def ex_at (t : Wt) (r : Wr) (a tk fo fi la me : Nat) : Prop := t a = some (.inl 2) ∧ (r a 0 = some tk ∧ t tk = some (.inr (2, 256))) ∧ (r a 1 = some fo ∧ t fo = some (.inr (2, 60))) ∧ (r a 2 = some fi ∧ t fi = some (.inr (2, 4))) ∧ (r a 3 = some la ∧ t la = some (.inr (2, 4))) ∧ (r a 4 = some me ∧ t me = some (.inr (1, 4))) ∧ tk ≠ fo
theorem c_Exp_drop {a tk fo fi la me : Nat} (hA : ex_at t r a tk fo fi la me) : Ct l E n0 mt_Exp_drop (d + 1) 0 0 [.ref a] nx t r i g (qVl nx t r (fun i' g' => i' a 5 = 0 ∧ (∀ k, k < 256 → g' tk k = 0) ∧ (∀ k, k < 60 → g' fo k = 0) ∧ fr_is [a] i i' ∧ fr_is [tk, fo] g g')) := by
  obtain ⟨ha, ⟨r0, t0⟩, ⟨r1, t1⟩, -, -, -, hne⟩ := hA
  refine Ct.of (by decide) (Nat.le_of_ble_eq_true rfl) ?_
  refine wf_aload_n dc_Exp_drop_0 rfl ?_
  refine wf_getr dc_Exp_drop_1 fl_Exp_9 rfl (by assumption) (by assumption) ?_
  refine wf_lconst 0 dc_Exp_drop_4 (by decide) ?_
  refine wf_is2 (M' := mt_Arr_fill) dc_Exp_drop_5 tg_Arr_fill ml_Exp_28 sm_Arr_fill (Nat.le_of_ble_eq_true rfl) (Nat.le_refl _) (Nat.le_refl _) (c_Arr_fill t0 (by omega)) qVl_nt (qVl_go (fun i2 g2 hp => ?_))
  obtain ⟨rfl, h1, h2⟩ := hp
  refine wf_aload_n dc_Exp_drop_8 rfl ?_
  refine wf_getr dc_Exp_drop_9 fl_Exp_15 rfl (by assumption) (by assumption) ?_
  refine wf_lconst 0 dc_Exp_drop_12 (by decide) ?_
  refine wf_is2 (M' := mt_Arr_fill) dc_Exp_drop_13 tg_Arr_fill ml_Exp_28 sm_Arr_fill (Nat.le_of_ble_eq_true rfl) (Nat.le_refl _) (Nat.le_refl _) (c_Arr_fill t1 (by omega)) qVl_nt (qVl_go (fun i2 g2 hp => ?_))
  obtain ⟨rfl, h3, h4⟩ := hp
  refine wf_aload_n dc_Exp_drop_16 rfl ?_
  refine wf_iconst 0 dc_Exp_drop_17 (by decide) ?_
  refine wf_puti dc_Exp_drop_18 fl_Exp_34 (Or.inl nf_Exp_5) rfl rfl rfl (by assumption) ?_
  refine wf_return rfl dc_Exp_drop_21 ⟨rfl, rfl, rfl, rfl, wf_up_s, fun k hk => ?_, h3, fr_up fr_rf (by simp), fr_tr h2 h4⟩
  rw [h4 tk (by simp [hne]) k]
  exact h1 k hk
/-- which kind of place p is in a text of n signs: 1 the beginning, 2 the end, 3 both -/
def pq_of (p n : Nat) : Nat := (if p = 0 then 1 else 0) + (if p = n then 2 else 0)
theorem pq_lt (p n : Nat) : pq_of p n < 4 := by
  unfold pq_of
  repeat' split
  all_goals omega
theorem c_Exp_kindOf {p n : Nat} (hp : p < 2 ^ 31) (hn : n < 2 ^ 31) : Ct l E n0 mt_Exp_kindOf d 0 0 [.int (nI p), .int (nI n)] nx t r i g (qI nx t r g (fun z i' => z = nI (pq_of p n) ∧ i' = i)) := by
  refine Ct.of (by decide) (Nat.le_of_ble_eq_true rfl) ?_
  have tail : ∀ x : Int32, x = nI (if p = 0 then 1 else 0) → Wf l E n0 mt_Exp_kindOf d 0 0 (qI nx t r g (fun z i' => z = nI (pq_of p n) ∧ i' = i)) 0 0 9 [(0, .int (nI p)), (1, .int (nI n))] [.int x] nx t r i g := by
    intro x hx
    subst hx
    refine wf_iload_n dc_Exp_kindOf_9 rfl ?_
    refine wf_iload_n dc_Exp_kindOf_10 rfl ?_
    refine wf_icmp_ne 18 dc_Exp_kindOf_11 (by decide) (fun hc => ?_) (fun hc => ?_)
    · have h : ¬ p = n := fun q => hc (by rw [q])
      refine wf_iconst 0 dc_Exp_kindOf_18 (by decide) ?_
      refine wf_ior dc_Exp_kindOf_19 ?_
      refine wf_ireturn rfl dc_Exp_kindOf_20 ⟨_, rfl, rfl, rfl, rfl, rfl, ?_, rfl⟩
      rw [pq_of, if_neg h]
      by_cases h0 : p = 0
      · rw [if_pos h0]; decide
      · rw [if_neg h0]; decide
    · have h : p = n := (nI_eq hp hn).mp hc
      refine wf_iconst 2 dc_Exp_kindOf_14 (by decide) ?_
      refine wf_goto 19 dc_Exp_kindOf_15 (by decide) ?_
      refine wf_ior dc_Exp_kindOf_19 ?_
      refine wf_ireturn rfl dc_Exp_kindOf_20 ⟨_, rfl, rfl, rfl, rfl, rfl, ?_, rfl⟩
      rw [pq_of, if_pos h]
      by_cases h0 : p = 0
      · rw [if_pos h0]; decide
      · rw [if_neg h0]; decide
  refine wf_iload_n dc_Exp_kindOf_0 rfl ?_
  refine wf_if_ne 8 dc_Exp_kindOf_1 (by decide) (fun hc => ?_) (fun hc => ?_)
  · refine wf_iconst 0 dc_Exp_kindOf_8 (by decide) ?_
    exact tail 0 (by rw [if_neg (fun q => hc (by rw [q]; rfl))]; rfl)
  · refine wf_iconst 1 dc_Exp_kindOf_4 (by decide) ?_
    refine wf_goto 9 dc_Exp_kindOf_5 (by decide) ?_
    exact tail 1 (by rw [if_pos ((nI_eq (b := 0) hp (by omega)).mp hc)]; rfl)
theorem c_Exp_followersOf {a tk fo fi la me m : Nat} {x : Int64} (hA : ex_at t r a tk fo fi la me) (hm : i a 5 = nI m) (hm60 : m ≤ 60) : Ct l E n0 mt_Exp_followersOf d 0 0 [.ref a, .long x] nx t r i g (qL nx t r g (fun z i' => (∀ b, lb z b = true ↔ ∃ j, j < m ∧ lb x j = true ∧ lb (g fo j) b = true) ∧ i' = i)) := by
  obtain ⟨ha, -, ⟨r1, t1⟩, -⟩ := hA
  refine Ct.of (by decide) (Nat.le_of_ble_eq_true rfl) ?_
  refine wf_lconst 0 dc_Exp_followersOf_0 (by decide) ?_
  refine wf_lstore_n dc_Exp_followersOf_1 (by decide) ?_
  refine wf_lload_n dc_Exp_followersOf_2 rfl ?_
  refine wf_lstore dc_Exp_followersOf_3 (by decide) ?_
  refine wf_iconst 0 dc_Exp_followersOf_5 (by decide) ?_
  refine wf_istore dc_Exp_followersOf_6 (by decide) ?_
  have fin : ∀ (z y : Int64) (q : Int32), (∀ b, lb z b = true ↔ ∃ j, j < m ∧ lb x j = true ∧ lb (g fo j) b = true) → Wf l E n0 mt_Exp_followersOf d 0 0 (qL nx t r g (fun z i' => (∀ b, lb z b = true ↔ ∃ j, j < m ∧ lb x j = true ∧ lb (g fo j) b = true) ∧ i' = i)) 0 0 55 [(0, .ref a), (3, .long z), (5, .long y), (7, .int q)] [] nx t r i g := by
    intro z y q h
    refine wf_lload_n dc_Exp_followersOf_55 rfl ?_
    exact wf_lreturn rfl dc_Exp_followersOf_56 ⟨z, rfl, rfl, rfl, rfl, rfl, h, rfl⟩
  have loop : ∀ (k j : Nat) (z y : Int64), j + k = m → (∀ b, lb y b = lb x (b + j)) → (∀ b, lb z b = true ↔ ∃ q, q < j ∧ lb x q = true ∧ lb (g fo q) b = true) → Wf l E n0 mt_Exp_followersOf d 0 0 (qL nx t r g (fun z i' => (∀ b, lb z b = true ↔ ∃ j, j < m ∧ lb x j = true ∧ lb (g fo j) b = true) ∧ i' = i)) 0 0 8 [(0, .ref a), (3, .long z), (5, .long y), (7, .int (nI j))] [] nx t r i g := by
    intro k
    induction k with
    | zero =>
      intro j z y hj hy hz
      refine wf_iload dc_Exp_followersOf_8 rfl ?_
      refine wf_aload_n dc_Exp_followersOf_10 rfl ?_
      refine wf_geti dc_Exp_followersOf_11 fl_Exp_34 rfl (by assumption) ?_
      rw [hm]
      refine wf_icmp_ge 55 dc_Exp_followersOf_14 (by decide) (fun hc => ?_) (fun hc => absurd ((nI_leI (by omega) (by omega)).mpr (by omega)) hc)
      refine fin z y _ (fun b => ?_)
      rw [hz b, show j = m by omega]
    | succ k ih =>
      intro j z y hj hy hz
      refine wf_iload dc_Exp_followersOf_8 rfl ?_
      refine wf_aload_n dc_Exp_followersOf_10 rfl ?_
      refine wf_geti dc_Exp_followersOf_11 fl_Exp_34 rfl (by assumption) ?_
      rw [hm]
      refine wf_icmp_ge 55 dc_Exp_followersOf_14 (by decide) (fun hc => absurd ((nI_leI (by omega) (by omega)).mp hc) (by omega)) (fun hc => ?_)
      refine wf_lload dc_Exp_followersOf_17 rfl ?_
      refine wf_lconst 0 dc_Exp_followersOf_19 (by decide) ?_
      refine wf_lcmp dc_Exp_followersOf_20 ?_
      refine wf_if_eq 55 dc_Exp_followersOf_21 (by decide) (fun hc2 => ?_) (fun hc2 => ?_)
      · have hy0 := (lg_cmp_eq _ _).mp hc2
        refine fin z y _ (fun b => ?_)
        rw [hz b]
        constructor
        · rintro ⟨q, h1, h2⟩
          exact ⟨q, by omega, h2⟩
        · rintro ⟨q, h1, h2, h3⟩
          refine ⟨q, Nat.not_le.mp fun h => ?_, h2, h3⟩
          have h4 := hy (q - j)
          rw [hy0, lb_0, show q - j + j = q by omega, h2] at h4
          cases h4
      · refine wf_lload dc_Exp_followersOf_24 rfl ?_
        refine wf_lconst 1 dc_Exp_followersOf_26 (by decide) ?_
        refine wf_land dc_Exp_followersOf_27 ?_
        refine wf_lconst 0 dc_Exp_followersOf_28 (by decide) ?_
        refine wf_lcmp dc_Exp_followersOf_29 ?_
        have go : ∀ z' : Int64, (∀ b, lb z' b = true ↔ ∃ q, q < j + 1 ∧ lb x q = true ∧ lb (g fo q) b = true) → Wf l E n0 mt_Exp_followersOf d 0 0 (qL nx t r g (fun z i' => (∀ b, lb z b = true ↔ ∃ j, j < m ∧ lb x j = true ∧ lb (g fo j) b = true) ∧ i' = i)) 0 0 43 [(0, .ref a), (3, .long z'), (5, .long y), (7, .int (nI j))] [] nx t r i g := by
          intro z' hz'
          refine wf_lload dc_Exp_followersOf_43 rfl ?_
          refine wf_iconst 1 dc_Exp_followersOf_45 (by decide) ?_
          refine wf_lushr dc_Exp_followersOf_46 ?_
          refine wf_lstore dc_Exp_followersOf_47 (by decide) ?_
          refine wf_iinc _ dc_Exp_followersOf_49 rfl (nI_1 j) (by decide) ?_
          refine wf_goto 8 dc_Exp_followersOf_52 (by decide) ?_
          refine Wf.to (by exact ⟨rfl, rfl, rfl, rfl, trivial⟩) (ih (j + 1) z' _ (by omega) (fun b => ?_) hz')
          rw [lb_ushr1, hy, show b + 1 + j = b + (j + 1) by omega]
        refine wf_if_eq 43 dc_Exp_followersOf_30 (by decide) (fun hc3 => ?_) (fun hc3 => ?_)
        · have h0 := (lb_and1 y).mp ((lg_cmp_eq _ _).mp hc3)
          refine Wf.to (by exact ⟨rfl, rfl, rfl, rfl, trivial⟩) (go z (fun b => ?_))
          rw [hz b]
          constructor
          · rintro ⟨q, h1, h2⟩
            exact ⟨q, by omega, h2⟩
          · rintro ⟨q, h1, h2, h3⟩
            refine ⟨q, Nat.lt_of_le_of_ne (by omega) (fun h => ?_), h2, h3⟩
            rw [hy 0, Nat.zero_add, ← h, h2] at h0
            cases h0
        · have h0 : lb x j = true := by
            cases h : lb y 0 with
            | false => exact absurd ((lg_cmp_eq _ _).mpr ((lb_and1 y).mpr h)) hc3
            | true => rw [hy 0, Nat.zero_add] at h; exact h
          refine wf_lload_n dc_Exp_followersOf_33 rfl ?_
          refine wf_aload_n dc_Exp_followersOf_34 rfl ?_
          refine wf_getr dc_Exp_followersOf_35 fl_Exp_15 rfl (by assumption) (by assumption) ?_
          refine wf_iload dc_Exp_followersOf_38 rfl ?_
          refine wf_laload (y := 2) dc_Exp_followersOf_40 rfl (by assumption) (vp_in_nI (by omega) (by omega)) ?_
          refine wf_lor dc_Exp_followersOf_41 ?_
          refine wf_lstore_n dc_Exp_followersOf_42 (by decide) ?_
          rw [nI_clamp (by omega)]
          refine Wf.to (by exact ⟨rfl, rfl, rfl, rfl, trivial⟩) (go _ (fun b => ?_))
          rw [lb_or, Bool.or_eq_true, hz b]
          constructor
          · rintro (⟨q, h1, h2⟩ | h)
            · exact ⟨q, by omega, h2⟩
            · exact ⟨j, by omega, h0, h⟩
          · rintro ⟨q, h1, h2, h3⟩
            by_cases hq : q = j
            · subst hq
              exact Or.inr h3
            · exact Or.inl ⟨q, by omega, h2, h3⟩
  exact Wf.to (by exact ⟨rfl, rfl, rfl, rfl, trivial⟩) (loop m 0 0 x (by omega) (fun b => rfl) (fun b => ⟨fun h => (by rw [lb_0] at h; cases h), fun ⟨q, h, _⟩ => absurd h (Nat.not_lt_zero _)⟩))
end
