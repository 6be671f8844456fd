/-! class Reader: weighAll -/
def wt_pre (u : Nat) (N : RdN) : Nat → List WtV
  | 0 => []
  | k + 1 => wt_pre u N k ++ [wt_st u (wt_pre u N k) (rd_n N k)]
def wt_all (u : Nat) (N : RdN) : List WtV := wt_pre u N N.length
theorem wt_len (u : Nat) (N : RdN) (k : Nat) : (wt_pre u N k).length = k := by
  induction k with
  | zero => rfl
  | succ k ih =>
    show (wt_pre u N k ++ [_]).length = _
    rw [List.length_append, ih]
    rfl
theorem wv_l {W M : List WtV} {k : Nat} (h : k < W.length) : wt_v (W ++ M) k = wt_v W k := by
  unfold wt_v
  rw [List.getD_eq_getElem?_getD, List.getD_eq_getElem?_getD, List.getElem?_append_left h]
theorem wv_s {W : List WtV} {q : WtV} : wt_v (W ++ [q]) W.length = q := by
  unfold wt_v
  rw [List.getD_eq_getElem?_getD, List.getElem?_append_right (Nat.le_refl _), Nat.sub_self]
  rfl
theorem wt_mono {u : Nat} {N : RdN} {j k : Nat} (hj : j < k) (d : Nat) : wt_v (wt_pre u N (k + d)) j = wt_v (wt_pre u N k) j := by
  induction d with
  | zero => rfl
  | succ d ih =>
    rw [← ih]
    exact wv_l (W := wt_pre u N (k + d)) (M := [wt_st u (wt_pre u N (k + d)) (rd_n N (k + d))]) (k := j) (by rw [wt_len]; omega)
theorem wt_mono2 {u : Nat} {N : RdN} {j k k' : Nat} (hj : j < k) (h : k ≤ k') : wt_v (wt_pre u N k') j = wt_v (wt_pre u N k) j := by
  have := wt_mono (u := u) (N := N) hj (k' - k)
  rwa [show k + (k' - k) = k' by omega] at this
/-- a node's weight looks at its parts alone -/
theorem wt_st_co {u m k : Nat} {W W' : List WtV} {q : Nat × Nat × Nat} (hq : nd_q m k q) (h : ∀ j, j < k → wt_v W j = wt_v W' j) : wt_st u W q = wt_st u W' q := by
  obtain ⟨q1, q2, q3⟩ := q
  obtain ⟨o1, o2, o3, o4⟩ := hq
  simp only at o1 o2 o3 o4
  unfold wt_st
  simp only
  by_cases h4 : 4 ≤ q1
  · rw [h q2 (o3 h4)]
    by_cases h5 : q1 = 4 ∨ q1 = 5
    · rw [h q3 (o4 h5)]
    · have hc : q1 = 6 ∨ q1 = 7 ∨ q1 = 8 := by omega
      rcases hc with z | z | z <;> subst z <;> rfl
  · have hc : q1 = 0 ∨ q1 = 1 ∨ q1 = 2 ∨ q1 = 3 := by omega
    rcases hc with z | z | z | z <;> subst z <;> rfl
theorem fo_co {m k : Nat} {W W' : List WtV} {q : Nat × Nat × Nat} (hq : nd_q m k q) (h : ∀ j, j < k → wt_v W j = wt_v W' j) : fo_l W q = fo_l W' q ∧ (q.1 = 4 ∨ q.1 = 6 ∨ q.1 = 7 → fo_f W q = fo_f W' q) := by
  obtain ⟨q1, q2, q3⟩ := q
  obtain ⟨o1, o2, o3, o4⟩ := hq
  simp only at o1 o2 o3 o4
  unfold fo_l fo_f
  simp only
  by_cases h4 : q1 = 4 ∨ q1 = 6 ∨ q1 = 7
  · rw [h q2 (o3 (by omega))]
    refine ⟨rfl, fun _ => ?_⟩
    by_cases h5 : q1 = 4
    · rw [h q3 (o4 (.inl h5))]
    · rw [if_neg h5, if_neg h5]
  · rw [if_neg h4, if_neg h4]
    exact ⟨rfl, fun z => absurd z h4⟩
theorem wt_eq {u m k : Nat} {N : RdN} (hok : nd_ok N m) (hk : k < N.length) : wt_v (wt_all u N) k = wt_st u (wt_all u N) (rd_n N k) := by
  have h1 : wt_v (wt_all u N) k = wt_v (wt_pre u N (k + 1)) k := wt_mono2 (by omega) (by omega)
  rw [h1]
  have h2 : wt_v (wt_pre u N k ++ [wt_st u (wt_pre u N k) (rd_n N k)]) k = wt_st u (wt_pre u N k) (rd_n N k) := by
    have := wv_s (W := wt_pre u N k) (q := wt_st u (wt_pre u N k) (rd_n N k))
    rwa [wt_len] at this
  refine h2.trans (wt_st_co (hok k hk) (fun j hj => ?_))
  exact (wt_mono2 hj (by omega)).symm
section
variable {l : Launch} {E : We} {n0 d nx : Nat} {t : Wt} {r : Wr} {i : Wi} {g : Wl}
theorem rd_ne3 {a n : Nat} {V : Nat → Nat} (h : rd_at t r a V n) : (∀ k, k < 3 → V k ≠ V 3) ∧ a ≠ V 3 ∧ V 6 ≠ V 3 ∧ V 11 ≠ V 3 ∧ V 12 ≠ V 3 ∧ V 13 ≠ V 3 ∧ V 4 ≠ V 5 ∧ (∀ k, k = 7 ∨ k = 8 ∨ k = 9 ∨ k = 10 → V k ≠ V 4 ∧ V k ≠ V 5) ∧ (∀ k, k = 7 ∨ k = 9 ∨ k = 10 → V k ≠ V 8) := by
  obtain ⟨h1, -, -, -, h5, t3, t4, t5, ⟨e1, ⟨-, e7⟩, ⟨-, e8⟩, ⟨-, e9⟩, ⟨-, e10⟩, ⟨-, e11⟩, -⟩, ⟨w1, -, w3, -⟩, rfl, -, -, -, h45, -⟩ := h
  have ne : ∀ {x y : Nat} {u v : Nat ⊕ (Nat × Nat)}, t x = some u → t y = some v → u ≠ v → x ≠ y := fun hx hy hn q => by
    rw [q, hy] at hx
    exact hn (Option.some.inj hx).symm
  refine ⟨fun k hk => ne (h5 k hk) t3 (by intro q; cases q), ne h1 t3 (by intro q; cases q), ne e1 t3 (by intro q; cases q), ne e11 t3 (by intro q; cases q), ne w1 t3 (by intro q; cases q), ne w3 t3 (by intro q; cases q), h45, fun k hk => ?_, fun k hk => ?_⟩
  · rcases hk with rfl | rfl | rfl | rfl
    · exact ⟨ne e7 t4 (by intro q; cases q), ne e7 t5 (by intro q; cases q)⟩
    · exact ⟨ne e8 t4 (by intro q; cases q), ne e8 t5 (by intro q; cases q)⟩
    · exact ⟨ne e9 t4 (by intro q; cases q), ne e9 t5 (by intro q; cases q)⟩
    · exact ⟨ne e10 t4 (by intro q; cases q), ne e10 t5 (by intro q; cases q)⟩
  · rcases hk with rfl | rfl | rfl
    · exact ne e7 e8 (by intro q; cases q)
    · exact ne e9 e8 (by intro q; cases q)
    · exact ne e10 e8 (by intro q; cases q)
/-- which atoms follow atom j -/
def fo_of (N : RdN) (k j b : Nat) : Prop := ∃ q, q < k ∧ lb (fo_l (wt_all 0 N) (rd_n N q)) j = true ∧ lb (fo_f (wt_all 0 N) (rd_n N q)) b = true
theorem fo_of_s {N : RdN} {k j b : Nat} : fo_of N (k + 1) j b ↔ fo_of N k j b ∨ (lb (fo_l (wt_all 0 N) (rd_n N k)) j = true ∧ lb (fo_f (wt_all 0 N) (rd_n N k)) b = true) := by
  constructor
  · rintro ⟨q, h1, h2⟩
    by_cases hq : q = k
    · subst hq; exact .inr h2
    · exact .inl ⟨q, by omega, h2⟩
  · rintro (⟨q, h1, h2⟩ | h)
    · exact ⟨q, by omega, h2⟩
    · exact ⟨k, by omega, h⟩
theorem rn_is.fr {i' : Wi} {V : Nat → Nat} {N : RdN} {S : List Nat} (h : rn_is i V N) (hf : fr_is S i i') (hV : ∀ k, k < 3 → V k ∉ S) : rn_is i' V N := by
  refine ⟨h.1, fun k hk => ?_⟩
  rw [hf _ (hV 0 (by omega)), hf _ (hV 1 (by omega)), hf _ (hV 2 (by omega))]
  exact h.2 k hk
def wa_q (i : Wi) (g : Wl) (V : Nat → Nat) (N : RdN) (m u k : Nat) (i' : Wi) (g' : Wl) : Prop := we_is i' g' V (wt_pre u N k) ∧ fr_is [V 3] i i' ∧ fr_is [V 4, V 5, V 8] g g' ∧ (u ≠ 0 → ∀ j, g' (V 8) j = g (V 8) j) ∧ (u = 0 → ∀ j, j < m → ∀ b, lb (g' (V 8) j) b = true ↔ lb (g (V 8) j) b = true ∨ fo_of N k j b)
theorem c_Rdr_weighAll {a n m u : Nat} {V : Nat → Nat} {N : RdN} (hA : rd_at t r a V n) (hm : i (V 6) 5 = nI m) (hm60 : m ≤ 60) (h6 : i a 6 = nI N.length) (hN : rn_is i V N) (hok : nd_ok N m) (hu : u < 4) : Ct l E n0 mt_Rdr_weighAll (d + 2) 0 0 [.ref a, .int (nI u)] nx t r i g (qVl nx t r (fun i' g' => wa_q i g V N m u N.length i' g')) := by
  have hA' := hA
  obtain ⟨x1, x2, x3, x4, x5, x6, x7, x8, x9⟩ := rd_ne3 hA
  obtain ⟨ha, -⟩ := hA
  have hl := hN.1
  refine Ct.of (by decide) (Nat.le_of_ble_eq_true rfl) ?_
  have loop : ∀ (c k : Nat) (i1 : Wi) (g1 : Wl), k + c = N.length → wa_q i g V N m u k i1 g1 → Wf l E n0 mt_Rdr_weighAll (d + 2) 0 0 (qVl nx t r (fun i' g' => wa_q i g V N m u N.length i' g')) 0 0 2 [(0, .ref a), (1, .int (nI u)), (2, .int (nI k))] [] nx t r i1 g1 := by
    intro c
    induction c with
    | zero =>
      intro k i1 g1 hk hw
      have h6' : i1 a 6 = nI N.length := (hw.2.1 a (by simp [x2]) 6).trans h6
      refine wf_iload_n dc_Rdr_weighAll_2 rfl ?_
      refine wf_aload_n dc_Rdr_weighAll_3 rfl ?_
      refine wf_geti dc_Rdr_weighAll_4 fl_Rdr_55 rfl (by assumption) ?_
      rw [h6']
      refine wf_icmp_ge 31 dc_Rdr_weighAll_7 (by decide) (fun hc => ?_) (fun hc => absurd ((nI_leI (by omega) (by omega)).mpr (by omega)) hc)
      refine wf_return rfl dc_Rdr_weighAll_31 ⟨rfl, rfl, rfl, rfl, ?_⟩
      rwa [show N.length = k by omega]
    | succ c ih =>
      intro k i1 g1 hk hw
      obtain ⟨w1, w2, w3, w4, w5⟩ := hw
      have h6' : i1 a 6 = nI N.length := (w2 a (by simp [x2]) 6).trans h6
      have hm' : i1 (V 6) 5 = nI m := (w2 (V 6) (by simp [x3]) 5).trans hm
      have hN' : rn_is i1 V N := hN.fr w2 (fun k hk => by simp [x1 k hk])
      refine wf_iload_n dc_Rdr_weighAll_2 rfl ?_
      refine wf_aload_n dc_Rdr_weighAll_3 rfl ?_
      refine wf_geti dc_Rdr_weighAll_4 fl_Rdr_55 rfl (by assumption) ?_
      rw [h6']
      refine wf_icmp_ge 31 dc_Rdr_weighAll_7 (by decide) (fun hc => absurd ((nI_leI (by omega) (by omega)).mp hc) (by omega)) (fun hc => ?_)
      refine wf_aload_n dc_Rdr_weighAll_10 rfl ?_
      refine wf_iload_n dc_Rdr_weighAll_11 rfl ?_
      refine wf_iload_n dc_Rdr_weighAll_12 rfl ?_
      refine wf_iv2 (M' := mt_Rdr_weigh) (c := 4) dc_Rdr_weighAll_13 tg_Rdr_weigh ml_Rdr_145 im_Rdr_weigh se_Rdr_weigh ⟨_, rfl, rfl⟩ (by assumption) (Nat.le_of_ble_eq_true rfl) (Nat.le_refl _) (Nat.le_refl _) (c_Rdr_weigh (Q := qVl nx t r (fun i' g' => ∃ v, v = wt_st u (wt_pre u N k) (rd_n N k) ∧ i' = wf_up i1 (V 3) k (wt_b v.1) ∧ g' = wf_up (wf_up g1 (V 4) k v.2.1) (V 5) k v.2.2)) hA' hm60 hN' hok w1 (by omega) (wt_len u N k) hu (fun b F L h => ⟨rfl, rfl, rfl, rfl, _, h.symm, rfl, rfl⟩)) qVl_nt (qVl_go (fun i2 g2 hp => ?_))
      obtain ⟨v, hv, rfl, rfl⟩ := hp
      have p1 : we_is (wf_up i1 (V 3) k (wt_b v.1)) (wf_up (wf_up g1 (V 4) k v.2.1) (V 5) k v.2.2) V (wt_pre u N (k + 1)) := by
        intro j hj
        rw [wt_len] at hj
        show _ = wt_b (wt_v (wt_pre u N k ++ [wt_st u (wt_pre u N k) (rd_n N k)]) j).1 ∧ _ = (wt_v (wt_pre u N k ++ [wt_st u (wt_pre u N k) (rd_n N k)]) j).2.1 ∧ _ = (wt_v (wt_pre u N k ++ [wt_st u (wt_pre u N k) (rd_n N k)]) j).2.2
        rw [← hv, wf_up_a (x7), ]
        by_cases hjk : j = k
        · have : wt_v (wt_pre u N k ++ [v]) j = v := by
            have := wv_s (W := wt_pre u N k) (q := v)
            rw [wt_len] at this
            rw [hjk]
            exact this
          rw [this, hjk, wf_up_s, wf_up_s, wf_up_s]
          exact ⟨rfl, rfl, rfl⟩
        · rw [wv_l (by rw [wt_len]; omega), wf_up_k hjk, wf_up_k hjk, wf_up_k hjk, wf_up_a x7.symm]
          exact w1 j (by rw [wt_len]; omega)
      have p2 : fr_is [V 3] i (wf_up i1 (V 3) k (wt_b v.1)) := fr_up w2 (by simp)
      have p3 : fr_is [V 4, V 5, V 8] g (wf_up (wf_up g1 (V 4) k v.2.1) (V 5) k v.2.2) := fr_up (fr_up w3 (by simp)) (by simp)
      have p8 : ∀ j, wf_up (wf_up g1 (V 4) k v.2.1) (V 5) k v.2.2 (V 8) j = g1 (V 8) j := fun j => by
        rw [wf_up_a (x8 8 (by omega)).2, wf_up_a (x8 8 (by omega)).1]
      revert p1 p2 p3 p8
      generalize wf_up i1 (V 3) k (wt_b v.1) = i3
      generalize wf_up (wf_up g1 (V 4) k v.2.1) (V 5) k v.2.2 = g3
      intro p1 p2 p3 p8
      have hm3 : i3 (V 6) 5 = nI m := (p2 (V 6) (by simp [x3]) 5).trans hm
      have hN3 : rn_is i3 V N := hN.fr p2 (fun k hk => by simp [x1 k hk])
      refine wf_iload_n dc_Rdr_weighAll_16 rfl ?_
      refine wf_if_ne 25 dc_Rdr_weighAll_17 (by decide) (fun hu0 => ?_) (fun hu0 => ?_)
      · have hu0' : u ≠ 0 := fun z => hu0 (by rw [z]; rfl)
        refine wf_iinc _ dc_Rdr_weighAll_25 rfl (nI_1 k) (by decide) ?_
        refine wf_goto 2 dc_Rdr_weighAll_28 (by decide) ?_
        exact Wf.to (by exact ⟨rfl, rfl, rfl, trivial⟩) (ih (k + 1) _ _ (by omega) ⟨p1, p2, p3, fun _ j => (p8 j).trans (w4 hu0' j), fun z => absurd z hu0'⟩)
      · have hu0' : u = 0 := (nI_eq (b := 0) (by omega) (by omega)).mp hu0
        refine wf_aload_n dc_Rdr_weighAll_20 rfl ?_
        refine wf_iload_n dc_Rdr_weighAll_21 rfl ?_
        refine wf_iv1 (M' := mt_Rdr_link) (c := 4) dc_Rdr_weighAll_22 tg_Rdr_link ml_Rdr_149 im_Rdr_link se_Rdr_link ⟨_, rfl, rfl⟩ (by assumption) (Nat.le_of_ble_eq_true rfl) (Nat.le_refl _) (Nat.le_refl _) (c_Rdr_link hA' hm3 hm60 hN3 hok p1 (by rw [wt_len]; omega) (by rw [wt_len]; omega)) qVl_nt (qVl_go (fun i2 g2 hp => ?_))
        obtain ⟨rfl, f1, f2⟩ := hp
        refine wf_iinc _ dc_Rdr_weighAll_25 rfl (nI_1 k) (by decide) ?_
        refine wf_goto 2 dc_Rdr_weighAll_28 (by decide) ?_
        refine Wf.to (by exact ⟨rfl, rfl, rfl, trivial⟩) (ih (k + 1) _ _ (by omega) ⟨fun j hj => ?_, p2, fr_ss p3 (fr_mo f1 (by simp)), fun z => absurd hu0' z, fun _ j hj b => ?_⟩)
        · rw [f1 (V 4) (by simp [(x8 8 (by omega)).1.symm]), f1 (V 5) (by simp [(x8 8 (by omega)).2.symm])]
          exact p1 j hj
        · obtain ⟨z1, z2⟩ := fo_co (W := wt_pre u N (k + 1)) (W' := wt_all 0 N) (hok k (by omega)) (fun j hj => by rw [hu0']; exact (wt_mono2 (by omega) (by omega)).symm)
          rw [fo_of_s, f2 j hj, p8 j, z1]
          have w5' := w5 hu0' j hj b
          by_cases hlb : lb (fo_l (wt_all 0 N) (rd_n N k)) j = true
          · have hkd : (rd_n N k).1 = 4 ∨ (rd_n N k).1 = 6 ∨ (rd_n N k).1 = 7 := by
              apply Classical.byContradiction
              intro z
              rw [fo_l, if_neg z, lb_0] at hlb
              cases hlb
            rw [if_pos hlb, z2 hkd, lb_or, Bool.or_eq_true, w5', or_assoc]
            constructor
            · rintro (h | h | h)
              · exact .inl h
              · exact .inr (.inl h)
              · exact .inr (.inr ⟨hlb, h⟩)
            · rintro (h | h | ⟨-, h⟩)
              · exact .inl h
              · exact .inr (.inl h)
              · exact .inr (.inr h)
          · rw [if_neg hlb, w5']
            constructor
            · rintro (h | h)
              · exact .inl h
              · exact .inr (.inl h)
            · rintro (h | h | ⟨h, -⟩)
              · exact .inl h
              · exact .inr h
              · exact absurd h hlb
  refine wf_iconst 0 dc_Rdr_weighAll_0 (by decide) ?_
  refine wf_istore_n dc_Rdr_weighAll_1 (by decide) ?_
  refine Wf.to (by exact ⟨rfl, rfl, rfl, trivial⟩) (loop N.length 0 i g (by omega) ⟨fun j hj => absurd hj (Nat.not_lt_zero _), fr_rf, fr_rf, fun _ _ => rfl, fun _ j _ b => ⟨.inl, ?_⟩⟩)
  rintro (h | ⟨q, hq, -⟩)
  · exact h
  · exact absurd hq (Nat.not_lt_zero _)
end
