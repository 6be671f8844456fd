/-! class Reader: sequence, alternation, group -/
section
variable {l : Launch} {E : We} {n0 d nx : Nat} {t : Wt} {r : Wr} {i : Wi} {g : Wl}
theorem c_Rdr_sequence {a n p lv : Nat} {V : Nat → Nat} {S : List Int32} {N : RdN} {A : RdA} (hA : rd_at t r a V n) (hI : rd_is i g a V S p none N A) (hS : sg_ok S) (hlv : lv ≤ 10) (hl : N.length ≤ 2 * p) (hG : 0 < lv → Rd_G l E n0 (d + 2) nx t r a V S lv) : Ct l E n0 mt_Rdr_sequence (d + 4) 0 0 [.ref a, .int (nI (10 - lv))] nx t r i g (rd_q nx t r i g a V (fun z i' g' => rd_R i' g' a V S (ps_sq S (ps_grp S lv) p N A) z)) := by
  have hA' := hA
  have hS60 := hI.2.1
  have hpS := hI.2.2.1.2
  obtain ⟨ha, -, r7, -, -, -, -, -, ⟨e1, -⟩, -⟩ := hA
  refine Ct.of (by decide) (Nat.le_of_ble_eq_true rfl) ?_
  have flt : ∀ (i1 : Wi) (g1 : Wl) (e : Nat) (N1 : RdN) (A1 : RdA) (w : Nat) (j : Int32) (R : RdR) (y : Value), R = .inl e → rd_is i1 g1 a V S S.length (some e) N1 A1 → fr_is (rd_fp a V) i i1 → fr_is [V 7] g g1 → Wf l E n0 mt_Rdr_sequence (d + 4) 0 0 (rd_q nx t r i g a V (fun z i' g' => rd_R i' g' a V S R z)) 0 0 10 [(0, .ref a), (1, .int (nI (10 - lv))), (2, .int (nI w)), (3, .int j)] [] nx t r i1 g1 := by
    intro i1 g1 e N1 A1 w j R y hR hI1 hf1 hg1
    subst hR
    have out : Wf l E n0 mt_Rdr_sequence (d + 4) 0 0 (rd_q nx t r i g a V (fun z i' g' => rd_R i' g' a V S (.inl e) z)) 0 0 67 [(0, .ref a), (1, .int (nI (10 - lv))), (2, .int (nI w)), (3, .int j)] [] nx t r i1 g1 := by
      refine wf_iload_n dc_Rdr_sequence_67 rfl ?_
      exact wf_ireturn rfl dc_Rdr_sequence_68 ⟨_, rfl, rfl, rfl, rfl, ⟨w, _, _, rfl, hI1⟩, hf1, hg1⟩
    refine wf_iload_n dc_Rdr_sequence_10 rfl ?_
    refine wf_bipush 60 dc_Rdr_sequence_11 (by decide) ?_
    refine wf_icmp_ge 67 dc_Rdr_sequence_13 (by decide) (fun h0 => ?_) (fun h0 => ?_)
    · exact Wf.to (by exact ⟨rfl, rfl, rfl, rfl, trivial⟩) out
    · refine wf_aload_n dc_Rdr_sequence_16 rfl ?_
      refine wf_iv0 (M' := mt_Rdr_next) (c := 4) dc_Rdr_sequence_17 tg_Rdr_next ml_Rdr_83 im_Rdr_next se_Rdr_next ⟨_, rfl, rfl⟩ (by assumption) (Nat.le_of_ble_eq_true rfl) (Nat.le_refl _) (Nat.le_refl _) (c_Rdr_next hA' hI1) qI_nt (qI_go (fun x2 i2 hp => ?_))
      obtain ⟨rfl, hq⟩ := hp
      subst i2
      rw [nx_end (Nat.le_refl _)]
      refine wf_if_eq 67 dc_Rdr_sequence_20 (by decide) (fun hc => ?_) (fun hc => absurd rfl hc)
      exact Wf.to (by exact ⟨rfl, rfl, rfl, rfl, trivial⟩) out
  have out : ∀ (i1 : Wi) (g1 : Wl) (w p1 : Nat) (N1 : RdN) (A1 : RdA) (j : Int32) (R : RdR), R = .inr (w, p1, N1, A1) → rd_is i1 g1 a V S p1 none N1 A1 → fr_is (rd_fp a V) i i1 → fr_is [V 7] g g1 → Wf l E n0 mt_Rdr_sequence (d + 4) 0 0 (rd_q nx t r i g a V (fun z i' g' => rd_R i' g' a V S R z)) 0 0 67 [(0, .ref a), (1, .int (nI (10 - lv))), (2, .int (nI w)), (3, .int j)] [] nx t r i1 g1 := by
    intro i1 g1 w p1 N1 A1 j R hR hI1 hf1 hg1
    subst hR
    refine wf_iload_n dc_Rdr_sequence_67 rfl ?_
    exact wf_ireturn rfl dc_Rdr_sequence_68 ⟨_, rfl, rfl, rfl, rfl, ⟨rfl, hI1⟩, hf1, hg1⟩
  have loop : ∀ (k j : Nat) (i1 : Wi) (g1 : Wl) (w p1 : Nat) (N1 : RdN) (A1 : RdA) (R : RdR), j + k = 60 → R = ps_seq S (ps_grp S lv) k w p1 N1 A1 → rd_is i1 g1 a V S p1 none N1 A1 → N1.length ≤ 2 * p1 + 1 → fr_is (rd_fp a V) i i1 → fr_is [V 7] g g1 → Wf l E n0 mt_Rdr_sequence (d + 4) 0 0 (rd_q nx t r i g a V (fun z i' g' => rd_R i' g' a V S R z)) 0 0 10 [(0, .ref a), (1, .int (nI (10 - lv))), (2, .int (nI w)), (3, .int (nI j))] [] nx t r i1 g1 := by
    intro k
    induction k with
    | zero =>
      intro j i1 g1 w p1 N1 A1 R hj hR hI1 hl1 hf1 hg1
      refine wf_iload_n dc_Rdr_sequence_10 rfl ?_
      refine wf_bipush 60 dc_Rdr_sequence_11 (by decide) ?_
      refine wf_icmp_ge 67 dc_Rdr_sequence_13 (by decide) (fun hc => ?_) (fun hc => absurd ((nI_leI (a := 60) (by omega) (by omega)).mpr (by omega)) hc)
      exact Wf.to (by exact ⟨rfl, rfl, rfl, rfl, trivial⟩) (out i1 g1 w p1 N1 A1 _ R hR hI1 hf1 hg1)
    | succ k ih =>
      intro j i1 g1 w p1 N1 A1 R hj hR hI1 hl1 hf1 hg1
      unfold ps_seq at hR
      refine wf_iload_n dc_Rdr_sequence_10 rfl ?_
      refine wf_bipush 60 dc_Rdr_sequence_11 (by decide) ?_
      refine wf_icmp_ge 67 dc_Rdr_sequence_13 (by decide) (fun hc => absurd ((nI_leI (a := 60) (by omega) (by omega)).mp hc) (by omega)) (fun hc => ?_)
      refine wf_aload_n dc_Rdr_sequence_16 rfl ?_
      refine wf_iv0 (M' := mt_Rdr_next) (c := 4) dc_Rdr_sequence_17 tg_Rdr_next ml_Rdr_83 im_Rdr_next se_Rdr_next ⟨_, rfl, rfl⟩ (by assumption) (Nat.le_of_ble_eq_true rfl) (Nat.le_refl _) (Nat.le_refl _) (c_Rdr_next hA' hI1) qI_nt (qI_go (fun x2 i2 hp => ?_))
      obtain ⟨rfl, hq⟩ := hp
      subst i2
      refine wf_if_eq 67 dc_Rdr_sequence_20 (by decide) (fun h1 => ?_) (fun h1 => ?_)
      · rw [if_pos (.inl h1)] at hR
        exact Wf.to (by exact ⟨rfl, rfl, rfl, rfl, trivial⟩) (out i1 g1 w p1 N1 A1 _ R hR hI1 hf1 hg1)
      refine wf_aload_n dc_Rdr_sequence_23 rfl ?_
      refine wf_iv0 (M' := mt_Rdr_next) (c := 4) dc_Rdr_sequence_24 tg_Rdr_next ml_Rdr_83 im_Rdr_next se_Rdr_next ⟨_, rfl, rfl⟩ (by assumption) (Nat.le_of_ble_eq_true rfl) (Nat.le_refl _) (Nat.le_refl _) (c_Rdr_next hA' hI1) qI_nt (qI_go (fun x2 i2 hp => ?_))
      obtain ⟨rfl, hq⟩ := hp
      subst i2
      refine wf_bipush 124 dc_Rdr_sequence_27 (by decide) ?_
      refine wf_icmp_eq 67 dc_Rdr_sequence_29 (by decide) (fun h2 => ?_) (fun h2 => ?_)
      · rw [if_pos (.inr (.inl h2))] at hR
        exact Wf.to (by exact ⟨rfl, rfl, rfl, rfl, trivial⟩) (out i1 g1 w p1 N1 A1 _ R hR hI1 hf1 hg1)
      refine wf_aload_n dc_Rdr_sequence_32 rfl ?_
      refine wf_iv0 (M' := mt_Rdr_next) (c := 4) dc_Rdr_sequence_33 tg_Rdr_next ml_Rdr_83 im_Rdr_next se_Rdr_next ⟨_, rfl, rfl⟩ (by assumption) (Nat.le_of_ble_eq_true rfl) (Nat.le_refl _) (Nat.le_refl _) (c_Rdr_next hA' hI1) qI_nt (qI_go (fun x2 i2 hp => ?_))
      obtain ⟨rfl, hq⟩ := hp
      subst i2
      refine wf_bipush 41 dc_Rdr_sequence_36 (by decide) ?_
      refine wf_icmp_eq 67 dc_Rdr_sequence_38 (by decide) (fun h3 => ?_) (fun h3 => ?_)
      · rw [if_pos (.inr (.inr h3))] at hR
        exact Wf.to (by exact ⟨rfl, rfl, rfl, rfl, trivial⟩) (out i1 g1 w p1 N1 A1 _ R hR hI1 hf1 hg1)
      rw [if_neg (fun q => q.elim h1 (fun q => q.elim h2 h3))] at hR
      have hlt := nx_lt h1
      refine wf_aload_n dc_Rdr_sequence_41 rfl ?_
      refine wf_aload_n dc_Rdr_sequence_42 rfl ?_
      refine wf_iload_n dc_Rdr_sequence_43 rfl ?_
      refine wf_iv1 (M' := mt_Rdr_atom) (c := 4) dc_Rdr_sequence_44 tg_Rdr_atom ml_Rdr_90 im_Rdr_atom se_Rdr_atom ⟨_, rfl, rfl⟩ (by assumption) (Nat.le_of_ble_eq_true rfl) (Nat.le_refl _) (Nat.le_refl _) (c_Rdr_atom hA' hI1 hS hlv hlt hl1 hG) qIl_nt (qIl_go (fun x2 i2 g2 hp => ?_))
      obtain ⟨hp, hf4, hf5⟩ := hp
      have hok := ps_atom_ok (N := N1) (A := A1) (ps_grp_ok (S := S) lv) hlt
      revert hp hR hok
      cases ps_atom S (ps_grp S lv) p1 N1 A1 with
      | inl e =>
        rintro hR ⟨w1, N2, A2, rfl, hI2⟩ -
        refine wf_iv1 (M' := mt_Rdr_repeated) (c := 4) dc_Rdr_sequence_47 tg_Rdr_repeated ml_Rdr_93 im_Rdr_repeated se_Rdr_repeated ⟨_, rfl, rfl⟩ (by assumption) (Nat.le_of_ble_eq_true rfl) (Nat.le_refl _) (Nat.le_refl _) (c_Rdr_repeatedF hA' hI2) qIl_nt (qIl_go (fun x2 i2 g2 hp => ?_))
        obtain ⟨⟨w3, N3, A3, rfl, hI3⟩, hf6, hf7⟩ := hp
        refine wf_istore dc_Rdr_sequence_50 (by decide) ?_
        refine wf_aload_n dc_Rdr_sequence_52 rfl ?_
        refine wf_iconst 4 dc_Rdr_sequence_53 (by decide) ?_
        refine wf_iload_n dc_Rdr_sequence_54 rfl ?_
        refine wf_iload dc_Rdr_sequence_55 rfl ?_
        refine wf_iv3 (M' := mt_Rdr_node) (c := 4) dc_Rdr_sequence_57 tg_Rdr_node ml_Rdr_86 im_Rdr_node se_Rdr_node ⟨_, rfl, rfl⟩ (by assumption) (Nat.le_of_ble_eq_true rfl) (Nat.le_refl _) (Nat.le_refl _) (k_nodeF (k := 4) hA' hI3) qIl_nt (qIl_go (fun x2 i2 g2 hp => ?_))
        obtain ⟨⟨w4, N4, A4, rfl, hI4⟩, hf8, hf9⟩ := hp
        refine wf_istore_n dc_Rdr_sequence_60 (by decide) ?_
        refine wf_iinc _ dc_Rdr_sequence_61 rfl (nI_1 j) (by decide) ?_
        refine wf_goto 10 dc_Rdr_sequence_64 (by decide) ?_
        exact Wf.to (by exact ⟨rfl, rfl, rfl, rfl, trivial⟩) (flt _ _ e _ _ w4 _ R (.int 0) hR hI4 (fr_ss hf1 (fr_ss hf4 (fr_ss hf6 hf8))) (fr_ss hg1 (fr_ss hf5 (fr_ss hf7 hf9))))
      | inr q =>
        obtain ⟨w1, p2, N2, A2⟩ := q
        rintro hR ⟨rfl, hI2⟩ ⟨o1, o2, -, -, o5, o6, -⟩
        obtain ⟨b1, b2, -, b4, b5⟩ := ps_rep_ok (S := S) 60 w1 p2 N2 o2 o6
        refine wf_iv1 (M' := mt_Rdr_repeated) (c := 4) dc_Rdr_sequence_47 tg_Rdr_repeated ml_Rdr_93 im_Rdr_repeated se_Rdr_repeated ⟨_, rfl, rfl⟩ (by assumption) (Nat.le_of_ble_eq_true rfl) (Nat.le_refl _) (Nat.le_refl _) (c_Rdr_repeated hA' hI2 (by omega)) qIl_nt (qIl_go (fun x2 i2 g2 hp => ?_))
        obtain ⟨⟨rfl, hI3⟩, hf6, hf7⟩ := hp
        refine wf_istore dc_Rdr_sequence_50 (by decide) ?_
        refine wf_aload_n dc_Rdr_sequence_52 rfl ?_
        refine wf_iconst 4 dc_Rdr_sequence_53 (by decide) ?_
        refine wf_iload_n dc_Rdr_sequence_54 rfl ?_
        refine wf_iload dc_Rdr_sequence_55 rfl ?_
        refine wf_iv3 (M' := mt_Rdr_node) (c := 4) dc_Rdr_sequence_57 tg_Rdr_node ml_Rdr_86 im_Rdr_node se_Rdr_node ⟨_, rfl, rfl⟩ (by assumption) (Nat.le_of_ble_eq_true rfl) (Nat.le_refl _) (Nat.le_refl _) (k_node (k := 4) hA' hI3 (by omega)) qIl_nt (qIl_go (fun x2 i2 g2 hp => ?_))
        obtain ⟨⟨rfl, hI4⟩, hf8, hf9⟩ := hp
        refine wf_istore_n dc_Rdr_sequence_60 (by decide) ?_
        refine wf_iinc _ dc_Rdr_sequence_61 rfl (nI_1 j) (by decide) ?_
        refine wf_goto 10 dc_Rdr_sequence_64 (by decide) ?_
        refine Wf.to (by exact ⟨rfl, rfl, rfl, rfl, trivial⟩) (ih (j + 1) _ _ _ _ _ _ R (by omega) hR hI4 ?_ (fr_ss hf1 (fr_ss hf4 (fr_ss hf6 hf8))) (fr_ss hg1 (fr_ss hf5 (fr_ss hf7 hf9))))
        rw [List.length_append]
        simp only [List.length_cons, List.length_nil]
        omega
  refine wf_aload_n dc_Rdr_sequence_0 rfl ?_
  refine wf_iconst 0 dc_Rdr_sequence_1 (by decide) ?_
  refine wf_iconst 0 dc_Rdr_sequence_2 (by decide) ?_
  refine wf_iconst 0 dc_Rdr_sequence_3 (by decide) ?_
  refine wf_iv3 (M' := mt_Rdr_node) (c := 4) dc_Rdr_sequence_4 tg_Rdr_node ml_Rdr_86 im_Rdr_node se_Rdr_node ⟨_, rfl, rfl⟩ (by assumption) (Nat.le_of_ble_eq_true rfl) (Nat.le_refl _) (Nat.le_refl _) (k_node (k := 0) (x := 0) (y := 0) hA' hI (by omega)) qIl_nt (qIl_go (fun x2 i2 g2 hp => ?_))
  obtain ⟨⟨rfl, hI4⟩, hf8, hf9⟩ := hp
  refine wf_istore_n dc_Rdr_sequence_7 (by decide) ?_
  refine wf_iconst 0 dc_Rdr_sequence_8 (by decide) ?_
  refine wf_istore_n dc_Rdr_sequence_9 (by decide) ?_
  refine Wf.to (by exact ⟨rfl, rfl, rfl, rfl, trivial⟩) (loop 60 0 _ _ _ _ _ _ _ rfl rfl hI4 ?_ hf8 hf9)
  rw [List.length_append]
  simp only [List.length_cons, List.length_nil]
  omega
theorem c_Rdr_alternation {a n p lv : Nat} {V : Nat → Nat} {S : List Int32} {N : RdN} {A : RdA} (hA : rd_at t r a V n) (hI : rd_is i g a V S p none N A) (hS : sg_ok S) (hlv : lv ≤ 10) (hl : N.length ≤ 2 * p) (hG : 0 < lv → Rd_G l E n0 (d + 2) nx t r a V S lv) : Ct l E n0 mt_Rdr_alternation (d + 5) 0 0 [.ref a, .int (nI (10 - lv))] nx t r i g (rd_q nx t r i g a V (fun z i' g' => rd_R i' g' a V S (ps_alt S (ps_grp S lv) p N A) z)) := by
  have hA' := hA
  have hS60 := hI.2.1
  have hpS := hI.2.2.1.2
  obtain ⟨ha, -, r7, -, -, -, -, -, ⟨e1, -⟩, -⟩ := hA
  refine Ct.of (by decide) (Nat.le_of_ble_eq_true rfl) ?_
  have flt : ∀ (i1 : Wi) (g1 : Wl) (e : Nat) (N1 : RdN) (A1 : RdA) (w : Nat) (j : Int32) (R : RdR), R = .inl e → rd_is i1 g1 a V S S.length (some e) N1 A1 → fr_is (rd_fp a V) i i1 → fr_is [V 7] g g1 → Wf l E n0 mt_Rdr_alternation (d + 5) 0 0 (rd_q nx t r i g a V (fun z i' g' => rd_R i' g' a V S R z)) 0 0 8 [(0, .ref a), (1, .int (nI (10 - lv))), (2, .int (nI w)), (3, .int j)] [] nx t r i1 g1 := by
    intro i1 g1 e N1 A1 w j R hR hI1 hf1 hg1
    subst hR
    have out : Wf l E n0 mt_Rdr_alternation (d + 5) 0 0 (rd_q nx t r i g a V (fun z i' g' => rd_R i' g' a V S (.inl e) z)) 0 0 55 [(0, .ref a), (1, .int (nI (10 - lv))), (2, .int (nI w)), (3, .int j)] [] nx t r i1 g1 := by
      refine wf_iload_n dc_Rdr_alternation_55 rfl ?_
      exact wf_ireturn rfl dc_Rdr_alternation_56 ⟨_, rfl, rfl, rfl, rfl, ⟨w, _, _, rfl, hI1⟩, hf1, hg1⟩
    refine wf_iload_n dc_Rdr_alternation_8 rfl ?_
    refine wf_bipush 60 dc_Rdr_alternation_9 (by decide) ?_
    refine wf_icmp_ge 55 dc_Rdr_alternation_11 (by decide) (fun h0 => ?_) (fun h0 => ?_)
    · exact Wf.to (by exact ⟨rfl, rfl, rfl, rfl, trivial⟩) out
    · refine wf_aload_n dc_Rdr_alternation_14 rfl ?_
      refine wf_iv0 (M' := mt_Rdr_next) (c := 4) dc_Rdr_alternation_15 tg_Rdr_next ml_Rdr_83 im_Rdr_next se_Rdr_next ⟨_, rfl, rfl⟩ (by assumption) (Nat.le_of_ble_eq_true rfl) (Nat.le_refl _) (Nat.le_refl _) (c_Rdr_next hA' hI1) qI_nt (qI_go (fun x2 i2 hp => ?_))
      obtain ⟨rfl, hq⟩ := hp
      subst i2
      rw [nx_end (Nat.le_refl _)]
      refine wf_bipush 124 dc_Rdr_alternation_18 (by decide) ?_
      refine wf_icmp_ne 55 dc_Rdr_alternation_20 (by decide) (fun hc => ?_) (fun hc => absurd hc (by decide))
      exact Wf.to (by exact ⟨rfl, rfl, rfl, rfl, trivial⟩) out
  have out : ∀ (i1 : Wi) (g1 : Wl) (w p1 : Nat) (N1 : RdN) (A1 : RdA) (j : Int32) (R : RdR), R = .inr (w, p1, N1, A1) → rd_is i1 g1 a V S p1 none N1 A1 → fr_is (rd_fp a V) i i1 → fr_is [V 7] g g1 → Wf l E n0 mt_Rdr_alternation (d + 5) 0 0 (rd_q nx t r i g a V (fun z i' g' => rd_R i' g' a V S R z)) 0 0 55 [(0, .ref a), (1, .int (nI (10 - lv))), (2, .int (nI w)), (3, .int j)] [] nx t r i1 g1 := by
    intro i1 g1 w p1 N1 A1 j R hR hI1 hf1 hg1
    subst hR
    refine wf_iload_n dc_Rdr_alternation_55 rfl ?_
    exact wf_ireturn rfl dc_Rdr_alternation_56 ⟨_, rfl, rfl, rfl, rfl, ⟨rfl, hI1⟩, hf1, hg1⟩
  have loop : ∀ (k j : Nat) (i1 : Wi) (g1 : Wl) (w p1 : Nat) (N1 : RdN) (A1 : RdA) (R : RdR), j + k = 60 → R = ps_al S (ps_grp S lv) k w p1 N1 A1 → rd_is i1 g1 a V S p1 none N1 A1 → N1.length ≤ 2 * p1 + 1 → fr_is (rd_fp a V) i i1 → fr_is [V 7] g g1 → Wf l E n0 mt_Rdr_alternation (d + 5) 0 0 (rd_q nx t r i g a V (fun z i' g' => rd_R i' g' a V S R z)) 0 0 8 [(0, .ref a), (1, .int (nI (10 - lv))), (2, .int (nI w)), (3, .int (nI j))] [] nx t r i1 g1 := by
    intro k
    induction k with
    | zero =>
      intro j i1 g1 w p1 N1 A1 R hj hR hI1 hl1 hf1 hg1
      refine wf_iload_n dc_Rdr_alternation_8 rfl ?_
      refine wf_bipush 60 dc_Rdr_alternation_9 (by decide) ?_
      refine wf_icmp_ge 55 dc_Rdr_alternation_11 (by decide) (fun hc => ?_) (fun hc => absurd ((nI_leI (a := 60) (by omega) (by omega)).mpr (by omega)) hc)
      exact Wf.to (by exact ⟨rfl, rfl, rfl, rfl, trivial⟩) (out i1 g1 w p1 N1 A1 _ R hR hI1 hf1 hg1)
    | succ k ih =>
      intro j i1 g1 w p1 N1 A1 R hj hR hI1 hl1 hf1 hg1
      unfold ps_al at hR
      refine wf_iload_n dc_Rdr_alternation_8 rfl ?_
      refine wf_bipush 60 dc_Rdr_alternation_9 (by decide) ?_
      refine wf_icmp_ge 55 dc_Rdr_alternation_11 (by decide) (fun hc => absurd ((nI_leI (a := 60) (by omega) (by omega)).mp hc) (by omega)) (fun hc => ?_)
      refine wf_aload_n dc_Rdr_alternation_14 rfl ?_
      refine wf_iv0 (M' := mt_Rdr_next) (c := 4) dc_Rdr_alternation_15 tg_Rdr_next ml_Rdr_83 im_Rdr_next se_Rdr_next ⟨_, rfl, rfl⟩ (by assumption) (Nat.le_of_ble_eq_true rfl) (Nat.le_refl _) (Nat.le_refl _) (c_Rdr_next hA' hI1) qI_nt (qI_go (fun x2 i2 hp => ?_))
      obtain ⟨rfl, hq⟩ := hp
      subst i2
      refine wf_bipush 124 dc_Rdr_alternation_18 (by decide) ?_
      refine wf_icmp_ne 55 dc_Rdr_alternation_20 (by decide) (fun h1 => ?_) (fun h1 => ?_)
      · rw [if_neg h1] at hR
        exact Wf.to (by exact ⟨rfl, rfl, rfl, rfl, trivial⟩) (out i1 g1 w p1 N1 A1 _ R hR hI1 hf1 hg1)
      rw [if_pos h1] at hR
      have hlt := nx_lt2 h1 (by decide)
      have h9 := hI1.2.2.1.1
      refine wf_aload_n dc_Rdr_alternation_23 rfl ?_
      refine wf_dup dc_Rdr_alternation_24 rfl ?_
      refine wf_geti dc_Rdr_alternation_25 fl_Rdr_48 rfl (by assumption) ?_
      refine wf_iconst 1 dc_Rdr_alternation_28 (by decide) ?_
      refine wf_iadd dc_Rdr_alternation_29 ?_
      rw [h9, nI_1]
      refine wf_puti dc_Rdr_alternation_30 fl_Rdr_48 (Or.inl nf_Rdr_9) rfl rfl rfl (by assumption) ?_
      obtain ⟨hI5, hfu⟩ := rd_up9 hA' hI1 hlt
      refine wf_aload_n dc_Rdr_alternation_33 rfl ?_
      refine wf_iload_n dc_Rdr_alternation_34 rfl ?_
      refine wf_iv1 (M' := mt_Rdr_sequence) (c := 4) dc_Rdr_alternation_35 tg_Rdr_sequence ml_Rdr_80 im_Rdr_sequence se_Rdr_sequence ⟨_, rfl, rfl⟩ (by assumption) (Nat.le_of_ble_eq_true rfl) (Nat.le_refl _) (Nat.le_refl _) (c_Rdr_sequence hA' hI5 hS hlv (by omega) hG) qIl_nt (qIl_go (fun x2 i2 g2 hp => ?_))
      obtain ⟨hp, hf4, hf5⟩ := hp
      have hok := ps_sq_ok (N := N1) (A := A1) (ps_grp_ok (S := S) lv) (show p1 + 1 ≤ S.length from hlt)
      revert hp hR hok
      cases ps_sq S (ps_grp S lv) (p1 + 1) N1 A1 with
      | inl e =>
        rintro hR ⟨w1, N2, A2, rfl, hI2⟩ -
        refine wf_istore dc_Rdr_alternation_38 (by decide) ?_
        refine wf_aload_n dc_Rdr_alternation_40 rfl ?_
        refine wf_iconst 5 dc_Rdr_alternation_41 (by decide) ?_
        refine wf_iload_n dc_Rdr_alternation_42 rfl ?_
        refine wf_iload dc_Rdr_alternation_43 rfl ?_
        refine wf_iv3 (M' := mt_Rdr_node) (c := 4) dc_Rdr_alternation_45 tg_Rdr_node ml_Rdr_86 im_Rdr_node se_Rdr_node ⟨_, rfl, rfl⟩ (by assumption) (Nat.le_of_ble_eq_true rfl) (Nat.le_refl _) (Nat.le_refl _) (k_nodeF (k := 5) hA' hI2) qIl_nt (qIl_go (fun x2 i2 g2 hp => ?_))
        obtain ⟨⟨w4, N4, A4, rfl, hI4⟩, hf8, hf9⟩ := hp
        refine wf_istore_n dc_Rdr_alternation_48 (by decide) ?_
        refine wf_iinc _ dc_Rdr_alternation_49 rfl (nI_1 j) (by decide) ?_
        refine wf_goto 8 dc_Rdr_alternation_52 (by decide) ?_
        exact Wf.to (by exact ⟨rfl, rfl, rfl, rfl, trivial⟩) (flt _ _ e _ _ w4 _ R hR hI4 (fr_ss hf1 (fr_ss hfu (fr_ss hf4 hf8))) (fr_ss hg1 (fr_ss hf5 hf9)))
      | inr q =>
        obtain ⟨w1, p2, N2, A2⟩ := q
        rintro hR ⟨rfl, hI2⟩ ⟨o1, o2, -, -, o5, o6, -⟩
        refine wf_istore dc_Rdr_alternation_38 (by decide) ?_
        refine wf_aload_n dc_Rdr_alternation_40 rfl ?_
        refine wf_iconst 5 dc_Rdr_alternation_41 (by decide) ?_
        refine wf_iload_n dc_Rdr_alternation_42 rfl ?_
        refine wf_iload dc_Rdr_alternation_43 rfl ?_
        refine wf_iv3 (M' := mt_Rdr_node) (c := 4) dc_Rdr_alternation_45 tg_Rdr_node ml_Rdr_86 im_Rdr_node se_Rdr_node ⟨_, rfl, rfl⟩ (by assumption) (Nat.le_of_ble_eq_true rfl) (Nat.le_refl _) (Nat.le_refl _) (k_node (k := 5) hA' hI2 (by omega)) qIl_nt (qIl_go (fun x2 i2 g2 hp => ?_))
        obtain ⟨⟨rfl, hI4⟩, hf8, hf9⟩ := hp
        refine wf_istore_n dc_Rdr_alternation_48 (by decide) ?_
        refine wf_iinc _ dc_Rdr_alternation_49 rfl (nI_1 j) (by decide) ?_
        refine wf_goto 8 dc_Rdr_alternation_52 (by decide) ?_
        refine Wf.to (by exact ⟨rfl, rfl, rfl, rfl, trivial⟩) (ih (j + 1) _ _ _ _ _ _ R (by omega) hR hI4 ?_ (fr_ss hf1 (fr_ss hfu (fr_ss hf4 hf8))) (fr_ss hg1 (fr_ss hf5 hf9)))
        rw [List.length_append]
        simp only [List.length_cons, List.length_nil]
        omega
  refine wf_aload_n dc_Rdr_alternation_0 rfl ?_
  refine wf_iload_n dc_Rdr_alternation_1 rfl ?_
  refine wf_iv1 (M' := mt_Rdr_sequence) (c := 4) dc_Rdr_alternation_2 tg_Rdr_sequence ml_Rdr_80 im_Rdr_sequence se_Rdr_sequence ⟨_, rfl, rfl⟩ (by assumption) (Nat.le_of_ble_eq_true rfl) (Nat.le_refl _) (Nat.le_refl _) (c_Rdr_sequence hA' hI hS hlv hl hG) qIl_nt (qIl_go (fun x2 i2 g2 hp => ?_))
  obtain ⟨hp, hf4, hf5⟩ := hp
  have hok := ps_sq_ok (N := N) (A := A) (ps_grp_ok (S := S) lv) hpS
  unfold ps_alt
  revert hp hok
  cases ps_sq S (ps_grp S lv) p N A with
  | inl e =>
    rintro ⟨w1, N2, A2, rfl, hI2⟩ -
    refine wf_istore_n dc_Rdr_alternation_5 (by decide) ?_
    refine wf_iconst 0 dc_Rdr_alternation_6 (by decide) ?_
    refine wf_istore_n dc_Rdr_alternation_7 (by decide) ?_
    exact Wf.to (by exact ⟨rfl, rfl, rfl, rfl, trivial⟩) (flt _ _ e _ _ w1 _ _ rfl hI2 hf4 hf5)
  | inr q =>
    obtain ⟨w1, p2, N2, A2⟩ := q
    rintro ⟨rfl, hI2⟩ ⟨o1, o2, -, -, o5, o6, -⟩
    refine wf_istore_n dc_Rdr_alternation_5 (by decide) ?_
    refine wf_iconst 0 dc_Rdr_alternation_6 (by decide) ?_
    refine wf_istore_n dc_Rdr_alternation_7 (by decide) ?_
    exact Wf.to (by exact ⟨rfl, rfl, rfl, rfl, trivial⟩) (loop 60 0 _ _ _ _ _ _ _ rfl rfl hI2 (by omega) hf4 hf5)
theorem c_Rdr_group {a n : Nat} {V : Nat → Nat} {S : List Int32} (hA : rd_at t r a V n) (hS : sg_ok S) (lv : Nat) (hlv : lv < 10) (hG : 0 < lv → Rd_G l E n0 (d + 2) nx t r a V S lv) : Rd_G l E n0 (d + 6) nx t r a V S (lv + 1) := by
  intro i g p N A hI hl
  have hA' := hA
  have hpS := hI.2.2.1.2
  obtain ⟨ha, -, r7, -, -, -, -, -, ⟨e1, -⟩, -⟩ := hA
  refine Ct.of (by decide) (Nat.le_of_ble_eq_true rfl) ?_
  refine wf_aload_n dc_Rdr_group_0 rfl ?_
  refine wf_iload_n dc_Rdr_group_1 rfl ?_
  refine wf_iconst 1 dc_Rdr_group_2 (by decide) ?_
  refine wf_iadd dc_Rdr_group_3 ?_
  rw [nI_1, show 10 - (lv + 1) + 1 = 10 - lv by omega]
  refine wf_iv1 (M' := mt_Rdr_alternation) (c := 4) dc_Rdr_group_4 tg_Rdr_alternation ml_Rdr_61 im_Rdr_alternation se_Rdr_alternation ⟨_, rfl, rfl⟩ (by assumption) (Nat.le_of_ble_eq_true rfl) (Nat.le_refl _) (Nat.le_refl _) (c_Rdr_alternation hA' hI hS (by omega) hl hG) qIl_nt (qIl_go (fun x2 i2 g2 hp => ?_))
  obtain ⟨hp, hf4, hf5⟩ := hp
  show Wf l E n0 mt_Rdr_group (d + 6) 0 0 (rd_q nx t r i g a V (fun z i' g' => rd_R i' g' a V S (match ps_alt S (ps_grp S lv) p N A with
      | .inl e => .inl e
      | .inr (w, p, N1, A1) => if nx_of S p = 41 then .inr (w, p + 1, N1, A1) else .inl p) z)) 0 0 _ _ _ _ _ _ _ _
  revert hp
  cases ps_alt S (ps_grp S lv) p N A with
  | inl e =>
    rintro ⟨w1, N2, A2, rfl, hI2⟩
    refine wf_istore_n dc_Rdr_group_7 (by decide) ?_
    refine wf_aload_n dc_Rdr_group_8 rfl ?_
    refine wf_iv0 (M' := mt_Rdr_next) (c := 4) dc_Rdr_group_9 tg_Rdr_next ml_Rdr_83 im_Rdr_next se_Rdr_next ⟨_, rfl, rfl⟩ (by assumption) (Nat.le_of_ble_eq_true rfl) (Nat.le_refl _) (Nat.le_refl _) (c_Rdr_next hA' hI2) qI_nt (qI_go (fun x2 i2 hp => ?_))
    obtain ⟨rfl, hq⟩ := hp
    subst hq
    rw [nx_end (Nat.le_refl _)]
    refine wf_bipush 41 dc_Rdr_group_12 (by decide) ?_
    refine wf_icmp_eq 22 dc_Rdr_group_14 (by decide) (fun hc => absurd hc (by decide)) (fun hc => ?_)
    refine wf_aload_n dc_Rdr_group_17 rfl ?_
    refine wf_iv0 (M' := mt_Rdr_refuse) (c := 4) dc_Rdr_group_18 tg_Rdr_refuse ml_Rdr_68 im_Rdr_refuse se_Rdr_refuse ⟨_, rfl, rfl⟩ (by assumption) (Nat.le_of_ble_eq_true rfl) (Nat.le_refl _) (Nat.le_refl _) (c_Rdr_refuse hA' hI2) qIl_nt (qIl_go (fun x2 i2 g2 hp => ?_))
    obtain ⟨⟨rfl, hI4⟩, hf8, hf9⟩ := hp
    exact wf_ireturn rfl dc_Rdr_group_21 ⟨_, rfl, rfl, rfl, rfl, ⟨0, _, _, rfl, hI4⟩, fr_ss hf4 hf8, fr_ss hf5 hf9⟩
  | inr q =>
    obtain ⟨w1, p2, N2, A2⟩ := q
    rintro ⟨rfl, hI2⟩
    refine wf_istore_n dc_Rdr_group_7 (by decide) ?_
    refine wf_aload_n dc_Rdr_group_8 rfl ?_
    refine wf_iv0 (M' := mt_Rdr_next) (c := 4) dc_Rdr_group_9 tg_Rdr_next ml_Rdr_83 im_Rdr_next se_Rdr_next ⟨_, rfl, rfl⟩ (by assumption) (Nat.le_of_ble_eq_true rfl) (Nat.le_refl _) (Nat.le_refl _) (c_Rdr_next hA' hI2) qI_nt (qI_go (fun x2 i2 hp => ?_))
    obtain ⟨rfl, hq⟩ := hp
    subst hq
    simp only
    refine wf_bipush 41 dc_Rdr_group_12 (by decide) ?_
    refine wf_icmp_eq 22 dc_Rdr_group_14 (by decide) (fun h1 => ?_) (fun h1 => ?_)
    · rw [if_pos h1]
      have h9 := hI2.2.2.1.1
      refine wf_aload_n dc_Rdr_group_22 rfl ?_
      refine wf_dup dc_Rdr_group_23 rfl ?_
      refine wf_geti dc_Rdr_group_24 fl_Rdr_48 rfl (by assumption) ?_
      refine wf_iconst 1 dc_Rdr_group_27 (by decide) ?_
      refine wf_iadd dc_Rdr_group_28 ?_
      rw [h9, nI_1]
      refine wf_puti dc_Rdr_group_29 fl_Rdr_48 (Or.inl nf_Rdr_9) rfl rfl rfl (by assumption) ?_
      refine wf_iload_n dc_Rdr_group_32 rfl ?_
      obtain ⟨hI5, hfu⟩ := rd_up9 hA' hI2 (nx_lt2 h1 (by decide))
      exact wf_ireturn rfl dc_Rdr_group_33 ⟨_, rfl, rfl, rfl, rfl, ⟨rfl, hI5⟩, fr_ss hf4 hfu, hf5⟩
    · rw [if_neg h1]
      refine wf_aload_n dc_Rdr_group_17 rfl ?_
      refine wf_iv0 (M' := mt_Rdr_refuse) (c := 4) dc_Rdr_group_18 tg_Rdr_refuse ml_Rdr_68 im_Rdr_refuse se_Rdr_refuse ⟨_, rfl, rfl⟩ (by assumption) (Nat.le_of_ble_eq_true rfl) (Nat.le_refl _) (Nat.le_refl _) (c_Rdr_refuse hA' hI2) qIl_nt (qIl_go (fun x2 i2 g2 hp => ?_))
      obtain ⟨⟨rfl, hI4⟩, hf8, hf9⟩ := hp
      exact wf_ireturn rfl dc_Rdr_group_21 ⟨_, rfl, rfl, rfl, rfl, ⟨0, _, _, rfl, hI4⟩, fr_ss hf4 hf8, fr_ss hf5 hf9⟩
/-- all levels -/
theorem k_Rdr_group {a n : Nat} {V : Nat → Nat} {S : List Int32} (hA : rd_at t r a V n) (hS : sg_ok S) (lv : Nat) (hlv : lv ≤ 10) : 0 < lv → Rd_G l E n0 (d + 4 * lv + 2) nx t r a V S lv := by
  induction lv with
  | zero => exact fun h => absurd h (Nat.lt_irrefl _)
  | succ lv ih =>
    intro _
    have := c_Rdr_group (d := d + 4 * lv) hA hS lv hlv (ih (by omega))
    rw [show d + 4 * (lv + 1) + 2 = d + 4 * lv + 6 by omega]
    exact this
theorem k_Rdr_alternation {a n : Nat} {V : Nat → Nat} {S : List Int32} (hA : rd_at t r a V n) (hI : rd_is i g a V S 0 none [] []) (hS : sg_ok S) : Ct l E n0 mt_Rdr_alternation (d + 45) 0 0 [.ref a, .int 0] nx t r i g (rd_q nx t r i g a V (fun z i' g' => rd_R i' g' a V S (ps_alt S (ps_grp S 10) 0 [] []) z)) :=
  c_Rdr_alternation (d := d + 40) (lv := 10) hA hI hS (Nat.le_refl _) (Nat.zero_le _) (k_Rdr_group hA hS 10 (Nat.le_refl _))
end
