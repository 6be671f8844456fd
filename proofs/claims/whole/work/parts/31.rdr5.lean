/-! class Reader: repeated, atom -/
section
variable {l : Launch} {E : We} {n0 d nx : Nat} {t : Wt} {r : Wr} {i : Wi} {g : Wl}
theorem c_Rdr_repeated {a n p w : Nat} {V : Nat → Nat} {S : List Int32} {N : RdN} {A : RdA} (hA : rd_at t r a V n) (hI : rd_is i g a V S p none N A) (hl : N.length ≤ 2 * p) : Ct l E n0 mt_Rdr_repeated (d + 2) 0 0 [.ref a, .int (nI w)] nx t r i g (rd_q nx t r i g a V (fun z i' g' => z = nI (ps_rep S 60 w p N).1 ∧ rd_is i' g' a V S (ps_rep S 60 w p N).2.1 none (ps_rep S 60 w p N).2.2 A)) := by
  have hA' := hA
  have hS := hI.2.1
  obtain ⟨ha, -, r7, -, -, -, -, -, ⟨e1, -⟩, -⟩ := hA
  refine Ct.of (by decide) (Nat.le_of_ble_eq_true rfl) ?_
  have loop : ∀ (k j : Nat) (i1 : Wi) (g1 : Wl) (w1 p1 : Nat) (N1 : RdN), j + k = 60 → ps_rep S 60 w p N = ps_rep S k w1 p1 N1 → rd_is i1 g1 a V S p1 none N1 A → N1.length ≤ 2 * p1 → fr_is (rd_fp a V) i i1 → fr_is [V 7] g g1 → Wf l E n0 mt_Rdr_repeated (d + 2) 0 0 (rd_q nx t r i g a V (fun z i' g' => z = nI (ps_rep S 60 w p N).1 ∧ rd_is i' g' a V S (ps_rep S 60 w p N).2.1 none (ps_rep S 60 w p N).2.2 A)) 0 0 4 [(0, .ref a), (1, .int (nI w)), (2, .int (nI w1)), (3, .int (nI j))] [] nx t r i1 g1 := by
    intro k
    induction k with
    | zero =>
      intro j i1 g1 w1 p1 N1 hj hR hI1 hl1 hf1 hg1
      rw [hR]
      refine wf_iload_n dc_Rdr_repeated_4 rfl ?_
      refine wf_bipush 60 dc_Rdr_repeated_5 (by decide) ?_
      refine wf_icmp_ge 50 dc_Rdr_repeated_7 (by decide) (fun hc => ?_) (fun hc => absurd ((nI_leI (a := 60) (by omega) (by omega)).mpr (by omega)) hc)
      refine wf_iload_n dc_Rdr_repeated_50 rfl ?_
      exact wf_ireturn rfl dc_Rdr_repeated_51 ⟨_, rfl, rfl, rfl, rfl, ⟨rfl, hI1⟩, hf1, hg1⟩
    | succ k ih =>
      intro j i1 g1 w1 p1 N1 hj hR hI1 hl1 hf1 hg1
      refine wf_iload_n dc_Rdr_repeated_4 rfl ?_
      refine wf_bipush 60 dc_Rdr_repeated_5 (by decide) ?_
      refine wf_icmp_ge 50 dc_Rdr_repeated_7 (by decide) (fun hc => absurd ((nI_leI (a := 60) (by omega) (by omega)).mp hc) (by omega)) (fun hc => ?_)
      refine wf_aload_n dc_Rdr_repeated_10 rfl ?_
      refine wf_iv0 (M' := mt_Rdr_next) (c := 4) dc_Rdr_repeated_11 tg_Rdr_next ml_Rdr_83 im_Rdr_next se_Rdr_next ⟨_, rfl, rfl⟩ (by assumption) (Nat.le_of_ble_eq_true rfl) (Nat.le_refl _) (Nat.le_refl _) (c_Rdr_next hA' hI1) qI_nt (qI_go (fun x2 i2 hp => ?_))
      obtain ⟨rfl, hq⟩ := hp
      subst i2
      refine wf_is1 (M' := mt_Rdr_isRepeat) dc_Rdr_repeated_14 tg_Rdr_isRepeat ml_Rdr_96 sm_Rdr_isRepeat (Nat.le_of_ble_eq_true rfl) (Nat.le_refl _) (Nat.le_refl _) (c_Rdr_isRepeat) qI_nt (qI_go (fun x2 i2 hp => ?_))
      obtain ⟨rfl, hq⟩ := hp
      subst i2
      by_cases h : ps_rp (nx_of S p1) = true
      · rw [if_pos h]
        refine wf_if_eq 50 dc_Rdr_repeated_17 (by decide) (fun hc => absurd hc (by decide)) (fun hc => ?_)
        refine wf_aload_n dc_Rdr_repeated_20 rfl ?_
        refine wf_aload_n dc_Rdr_repeated_21 rfl ?_
        refine wf_iv0 (M' := mt_Rdr_next) (c := 4) dc_Rdr_repeated_22 tg_Rdr_next ml_Rdr_83 im_Rdr_next se_Rdr_next ⟨_, rfl, rfl⟩ (by assumption) (Nat.le_of_ble_eq_true rfl) (Nat.le_refl _) (Nat.le_refl _) (c_Rdr_next hA' hI1) qI_nt (qI_go (fun x2 i2 hp => ?_))
        obtain ⟨rfl, hq⟩ := hp
        subst i2
        refine wf_is1 (M' := mt_Rdr_repeatKind) dc_Rdr_repeated_25 tg_Rdr_repeatKind ml_Rdr_100 sm_Rdr_repeatKind (Nat.le_of_ble_eq_true rfl) (Nat.le_refl _) (Nat.le_refl _) (c_Rdr_repeatKind) qI_nt (qI_go (fun x2 i2 hp => ?_))
        obtain ⟨rfl, hq⟩ := hp
        subst i2
        have hlt := ps_rp_lt h
        refine wf_iload_n dc_Rdr_repeated_28 rfl ?_
        refine wf_iconst 0 dc_Rdr_repeated_29 (by decide) ?_
        refine wf_iv3 (M' := mt_Rdr_node) (c := 4) dc_Rdr_repeated_30 tg_Rdr_node ml_Rdr_86 im_Rdr_node se_Rdr_node ⟨_, rfl, rfl⟩ (by assumption) (Nat.le_of_ble_eq_true rfl) (Nat.le_refl _) (Nat.le_refl _) (k_node (k := ps_kd (nx_of S p1)) (x := w1) (y := 0) hA' hI1 (by omega)) qIl_nt (qIl_go (fun x2 i2 g2 hp => ?_))
        obtain ⟨⟨rfl, hI2⟩, hf4, hf5⟩ := hp
        have h9 := hI2.2.2.1.1
        refine wf_istore_n dc_Rdr_repeated_33 (by decide) ?_
        refine wf_aload_n dc_Rdr_repeated_34 rfl ?_
        refine wf_dup dc_Rdr_repeated_35 rfl ?_
        refine wf_geti dc_Rdr_repeated_36 fl_Rdr_48 rfl (by assumption) ?_
        refine wf_iconst 1 dc_Rdr_repeated_39 (by decide) ?_
        refine wf_iadd dc_Rdr_repeated_40 ?_
        rw [h9, nI_1]
        refine wf_puti dc_Rdr_repeated_41 fl_Rdr_48 (Or.inl nf_Rdr_9) rfl rfl rfl (by assumption) ?_
        refine wf_iinc _ dc_Rdr_repeated_44 rfl (nI_1 j) (by decide) ?_
        refine wf_goto 4 dc_Rdr_repeated_47 (by decide) ?_
        obtain ⟨hI3, hf3⟩ := rd_up9 hA' hI2 hlt
        refine Wf.to (by exact ⟨rfl, rfl, rfl, rfl, trivial⟩) (ih (j + 1) _ _ _ _ _ (by omega) ?_ hI3 ?_ (fr_ss hf1 (fr_ss hf4 hf3)) (fr_ss hg1 hf5))
        · rw [hR]
          show (if ps_rp (nx_of S p1) = true then _ else _) = _
          rw [if_pos h]
        · rw [List.length_append]
          simp only [List.length_cons, List.length_nil]
          omega
      · rw [if_neg h]
        refine wf_if_eq 50 dc_Rdr_repeated_17 (by decide) (fun hc => ?_) (fun hc => absurd rfl hc)
        have hR2 : ps_rep S 60 w p N = (w1, p1, N1) := by
          rw [hR]
          show (if ps_rp (nx_of S p1) = true then _ else _) = _
          rw [if_neg h]
        rw [hR2]
        refine wf_iload_n dc_Rdr_repeated_50 rfl ?_
        exact wf_ireturn rfl dc_Rdr_repeated_51 ⟨_, rfl, rfl, rfl, rfl, ⟨rfl, hI1⟩, hf1, hg1⟩
  refine wf_iload_n dc_Rdr_repeated_0 rfl ?_
  refine wf_istore_n dc_Rdr_repeated_1 (by decide) ?_
  refine wf_iconst 0 dc_Rdr_repeated_2 (by decide) ?_
  refine wf_istore_n dc_Rdr_repeated_3 (by decide) ?_
  exact Wf.to (by exact ⟨rfl, rfl, rfl, rfl, trivial⟩) (loop 60 0 i g w p N rfl rfl hI hl fr_rf fr_rf)
theorem c_Rdr_repeatedF {a n e w : Nat} {V : Nat → Nat} {S : List Int32} {N : RdN} {A : RdA} (hA : rd_at t r a V n) (hI : rd_is i g a V S S.length (some e) N A) : Ct l E n0 mt_Rdr_repeated (d + 2) 0 0 [.ref a, .int (nI w)] nx t r i g (rd_q nx t r i g a V (fun z i' g' => rd_R i' g' a V S (.inl e) z)) := by
  have hA' := hA
  obtain ⟨ha, -, r7, -, -, -, -, -, ⟨e1, -⟩, -⟩ := hA
  refine Ct.of (by decide) (Nat.le_of_ble_eq_true rfl) ?_
  refine wf_iload_n dc_Rdr_repeated_0 rfl ?_
  refine wf_istore_n dc_Rdr_repeated_1 (by decide) ?_
  refine wf_iconst 0 dc_Rdr_repeated_2 (by decide) ?_
  refine wf_istore_n dc_Rdr_repeated_3 (by decide) ?_
  refine wf_iload_n dc_Rdr_repeated_4 rfl ?_
  refine wf_bipush 60 dc_Rdr_repeated_5 (by decide) ?_
  refine wf_icmp_ge 50 dc_Rdr_repeated_7 (by decide) (fun hc => absurd hc (by decide)) (fun hc => ?_)
  refine wf_aload_n dc_Rdr_repeated_10 rfl ?_
  refine wf_iv0 (M' := mt_Rdr_next) (c := 4) dc_Rdr_repeated_11 tg_Rdr_next ml_Rdr_83 im_Rdr_next se_Rdr_next ⟨_, rfl, rfl⟩ (by assumption) (Nat.le_of_ble_eq_true rfl) (Nat.le_refl _) (Nat.le_refl _) (c_Rdr_next hA' hI) qI_nt (qI_go (fun x2 i2 hp => ?_))
  obtain ⟨rfl, hq⟩ := hp
  subst i2
  refine wf_is1 (M' := mt_Rdr_isRepeat) dc_Rdr_repeated_14 tg_Rdr_isRepeat ml_Rdr_96 sm_Rdr_isRepeat (Nat.le_of_ble_eq_true rfl) (Nat.le_refl _) (Nat.le_refl _) (c_Rdr_isRepeat) qI_nt (qI_go (fun x2 i2 hp => ?_))
  obtain ⟨rfl, hq⟩ := hp
  subst i2
  rw [nx_end (Nat.le_refl _)]
  refine wf_if_eq 50 dc_Rdr_repeated_17 (by decide) (fun hc => ?_) (fun hc => absurd rfl hc)
  refine wf_iload_n dc_Rdr_repeated_50 rfl ?_
  exact wf_ireturn rfl dc_Rdr_repeated_51 ⟨_, rfl, rfl, rfl, rfl, ⟨w, _, _, rfl, hI⟩, fr_rf, fr_rf⟩
/-- the contract of group with so many levels left -/
def Rd_G (l : Launch) (E : We) (n0 D nx : Nat) (t : Wt) (r : Wr) (a : Nat) (V : Nat → Nat) (S : List Int32) (lv : Nat) : Prop := ∀ (i : Wi) (g : Wl) (p : Nat) (N : RdN) (A : RdA), rd_is i g a V S p none N A → N.length ≤ 2 * p → Ct l E n0 mt_Rdr_group D 0 0 [.ref a, .int (nI (10 - lv))] nx t r i g (rd_q nx t r i g a V (fun z i' g' => rd_R i' g' a V S (ps_grp S lv p N A) z))
theorem c_Rdr_atom {a n p lv : Nat} {V : Nat → Nat} {S : List Int32} {N : RdN} {A : RdA} (hA : rd_at t r a V n) (hI : rd_is i g a V S p none N A) (hS : sg_ok S) (hlv : lv ≤ 10) (hp1 : p < S.length) (hl : N.length ≤ 2 * p + 1) (hG : 0 < lv → Rd_G l E n0 (d + 2) nx t r a V S lv) : Ct l E n0 mt_Rdr_atom (d + 3) 0 0 [.ref a, .int (nI (10 - lv))] nx t r i g (rd_q nx t r i g a V (fun z i' g' => rd_R i' g' a V S (ps_atom S (ps_grp S lv) p N A) z)) := by
  have hA' := hA
  have hS60 := hI.2.1
  have hAp := hI.2.2.2.2.2.2.1.2
  obtain ⟨ha, -, r7, -, -, -, -, -, ⟨e1, -⟩, -⟩ := hA
  refine Ct.of (by decide) (Nat.le_of_ble_eq_true rfl) ?_
  have bad : ∀ R : RdR, R = .inl p → Wf l E n0 mt_Rdr_atom (d + 3) 0 0 (rd_q nx t r i g a V (fun z i' g' => rd_R i' g' a V S R z)) 0 0 30 [(0, .ref a), (1, .int (nI (10 - lv))), (2, .int (nx_of S p))] [] nx t r i g := by
    intro R hR
    refine wf_aload_n dc_Rdr_atom_30 rfl ?_
    refine wf_iv0 (M' := mt_Rdr_refuse) (c := 4) dc_Rdr_atom_31 tg_Rdr_refuse ml_Rdr_68 im_Rdr_refuse se_Rdr_refuse ⟨_, rfl, rfl⟩ (by assumption) (Nat.le_of_ble_eq_true rfl) (Nat.le_refl _) (Nat.le_refl _) (c_Rdr_refuse hA' hI) qIl_nt (qIl_go (fun x2 i2 g2 hp => ?_))
    obtain ⟨⟨rfl, hI4⟩, hf4, hf5⟩ := hp
    exact wf_ireturn rfl dc_Rdr_atom_34 ⟨_, rfl, rfl, rfl, rfl, by rw [hR]; exact ⟨0, _, _, rfl, hI4⟩, hf4, hf5⟩
  have good : ¬ (ps_rp (nx_of S p) = true ∨ nx_of S p = 93) → (nx_of S p = 40 → 0 < lv) → Wf l E n0 mt_Rdr_atom (d + 3) 0 0 (rd_q nx t r i g a V (fun z i' g' => rd_R i' g' a V S (ps_atom S (ps_grp S lv) p N A) z)) 0 0 35 [(0, .ref a), (1, .int (nI (10 - lv))), (2, .int (nx_of S p))] [] nx t r i g := by
    intro h1 h40
    have h9 := hI.2.2.1.1
    obtain ⟨s0, s0'⟩ := nx_nI hS p
    obtain ⟨s1, s1'⟩ := nx_nI hS (p + 1)
    unfold ps_atom
    rw [if_neg h1]
    refine wf_aload_n dc_Rdr_atom_35 rfl ?_
    refine wf_dup dc_Rdr_atom_36 rfl ?_
    refine wf_geti dc_Rdr_atom_37 fl_Rdr_48 rfl (by assumption) ?_
    refine wf_iconst 1 dc_Rdr_atom_40 (by decide) ?_
    refine wf_iadd dc_Rdr_atom_41 ?_
    rw [h9, nI_1]
    refine wf_puti dc_Rdr_atom_42 fl_Rdr_48 (Or.inl nf_Rdr_9) rfl rfl rfl (by assumption) ?_
    refine wf_iload_n dc_Rdr_atom_45 rfl ?_
    obtain ⟨hI2, hf2⟩ := rd_up9 hA' hI hp1
    by_cases h2 : nx_of S p = 94
    · rw [if_pos h2, h2]
      refine wf_lookup 104 dc_Rdr_atom_46 (by decide) rfl (by decide) ?_
      refine wf_aload_n dc_Rdr_atom_104 rfl ?_
      refine wf_iconst 1 dc_Rdr_atom_105 (by decide) ?_
      refine wf_iconst 0 dc_Rdr_atom_106 (by decide) ?_
      refine wf_iconst 0 dc_Rdr_atom_107 (by decide) ?_
      refine wf_iv3 (M' := mt_Rdr_node) (c := 4) dc_Rdr_atom_108 tg_Rdr_node ml_Rdr_86 im_Rdr_node se_Rdr_node ⟨_, rfl, rfl⟩ (by assumption) (Nat.le_of_ble_eq_true rfl) (Nat.le_refl _) (Nat.le_refl _) (k_node (k := 1) (x := 0) (y := 0) hA' hI2 (by omega)) qIl_nt (qIl_go (fun x2 i2 g2 hp => ?_))
      obtain ⟨hp, hf4, hf5⟩ := hp
      exact wf_ireturn rfl dc_Rdr_atom_111 ⟨_, rfl, rfl, rfl, rfl, hp, fr_ss hf2 hf4, hf5⟩
    rw [if_neg h2]
    by_cases h3 : nx_of S p = 36
    · rw [if_pos h3, h3]
      refine wf_lookup 112 dc_Rdr_atom_46 (by decide) rfl (by decide) ?_
      refine wf_aload_n dc_Rdr_atom_112 rfl ?_
      refine wf_iconst 2 dc_Rdr_atom_113 (by decide) ?_
      refine wf_iconst 0 dc_Rdr_atom_114 (by decide) ?_
      refine wf_iconst 0 dc_Rdr_atom_115 (by decide) ?_
      refine wf_iv3 (M' := mt_Rdr_node) (c := 4) dc_Rdr_atom_116 tg_Rdr_node ml_Rdr_86 im_Rdr_node se_Rdr_node ⟨_, rfl, rfl⟩ (by assumption) (Nat.le_of_ble_eq_true rfl) (Nat.le_refl _) (Nat.le_refl _) (k_node (k := 2) (x := 0) (y := 0) hA' hI2 (by omega)) qIl_nt (qIl_go (fun x2 i2 g2 hp => ?_))
      obtain ⟨hp, hf4, hf5⟩ := hp
      exact wf_ireturn rfl dc_Rdr_atom_119 ⟨_, rfl, rfl, rfl, rfl, hp, fr_ss hf2 hf4, hf5⟩
    rw [if_neg h3]
    by_cases h4 : nx_of S p = 46
    · rw [if_pos h4, h4]
      refine wf_lookup 120 dc_Rdr_atom_46 (by decide) rfl (by decide) ?_
      refine wf_aload_n dc_Rdr_atom_120 rfl ?_
      refine wf_iv0 (M' := mt_Rdr_anySign) (c := 4) dc_Rdr_atom_121 tg_Rdr_anySign ml_Rdr_103 im_Rdr_anySign se_Rdr_anySign ⟨_, rfl, rfl⟩ (by assumption) (Nat.le_of_ble_eq_true rfl) (Nat.le_refl _) (Nat.le_refl _) (c_Rdr_anySign hA' hI2 (by omega) (by omega)) qIl_nt (qIl_go (fun x2 i2 g2 hp => ?_))
      obtain ⟨hp, hf4, hf5⟩ := hp
      exact wf_ireturn rfl dc_Rdr_atom_124 ⟨_, rfl, rfl, rfl, rfl, hp, fr_ss hf2 hf4, hf5⟩
    rw [if_neg h4]
    by_cases h5 : nx_of S p = 92
    · rw [if_pos h5, h5]
      refine wf_lookup 125 dc_Rdr_atom_46 (by decide) rfl (by decide) ?_
      refine wf_aload_n dc_Rdr_atom_125 rfl ?_
      refine wf_aload_n dc_Rdr_atom_126 rfl ?_
      refine wf_iv0 (M' := mt_Rdr_escaped) (c := 4) dc_Rdr_atom_127 tg_Rdr_escaped ml_Rdr_106 im_Rdr_escaped se_Rdr_escaped ⟨_, rfl, rfl⟩ (by assumption) (Nat.le_of_ble_eq_true rfl) (Nat.le_refl _) (Nat.le_refl _) (c_Rdr_escaped hA' hI2) qIl_nt (qIl_go (fun x2 i2 g2 hp => ?_))
      obtain ⟨⟨rfl, q1, q2⟩, hf4, hf5⟩ := hp
      by_cases h6 : nx_of S (p + 1) = 0
      · rw [if_pos h6, s1]
        have hI3 := q1 h6
        refine wf_iv1 (M' := mt_Rdr_one) (c := 4) dc_Rdr_atom_130 tg_Rdr_one ml_Rdr_109 im_Rdr_one se_Rdr_one ⟨_, rfl, rfl⟩ (by assumption) (Nat.le_of_ble_eq_true rfl) (Nat.le_refl _) (Nat.le_refl _) (c_Rdr_one hA' hI3 (by omega) s1') qIl_nt (qIl_go (fun x2 i2 g2 hp => ?_))
        obtain ⟨⟨u1, u2⟩, hf6, hf7⟩ := hp
        refine wf_ireturn rfl dc_Rdr_atom_133 ⟨_, rfl, rfl, rfl, rfl, ?_, fr_ss hf2 (fr_ss hf4 hf6), fr_ss hf5 hf7⟩
        by_cases hN : N.length < 121
        · exact ⟨_, _, _, (u1 hN).1, (u1 hN).2⟩
        · exact ⟨0, _, _, (u2 hN).1, (u2 hN).2⟩
      · rw [if_neg h6, s1]
        have hI3 := q2 h6
        refine wf_iv1 (M' := mt_Rdr_one) (c := 4) dc_Rdr_atom_130 tg_Rdr_one ml_Rdr_109 im_Rdr_one se_Rdr_one ⟨_, rfl, rfl⟩ (by assumption) (Nat.le_of_ble_eq_true rfl) (Nat.le_refl _) (Nat.le_refl _) (c_Rdr_one hA' hI3 (by omega) s1') qIl_nt (qIl_go (fun x2 i2 g2 hp => ?_))
        obtain ⟨⟨u1, -⟩, hf6, hf7⟩ := hp
        exact wf_ireturn rfl dc_Rdr_atom_133 ⟨_, rfl, rfl, rfl, rfl, u1 (by omega), fr_ss hf2 (fr_ss hf4 hf6), fr_ss hf5 hf7⟩
    rw [if_neg h5]
    by_cases h7 : nx_of S p = 91
    · rw [if_pos h7, h7]
      refine wf_lookup 134 dc_Rdr_atom_46 (by decide) rfl (by decide) ?_
      refine wf_aload_n dc_Rdr_atom_134 rfl ?_
      refine wf_iv0 (M' := mt_Rdr_items) (c := 4) dc_Rdr_atom_135 tg_Rdr_items ml_Rdr_112 im_Rdr_items se_Rdr_items ⟨_, rfl, rfl⟩ (by assumption) (Nat.le_of_ble_eq_true rfl) (Nat.le_refl _) (Nat.le_refl _) (c_Rdr_items hA' hI2 hS (by omega) (by omega)) qIl_nt (qIl_go (fun x2 i2 g2 hp => ?_))
      obtain ⟨hp, hf4, hf5⟩ := hp
      exact wf_ireturn rfl dc_Rdr_atom_138 ⟨_, rfl, rfl, rfl, rfl, hp, fr_ss hf2 hf4, hf5⟩
    rw [if_neg h7]
    by_cases h8 : nx_of S p = 40
    · rw [if_pos h8, h8]
      refine wf_lookup 139 dc_Rdr_atom_46 (by decide) rfl (by decide) ?_
      refine wf_aload_n dc_Rdr_atom_139 rfl ?_
      refine wf_iload_n dc_Rdr_atom_140 rfl ?_
      refine wf_iv1 (M' := mt_Rdr_group) (c := 4) dc_Rdr_atom_141 tg_Rdr_group ml_Rdr_115 im_Rdr_group se_Rdr_group ⟨_, rfl, rfl⟩ (by assumption) (Nat.le_of_ble_eq_true rfl) (Nat.le_refl _) (Nat.le_refl _) (hG (h40 h8) _ _ _ _ _ hI2 (by omega)) qIl_nt (qIl_go (fun x2 i2 g2 hp => ?_))
      obtain ⟨hp, hf4, hf5⟩ := hp
      exact wf_ireturn rfl dc_Rdr_atom_144 ⟨_, rfl, rfl, rfl, rfl, hp, fr_ss hf2 hf4, hf5⟩
    rw [if_neg h8]
    refine wf_lookup (off := 99) 145 dc_Rdr_atom_46 (by decide) ?_ (by decide) ?_
    · exact (lv_osw (k := 36) h3 (by decide)).trans ((lv_osw (k := 40) h8 (by decide)).trans ((lv_osw (k := 46) h4 (by decide)).trans ((lv_osw (k := 91) h7 (by decide)).trans ((lv_osw (k := 92) h5 (by decide)).trans ((lv_osw (k := 94) h2 (by decide)).trans rfl)))))
    · rw [s0]
      refine wf_aload_n dc_Rdr_atom_145 rfl ?_
      refine wf_iload_n dc_Rdr_atom_146 rfl ?_
      refine wf_iv1 (M' := mt_Rdr_one) (c := 4) dc_Rdr_atom_147 tg_Rdr_one ml_Rdr_109 im_Rdr_one se_Rdr_one ⟨_, rfl, rfl⟩ (by assumption) (Nat.le_of_ble_eq_true rfl) (Nat.le_refl _) (Nat.le_refl _) (c_Rdr_one hA' hI2 (by omega) s0') qIl_nt (qIl_go (fun x2 i2 g2 hp => ?_))
      obtain ⟨⟨u1, -⟩, hf6, hf7⟩ := hp
      exact wf_ireturn rfl dc_Rdr_atom_150 ⟨_, rfl, rfl, rfl, rfl, u1 (by omega), fr_ss hf2 hf6, hf7⟩
  refine wf_aload_n dc_Rdr_atom_0 rfl ?_
  refine wf_iv0 (M' := mt_Rdr_next) (c := 4) dc_Rdr_atom_1 tg_Rdr_next ml_Rdr_83 im_Rdr_next se_Rdr_next ⟨_, rfl, rfl⟩ (by assumption) (Nat.le_of_ble_eq_true rfl) (Nat.le_refl _) (Nat.le_refl _) (c_Rdr_next hA' hI) qI_nt (qI_go (fun x2 i2 hp => ?_))
  obtain ⟨rfl, hq⟩ := hp
  subst i2
  refine wf_istore_n dc_Rdr_atom_4 (by decide) ?_
  refine wf_iload_n dc_Rdr_atom_5 rfl ?_
  refine wf_is1 (M' := mt_Rdr_isRepeat) dc_Rdr_atom_6 tg_Rdr_isRepeat ml_Rdr_96 sm_Rdr_isRepeat (Nat.le_of_ble_eq_true rfl) (Nat.le_refl _) (Nat.le_refl _) (c_Rdr_isRepeat) qI_nt (qI_go (fun x2 i2 hp => ?_))
  obtain ⟨rfl, hq⟩ := hp
  subst i2
  by_cases h1 : ps_rp (nx_of S p) = true
  · rw [if_pos h1]
    refine wf_if_ne 30 dc_Rdr_atom_9 (by decide) (fun _ => ?_) (fun hc => absurd hc (by decide))
    exact Wf.to (by exact ⟨rfl, rfl, rfl, trivial⟩) (bad _ (by rw [ps_atom, if_pos (.inl h1)]))
  rw [if_neg h1]
  refine wf_if_ne 30 dc_Rdr_atom_9 (by decide) (fun hc => absurd rfl hc) (fun _ => ?_)
  refine wf_iload_n dc_Rdr_atom_12 rfl ?_
  refine wf_bipush 93 dc_Rdr_atom_13 (by decide) ?_
  refine wf_icmp_eq 30 dc_Rdr_atom_15 (by decide) (fun h2 => ?_) (fun h2 => ?_)
  · exact Wf.to (by exact ⟨rfl, rfl, rfl, trivial⟩) (bad _ (by rw [ps_atom, if_pos (.inr h2)]))
  have h12 : ¬ (ps_rp (nx_of S p) = true ∨ nx_of S p = 93) := fun q => q.elim h1 h2
  refine wf_iload_n dc_Rdr_atom_18 rfl ?_
  refine wf_bipush 40 dc_Rdr_atom_19 (by decide) ?_
  refine wf_icmp_ne 35 dc_Rdr_atom_21 (by decide) (fun h3 => ?_) (fun h3 => ?_)
  · exact Wf.to (by exact ⟨rfl, rfl, rfl, trivial⟩) (good h12 (fun q => absurd q h3))
  refine wf_iload_n dc_Rdr_atom_24 rfl ?_
  refine wf_bipush 10 dc_Rdr_atom_25 (by decide) ?_
  refine wf_icmp_lt 35 dc_Rdr_atom_27 (by decide) (fun h4 => ?_) (fun h4 => ?_)
  · exact Wf.to (by exact ⟨rfl, rfl, rfl, trivial⟩) (good h12 (fun _ => by have := (nI_ltI (b := 10) (by omega) (by omega)).mp h4; omega))
  · have hlv0 : lv = 0 := by
      apply Classical.byContradiction
      intro q
      exact h4 ((nI_ltI (b := 10) (by omega) (by omega)).mpr (by omega))
    refine Wf.to (by exact ⟨rfl, rfl, rfl, trivial⟩) (bad _ ?_)
    rw [ps_atom, if_neg h12, h3, hlv0]
    rfl
end
