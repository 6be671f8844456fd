/-! class Reader: items -/
section
variable {l : Launch} {E : We} {n0 d nx : Nat} {t : Wt} {r : Wr} {i : Wi} {g : Wl}
theorem c_Rdr_items {a n p : Nat} {V : Nat → Nat} {S : List Int32} {N : RdN} {A : RdA} (hA : rd_at t r a V n) (hI : rd_is i g a V S p none N A) (hS : sg_ok S) (hAp : A.length < p) (hl : N.length < 121) : Ct l E n0 mt_Rdr_items (d + 2) 0 0 [.ref a] nx t r i g (rd_q nx t r i g a V (fun z i' g' => rd_R i' g' a V S (match ps_set S p with
    | .inl e => .inl e
    | .inr (p', m) => ps_one p' N A m) z)) := by
  have hA' := hA
  obtain ⟨ha, -, r7, -, -, -, -, -, ⟨e1, -⟩, -⟩ := hA
  refine Ct.of (by decide) (Nat.le_of_ble_eq_true rfl) ?_
  refine wf_aload_n dc_Rdr_items_0 rfl ?_
  refine wf_iv0 (M' := mt_Rdr_newAtom) (c := 4) dc_Rdr_items_1 tg_Rdr_newAtom ml_Rdr_118 im_Rdr_newAtom se_Rdr_newAtom ⟨_, rfl, rfl⟩ (by assumption) (Nat.le_of_ble_eq_true rfl) (Nat.le_refl _) (Nat.le_refl _) (c_Rdr_newAtom hA' hI hAp) qL_nt (qL_go (fun x2 i2 hp => ?_))
  obtain ⟨hT, hI2, hf2⟩ := hp
  generalize x2 = T at hT
  have flt : ∀ (i1 : Wi) (g1 : Wl) (e : Nat) (m : Nat → Bool) (o j : Int32) (R : RdR), R = .inl e → rd_is i1 g1 a V S S.length (some e) N (A ++ [m]) → fr_is (rd_fp a V) i i1 → fr_is [V 7] g g1 → Wf l E n0 mt_Rdr_items (d + 2) 0 0 (rd_q nx t r i g a V (fun z i' g' => rd_R i' g' a V S R z)) 0 0 42 [(0, .ref a), (1, .long T), (3, .int o), (4, .int j)] [] nx t r i1 g1 := by
    intro i1 g1 e m o j R hR hI1 hf1 hg1
    subst hR
    have tail : Wf l E n0 mt_Rdr_items (d + 2) 0 0 (rd_q nx t r i g a V (fun z i' g' => rd_R i' g' a V S (.inl e) z)) 0 0 76 [(0, .ref a), (1, .long T), (3, .int o), (4, .int j)] [] nx t r i1 g1 := by
      refine wf_aload_n dc_Rdr_items_76 rfl ?_
      refine wf_iv0 (M' := mt_Rdr_next) (c := 4) dc_Rdr_items_77 tg_Rdr_next ml_Rdr_83 im_Rdr_next se_Rdr_next ⟨_, rfl, rfl⟩ (by assumption) (Nat.le_of_ble_eq_true rfl) (Nat.le_refl _) (Nat.le_refl _) (c_Rdr_next hA' hI1) qI_nt (qI_go (fun x2 i2 hp => ?_))
      obtain ⟨rfl, hq⟩ := hp
      subst i2
      rw [nx_end (Nat.le_refl _)]
      refine wf_bipush 93 dc_Rdr_items_80 (by decide) ?_
      refine wf_icmp_eq 90 dc_Rdr_items_82 (by decide) (fun hc => absurd hc (by decide)) (fun hc => ?_)
      refine wf_aload_n dc_Rdr_items_85 rfl ?_
      refine wf_iv0 (M' := mt_Rdr_refuse) (c := 4) dc_Rdr_items_86 tg_Rdr_refuse ml_Rdr_68 im_Rdr_refuse se_Rdr_refuse ⟨_, rfl, rfl⟩ (by assumption) (Nat.le_of_ble_eq_true rfl) (Nat.le_refl _) (Nat.le_refl _) (c_Rdr_refuse hA' hI1) qIl_nt (qIl_go (fun x2 i2 g2 hp => ?_))
      obtain ⟨⟨rfl, hI4⟩, hf4, hf5⟩ := hp
      exact wf_ireturn rfl dc_Rdr_items_89 ⟨_, rfl, rfl, rfl, rfl, ⟨0, _, _, rfl, hI4⟩, fr_ss hf1 hf4, fr_ss hg1 hf5⟩
    refine wf_iload dc_Rdr_items_42 rfl ?_
    refine wf_bipush 60 dc_Rdr_items_44 (by decide) ?_
    refine wf_icmp_ge 76 dc_Rdr_items_46 (by decide) (fun h0 => ?_) (fun h0 => ?_)
    · exact Wf.to (by exact ⟨rfl, rfl, rfl, rfl, trivial⟩) tail
    · refine wf_aload_n dc_Rdr_items_49 rfl ?_
      refine wf_iv0 (M' := mt_Rdr_next) (c := 4) dc_Rdr_items_50 tg_Rdr_next ml_Rdr_83 im_Rdr_next se_Rdr_next ⟨_, rfl, rfl⟩ (by assumption) (Nat.le_of_ble_eq_true rfl) (Nat.le_refl _) (Nat.le_refl _) (c_Rdr_next hA' hI1) qI_nt (qI_go (fun x2 i2 hp => ?_))
      obtain ⟨rfl, hq⟩ := hp
      subst i2
      rw [nx_end (Nat.le_refl _)]
      refine wf_if_eq 76 dc_Rdr_items_53 (by decide) (fun hc => ?_) (fun hc => absurd rfl hc)
      exact Wf.to (by exact ⟨rfl, rfl, rfl, rfl, trivial⟩) tail
  have tail : ∀ (i1 : Wi) (g1 : Wl) (p1 : Nat) (m : Nat → Bool) (o : Bool) (j : Int32) (R : RdR), R = (if nx_of S p1 = 93 then ps_one (p1 + 1) N A (if o = true then ps_cm m else m) else .inl p1) → rd_is i1 g1 a V S p1 none N (A ++ [m]) → fr_is (rd_fp a V) i i1 → fr_is [V 7] g g1 → Wf l E n0 mt_Rdr_items (d + 2) 0 0 (rd_q nx t r i g a V (fun z i' g' => rd_R i' g' a V S R z)) 0 0 76 [(0, .ref a), (1, .long T), (3, .int (if o = true then 1 else 0)), (4, .int j)] [] nx t r i1 g1 := by
    intro i1 g1 p1 m o j R hR hI1 hf1 hg1
    have fin : ∀ (i3 : Wi) (g3 : Wl) (m3 : Nat → Bool), R = ps_one (p1 + 1) N A m3 → rd_is i3 g3 a V S (p1 + 1) none N (A ++ [m3]) → fr_is (rd_fp a V) i i3 → fr_is [V 7] g g3 → Wf l E n0 mt_Rdr_items (d + 2) 0 0 (rd_q nx t r i g a V (fun z i' g' => rd_R i' g' a V S R z)) 0 0 109 [(0, .ref a), (1, .long T), (3, .int (if o = true then 1 else 0)), (4, .int j)] [] nx t r i3 g3 := by
      intro i3 g3 m3 hR3 hI3 hf3 hg3
      have h5 := hI3.2.2.2.2.2.2.1.1
      rw [List.length_append] at h5
      refine wf_aload_n dc_Rdr_items_109 rfl ?_
      refine wf_iconst 3 dc_Rdr_items_110 (by decide) ?_
      refine wf_aload_n dc_Rdr_items_111 rfl ?_
      refine wf_getr dc_Rdr_items_112 fl_Rdr_35 rfl (by assumption) (by assumption) ?_
      refine wf_geti dc_Rdr_items_115 fl_Rdr_126 rfl (by assumption) ?_
      rw [h5]
      refine wf_iconst 1 dc_Rdr_items_118 (by decide) ?_
      refine wf_isub dc_Rdr_items_119 ?_
      rw [show nI (A.length + [m3].length) - 1 = nI A.length from nI_pred _]
      refine wf_iconst 0 dc_Rdr_items_120 (by decide) ?_
      refine wf_iv3 (M' := mt_Rdr_node) (c := 4) dc_Rdr_items_121 tg_Rdr_node ml_Rdr_86 im_Rdr_node se_Rdr_node ⟨_, rfl, rfl⟩ (by assumption) (Nat.le_of_ble_eq_true rfl) (Nat.le_refl _) (Nat.le_refl _) (k_node (k := 3) (x := A.length) (y := 0) hA' hI3 hl) qIl_nt (qIl_go (fun x2 i2 g2 hp => ?_))
      obtain ⟨hp, hf4, hf5⟩ := hp
      exact wf_ireturn rfl dc_Rdr_items_124 ⟨_, rfl, rfl, rfl, rfl, by rw [hR3]; exact hp, fr_ss hf3 hf4, fr_ss hg3 hf5⟩
    refine wf_aload_n dc_Rdr_items_76 rfl ?_
    refine wf_iv0 (M' := mt_Rdr_next) (c := 4) dc_Rdr_items_77 tg_Rdr_next ml_Rdr_83 im_Rdr_next se_Rdr_next ⟨_, rfl, rfl⟩ (by assumption) (Nat.le_of_ble_eq_true rfl) (Nat.le_refl _) (Nat.le_refl _) (c_Rdr_next hA' hI1) qI_nt (qI_go (fun x2 i2 hp => ?_))
    obtain ⟨rfl, hq⟩ := hp
    subst i2
    refine wf_bipush 93 dc_Rdr_items_80 (by decide) ?_
    refine wf_icmp_eq 90 dc_Rdr_items_82 (by decide) (fun hc => ?_) (fun hc => ?_)
    · rw [if_pos hc] at hR
      have h9 := hI1.2.2.1.1
      refine wf_aload_n dc_Rdr_items_90 rfl ?_
      refine wf_dup dc_Rdr_items_91 rfl ?_
      refine wf_geti dc_Rdr_items_92 fl_Rdr_48 rfl (by assumption) ?_
      refine wf_iconst 1 dc_Rdr_items_95 (by decide) ?_
      refine wf_iadd dc_Rdr_items_96 ?_
      rw [h9, nI_1]
      refine wf_puti dc_Rdr_items_97 fl_Rdr_48 (Or.inl nf_Rdr_9) rfl rfl rfl (by assumption) ?_
      refine wf_iload_n dc_Rdr_items_100 rfl ?_
      obtain ⟨hI3, hf3⟩ := rd_up9 hA' hI1 (nx_lt2 hc (by decide))
      cases o with
      | false =>
        refine wf_if_eq 109 dc_Rdr_items_101 (by decide) (fun hc => ?_) (fun hc => absurd rfl hc)
        exact Wf.to (by exact ⟨rfl, rfl, rfl, rfl, trivial⟩) (fin _ _ m hR hI3 (fr_ss hf1 hf3) hg1)
      | true =>
        refine wf_if_eq 109 dc_Rdr_items_101 (by decide) (fun hc => absurd hc (by decide)) (fun hc => ?_)
        refine wf_aload_n dc_Rdr_items_104 rfl ?_
        refine wf_lload_n dc_Rdr_items_105 rfl ?_
        refine wf_iv1 (M' := mt_Rdr_takeOthers) (c := 4) dc_Rdr_items_106 tg_Rdr_takeOthers ml_Rdr_133 im_Rdr_takeOthers se_Rdr_takeOthers ⟨_, rfl, rfl⟩ (by assumption) (Nat.le_of_ble_eq_true rfl) (Nat.le_refl _) (Nat.le_refl _) (c_Rdr_takeOthers hA') qVl_nt (qVl_go (fun i2 g2 hp => ?_))
        obtain ⟨rfl, hf5, hg⟩ := hp
        exact Wf.to (by exact ⟨rfl, rfl, rfl, rfl, trivial⟩) (fin _ _ (ps_cm m) hR (rd_to hI3 hT hg) (fr_ss hf1 hf3) (fr_ss hg1 hf5))
    · rw [if_neg hc] at hR
      refine wf_aload_n dc_Rdr_items_85 rfl ?_
      refine wf_iv0 (M' := mt_Rdr_refuse) (c := 4) dc_Rdr_items_86 tg_Rdr_refuse ml_Rdr_68 im_Rdr_refuse se_Rdr_refuse ⟨_, rfl, rfl⟩ (by assumption) (Nat.le_of_ble_eq_true rfl) (Nat.le_refl _) (Nat.le_refl _) (c_Rdr_refuse hA' hI1) qIl_nt (qIl_go (fun x2 i2 g2 hp => ?_))
      obtain ⟨⟨rfl, hI4⟩, hf4, hf5⟩ := hp
      exact wf_ireturn rfl dc_Rdr_items_89 ⟨_, rfl, rfl, rfl, rfl, by rw [hR]; exact ⟨0, _, _, rfl, hI4⟩, fr_ss hf1 hf4, fr_ss hg1 hf5⟩
  have loop : ∀ (k j : Nat) (i1 : Wi) (g1 : Wl) (p1 : Nat) (m : Nat → Bool) (o : Bool) (R : RdR), j + k = 60 → R = (match ps_items S k p1 m with
      | .inl e => .inl e
      | .inr (p2, m2) => if nx_of S p2 = 93 then ps_one (p2 + 1) N A (if o = true then ps_cm m2 else m2) else .inl p2) → rd_is i1 g1 a V S p1 none N (A ++ [m]) → fr_is (rd_fp a V) i i1 → fr_is [V 7] g g1 → Wf l E n0 mt_Rdr_items (d + 2) 0 0 (rd_q nx t r i g a V (fun z i' g' => rd_R i' g' a V S R z)) 0 0 42 [(0, .ref a), (1, .long T), (3, .int (if o = true then 1 else 0)), (4, .int (nI j))] [] nx t r i1 g1 := by
    intro k
    induction k with
    | zero =>
      intro j i1 g1 p1 m o R hj hR hI1 hf1 hg1
      refine wf_iload dc_Rdr_items_42 rfl ?_
      refine wf_bipush 60 dc_Rdr_items_44 (by decide) ?_
      refine wf_icmp_ge 76 dc_Rdr_items_46 (by decide) (fun hc => ?_) (fun hc => absurd ((nI_leI (a := 60) (by omega) (by omega)).mpr (by omega)) hc)
      exact Wf.to (by exact ⟨rfl, rfl, rfl, rfl, trivial⟩) (tail i1 g1 p1 m o _ R hR hI1 hf1 hg1)
    | succ k ih =>
      intro j i1 g1 p1 m o R hj hR hI1 hf1 hg1
      refine wf_iload dc_Rdr_items_42 rfl ?_
      refine wf_bipush 60 dc_Rdr_items_44 (by decide) ?_
      refine wf_icmp_ge 76 dc_Rdr_items_46 (by decide) (fun hc => absurd ((nI_leI (a := 60) (by omega) (by omega)).mp hc) (by omega)) (fun hc => ?_)
      refine wf_aload_n dc_Rdr_items_49 rfl ?_
      refine wf_iv0 (M' := mt_Rdr_next) (c := 4) dc_Rdr_items_50 tg_Rdr_next ml_Rdr_83 im_Rdr_next se_Rdr_next ⟨_, rfl, rfl⟩ (by assumption) (Nat.le_of_ble_eq_true rfl) (Nat.le_refl _) (Nat.le_refl _) (c_Rdr_next hA' hI1) qI_nt (qI_go (fun x2 i2 hp => ?_))
      obtain ⟨rfl, hq⟩ := hp
      subst i2
      unfold ps_items at hR
      refine wf_if_eq 76 dc_Rdr_items_53 (by decide) (fun h1 => ?_) (fun h1 => ?_)
      · rw [if_pos (.inl h1)] at hR
        exact Wf.to (by exact ⟨rfl, rfl, rfl, rfl, trivial⟩) (tail i1 g1 p1 m o _ R hR hI1 hf1 hg1)
      refine wf_aload_n dc_Rdr_items_56 rfl ?_
      refine wf_iv0 (M' := mt_Rdr_next) (c := 4) dc_Rdr_items_57 tg_Rdr_next ml_Rdr_83 im_Rdr_next se_Rdr_next ⟨_, rfl, rfl⟩ (by assumption) (Nat.le_of_ble_eq_true rfl) (Nat.le_refl _) (Nat.le_refl _) (c_Rdr_next hA' hI1) qI_nt (qI_go (fun x2 i2 hp => ?_))
      obtain ⟨rfl, hq⟩ := hp
      subst i2
      refine wf_bipush 93 dc_Rdr_items_60 (by decide) ?_
      refine wf_icmp_eq 76 dc_Rdr_items_62 (by decide) (fun h2 => ?_) (fun h2 => ?_)
      · rw [if_pos (.inr h2)] at hR
        exact Wf.to (by exact ⟨rfl, rfl, rfl, rfl, trivial⟩) (tail i1 g1 p1 m o _ R hR hI1 hf1 hg1)
      rw [if_neg (fun q => q.elim h1 h2)] at hR
      refine wf_aload_n dc_Rdr_items_65 rfl ?_
      refine wf_lload_n dc_Rdr_items_66 rfl ?_
      refine wf_iv1 (M' := mt_Rdr_item) (c := 4) dc_Rdr_items_67 tg_Rdr_item ml_Rdr_129 im_Rdr_item se_Rdr_item ⟨_, rfl, rfl⟩ (by assumption) (Nat.le_of_ble_eq_true rfl) (Nat.le_refl _) (Nat.le_refl _) (c_Rdr_item hA' hI1 hS hT) qVl_nt (qVl_go (fun i2 g2 hp => ?_))
      obtain ⟨hp, hf4, hf5⟩ := hp
      revert hp hR
      cases ps_item S p1 m with
      | inl e =>
        rintro hR ⟨m', hI4⟩
        refine wf_iinc _ dc_Rdr_items_70 rfl (nI_1 j) (by decide) ?_
        refine wf_goto 42 dc_Rdr_items_73 (by decide) ?_
        exact Wf.to (by exact ⟨rfl, rfl, rfl, rfl, trivial⟩) (flt _ _ e m' _ _ R hR hI4 (fr_ss hf1 hf4) (fr_ss hg1 hf5))
      | inr q =>
        intro hR hI4
        refine wf_iinc _ dc_Rdr_items_70 rfl (nI_1 j) (by decide) ?_
        refine wf_goto 42 dc_Rdr_items_73 (by decide) ?_
        exact Wf.to (by exact ⟨rfl, rfl, rfl, rfl, trivial⟩) (ih (j + 1) _ _ q.1 q.2 o R (by omega) hR hI4 (fr_ss hf1 hf4) (fr_ss hg1 hf5))
  have first : ∀ (i1 : Wi) (p1 : Nat) (o : Bool), (o = true ↔ nx_of S p = 94) → p1 = (if nx_of S p = 94 then p + 1 else p) → rd_is i1 g a V S p1 none N (A ++ [ps_no]) → fr_is (rd_fp a V) i i1 → Wf l E n0 mt_Rdr_items (d + 2) 0 0 (rd_q nx t r i g a V (fun z i' g' => rd_R i' g' a V S (match ps_set S p with
    | .inl e => .inl e
    | .inr (p', m) => ps_one p' N A m) z)) 0 0 34 [(0, .ref a), (1, .long T), (3, .int (if o = true then 1 else 0))] [] nx t r i1 g := by
    intro i1 p1 o ho hp1 hI1 hf1
    refine wf_aload_n dc_Rdr_items_34 rfl ?_
    refine wf_lload_n dc_Rdr_items_35 rfl ?_
    refine wf_iv1 (M' := mt_Rdr_item) (c := 4) dc_Rdr_items_36 tg_Rdr_item ml_Rdr_129 im_Rdr_item se_Rdr_item ⟨_, rfl, rfl⟩ (by assumption) (Nat.le_of_ble_eq_true rfl) (Nat.le_refl _) (Nat.le_refl _) (c_Rdr_item hA' hI1 hS hT) qVl_nt (qVl_go (fun i2 g2 hp => ?_))
    obtain ⟨hp, hf4, hf5⟩ := hp
    unfold ps_set
    rw [← hp1]
    revert hp
    cases ps_item S p1 ps_no with
    | inl e =>
      rintro ⟨m', hI4⟩
      refine wf_iconst 0 dc_Rdr_items_39 (by decide) ?_
      refine wf_istore dc_Rdr_items_40 (by decide) ?_
      exact Wf.to (by exact ⟨rfl, rfl, rfl, rfl, trivial⟩) (flt _ _ e m' _ _ _ rfl hI4 (fr_ss hf1 hf4) hf5)
    | inr q =>
      intro hI4
      refine wf_iconst 0 dc_Rdr_items_39 (by decide) ?_
      refine wf_istore dc_Rdr_items_40 (by decide) ?_
      refine Wf.to (by exact ⟨rfl, rfl, rfl, rfl, trivial⟩) (loop 60 0 _ _ q.1 q.2 o _ rfl ?_ hI4 (fr_ss hf1 hf4) hf5)
      simp only
      cases ps_items S 60 q.1 q.2 with
      | inl e => rfl
      | inr u =>
        simp only
        by_cases h : nx_of S u.1 = 93
        · rw [if_pos h, if_pos h]
          simp only
          by_cases h2 : nx_of S p = 94
          · rw [if_pos h2, if_pos (ho.mpr h2)]
          · rw [if_neg h2, if_neg (fun q => h2 (ho.mp q))]
        · rw [if_neg h, if_neg h]
  refine wf_lstore_n dc_Rdr_items_4 (by decide) ?_
  refine wf_aload_n dc_Rdr_items_5 rfl ?_
  refine wf_iv0 (M' := mt_Rdr_next) (c := 4) dc_Rdr_items_6 tg_Rdr_next ml_Rdr_83 im_Rdr_next se_Rdr_next ⟨_, rfl, rfl⟩ (by assumption) (Nat.le_of_ble_eq_true rfl) (Nat.le_refl _) (Nat.le_refl _) (c_Rdr_next hA' hI2) qI_nt (qI_go (fun x2 i2 hp => ?_))
  obtain ⟨rfl, rfl⟩ := hp
  refine wf_bipush 94 dc_Rdr_items_9 (by decide) ?_
  refine wf_icmp_ne 18 dc_Rdr_items_11 (by decide) (fun hc => ?_) (fun hc => ?_)
  · refine wf_iconst 0 dc_Rdr_items_18 (by decide) ?_
    refine wf_istore_n dc_Rdr_items_19 (by decide) ?_
    refine wf_iload_n dc_Rdr_items_20 rfl ?_
    refine wf_if_eq 34 dc_Rdr_items_21 (by decide) (fun _ => ?_) (fun hc => absurd rfl hc)
    exact Wf.to (by exact ⟨rfl, rfl, rfl, trivial⟩) (first _ p false ⟨fun q => (by cases q), fun q => absurd q hc⟩ (by rw [if_neg hc]) hI2 hf2)
  · refine wf_iconst 1 dc_Rdr_items_14 (by decide) ?_
    refine wf_goto 19 dc_Rdr_items_15 (by decide) ?_
    refine wf_istore_n dc_Rdr_items_19 (by decide) ?_
    refine wf_iload_n dc_Rdr_items_20 rfl ?_
    refine wf_if_eq 34 dc_Rdr_items_21 (by decide) (fun hc => absurd hc (by decide)) (fun _ => ?_)
    have h9 := hI2.2.2.1.1
    refine wf_aload_n dc_Rdr_items_24 rfl ?_
    refine wf_dup dc_Rdr_items_25 rfl ?_
    refine wf_geti dc_Rdr_items_26 fl_Rdr_48 rfl (by assumption) ?_
    refine wf_iconst 1 dc_Rdr_items_29 (by decide) ?_
    refine wf_iadd dc_Rdr_items_30 ?_
    rw [h9, nI_1]
    refine wf_puti dc_Rdr_items_31 fl_Rdr_48 (Or.inl nf_Rdr_9) rfl rfl rfl (by assumption) ?_
    obtain ⟨hI3, hf3⟩ := rd_up9 hA' hI2 (nx_lt2 hc (by decide))
    exact Wf.to (by exact ⟨rfl, rfl, rfl, trivial⟩) (first _ (p + 1) true ⟨fun _ => hc, fun _ => rfl⟩ (by rw [if_pos hc]) hI3 (fr_ss hf2 hf3))
end
