/-! class Reader: one atom's signs -/
section
variable {l : Launch} {E : We} {n0 d nx : Nat} {t : Wt} {r : Wr} {i : Wi} {g : Wl}
theorem nx_nI {S : List Int32} (hS : sg_ok S) (p : Nat) : nx_of S p = nI (nxN S p) ∧ nxN S p < 256 := by
  unfold nxN
  by_cases h : p < S.length
  · obtain ⟨j, h1, h2⟩ := vp_in_of (hS p h) (by omega)
    have h3 : nx_of S p = nI j := h2
    rw [h3, nI_clamp (by omega)]
    exact ⟨rfl, h1⟩
  · rw [nx_end (by omega)]
    exact ⟨by decide, by decide⟩
/-- what a reading method's result is -/
def rd_R (i' : Wi) (g' : Wl) (a : Nat) (V : Nat → Nat) (S : List Int32) (R : RdR) (z : Int32) : Prop := match R with
  | .inl e => ∃ w N' A', z = nI w ∧ rd_is i' g' a V S S.length (some e) N' A'
  | .inr (w, p', N', A') => z = nI w ∧ rd_is i' g' a V S p' none N' A'
theorem k_node {a n p k x y : Nat} {V : Nat → Nat} {S : List Int32} {N : RdN} {A : RdA} (hA : rd_at t r a V n) (hI : rd_is i g a V S p none N A) (hl : N.length < 121) : Ct l E n0 mt_Rdr_node (d + 1) 0 0 [.ref a, .int (nI k), .int (nI x), .int (nI y)] nx t r i g (rd_q nx t r i g a V (fun z i' g' => z = nI N.length ∧ rd_is i' g' a V S p none (N ++ [(k, x, y)]) A)) := by
  refine (c_Rdr_node hA hI).mono ?_
  rintro v nx' t' r' i' g' ⟨z, h1, h2, h3, h4, ⟨h5, -⟩, h6⟩
  exact ⟨z, h1, h2, h3, h4, h5 hl, h6⟩
theorem k_nodeF {a n k x y e : Nat} {V : Nat → Nat} {S : List Int32} {N : RdN} {A : RdA} (hA : rd_at t r a V n) (hI : rd_is i g a V S S.length (some e) N A) : Ct l E n0 mt_Rdr_node (d + 1) 0 0 [.ref a, .int (nI k), .int (nI x), .int (nI y)] nx t r i g (rd_q nx t r i g a V (fun z i' g' => rd_R i' g' a V S (.inl e) z)) := by
  refine (c_Rdr_node hA hI).mono ?_
  rintro v nx' t' r' i' g' ⟨z, h1, h2, h3, h4, ⟨h5, h5'⟩, h6⟩
  by_cases hl : N.length < 121
  · obtain ⟨q1, q2⟩ := h5 hl
    exact ⟨z, h1, h2, h3, h4, ⟨_, _, _, q1, q2⟩, h6⟩
  · obtain ⟨q1, q2⟩ := h5' hl
    exact ⟨z, h1, h2, h3, h4, ⟨0, _, _, q1, q2⟩, h6⟩
theorem c_Rdr_one {a n p c : Nat} {V : Nat → Nat} {S : List Int32} {fa : Option Nat} {N : RdN} {A : RdA} (hA : rd_at t r a V n) (hI : rd_is i g a V S p fa N A) (hAp : A.length < p) (hc : c < 256) : Ct l E n0 mt_Rdr_one (d + 2) 0 0 [.ref a, .int (nI c)] nx t r i g (rd_q nx t r i g a V (fun z i' g' => (N.length < 121 → z = nI N.length ∧ rd_is i' g' a V S p fa (N ++ [(3, A.length, 0)]) (A ++ [ps_rg ps_no c c])) ∧ (¬ N.length < 121 → z = 0 ∧ rd_is i' g' a V S S.length (fa_or fa p) N (A ++ [ps_rg ps_no c c])))) := by
  have hA' := hA
  obtain ⟨ha, -, r7, -, -, -, -, -, ⟨e1, -⟩, -⟩ := hA
  refine Ct.of (by decide) (Nat.le_of_ble_eq_true rfl) ?_
  refine wf_aload_n dc_Rdr_one_0 rfl ?_
  refine wf_iv0 (M' := mt_Rdr_newAtom) (c := 4) dc_Rdr_one_1 tg_Rdr_newAtom ml_Rdr_118 im_Rdr_newAtom se_Rdr_newAtom ⟨_, rfl, rfl⟩ (by assumption) (Nat.le_of_ble_eq_true rfl) (Nat.le_refl _) (Nat.le_refl _) (c_Rdr_newAtom hA' hI hAp) qL_nt (qL_go (fun x2 i2 hp => ?_))
  obtain ⟨hT, hI2, hf2⟩ := hp
  refine wf_lstore_n dc_Rdr_one_4 (by decide) ?_
  refine wf_aload_n dc_Rdr_one_5 rfl ?_
  refine wf_lload_n dc_Rdr_one_6 rfl ?_
  refine wf_iload_n dc_Rdr_one_7 rfl ?_
  refine wf_iload_n dc_Rdr_one_8 rfl ?_
  refine wf_iv3 (M' := mt_Rdr_take) (c := 4) dc_Rdr_one_9 tg_Rdr_take ml_Rdr_122 im_Rdr_take se_Rdr_take ⟨_, rfl, rfl⟩ (by assumption) (Nat.le_of_ble_eq_true rfl) (Nat.le_refl _) (Nat.le_refl _) (c_Rdr_take hA' hc hc) qVl_nt (qVl_go (fun i2 g2 hp => ?_))
  obtain ⟨rfl, hf3, hg⟩ := hp
  have hI3 := rd_tk hI2 hT hg
  have h5 := hI3.2.2.2.2.2.2.1.1
  rw [List.length_append] at h5
  refine wf_aload_n dc_Rdr_one_12 rfl ?_
  refine wf_iconst 3 dc_Rdr_one_13 (by decide) ?_
  refine wf_aload_n dc_Rdr_one_14 rfl ?_
  refine wf_getr dc_Rdr_one_15 fl_Rdr_35 rfl (by assumption) (by assumption) ?_
  refine wf_geti dc_Rdr_one_18 fl_Rdr_126 rfl (by assumption) ?_
  rw [h5]
  refine wf_iconst 1 dc_Rdr_one_21 (by decide) ?_
  refine wf_isub dc_Rdr_one_22 ?_
  rw [show nI (A.length + [ps_rg ps_no c c].length) - 1 = nI A.length from nI_pred _]
  refine wf_iconst 0 dc_Rdr_one_23 (by decide) ?_
  refine wf_iv3 (M' := mt_Rdr_node) (c := 4) dc_Rdr_one_24 tg_Rdr_node ml_Rdr_86 im_Rdr_node se_Rdr_node ⟨_, rfl, rfl⟩ (by assumption) (Nat.le_of_ble_eq_true rfl) (Nat.le_refl _) (Nat.le_refl _) (c_Rdr_node (k := 3) (x := A.length) (y := 0) hA' hI3) qIl_nt (qIl_go (fun x2 i2 g2 hp => ?_))
  obtain ⟨hp, hf4, hf5⟩ := hp
  exact wf_ireturn rfl dc_Rdr_one_27 ⟨_, rfl, rfl, rfl, rfl, hp, fr_ss hf2 hf4, fr_ss hf3 hf5⟩
theorem c_Rdr_anySign {a n p : Nat} {V : Nat → Nat} {S : List Int32} {N : RdN} {A : RdA} (hA : rd_at t r a V n) (hI : rd_is i g a V S p none N A) (hAp : A.length < p) (hl : N.length < 121) : Ct l E n0 mt_Rdr_anySign (d + 2) 0 0 [.ref a] nx t r i g (rd_q nx t r i g a V (fun z i' g' => rd_R i' g' a V S (ps_one p N A (ps_rg ps_no 1 255)) z)) := by
  have hA' := hA
  obtain ⟨ha, -, r7, -, -, -, -, -, ⟨e1, -⟩, -⟩ := hA
  refine Ct.of (by decide) (Nat.le_of_ble_eq_true rfl) ?_
  refine wf_aload_n dc_Rdr_anySign_0 rfl ?_
  refine wf_iv0 (M' := mt_Rdr_newAtom) (c := 4) dc_Rdr_anySign_1 tg_Rdr_newAtom ml_Rdr_118 im_Rdr_newAtom se_Rdr_newAtom ⟨_, rfl, rfl⟩ (by assumption) (Nat.le_of_ble_eq_true rfl) (Nat.le_refl _) (Nat.le_refl _) (c_Rdr_newAtom hA' hI hAp) qL_nt (qL_go (fun x2 i2 hp => ?_))
  obtain ⟨hT, hI2, hf2⟩ := hp
  refine wf_lstore_n dc_Rdr_anySign_4 (by decide) ?_
  refine wf_aload_n dc_Rdr_anySign_5 rfl ?_
  refine wf_lload_n dc_Rdr_anySign_6 rfl ?_
  refine wf_iconst 1 dc_Rdr_anySign_7 (by decide) ?_
  refine wf_sipush 255 dc_Rdr_anySign_8 (by decide) ?_
  refine wf_iv3 (M' := mt_Rdr_take) (c := 4) dc_Rdr_anySign_11 tg_Rdr_take ml_Rdr_122 im_Rdr_take se_Rdr_take ⟨_, rfl, rfl⟩ (by assumption) (Nat.le_of_ble_eq_true rfl) (Nat.le_refl _) (Nat.le_refl _) (c_Rdr_take (lo := 1) (hi := 255) hA' (by omega) (by omega)) qVl_nt (qVl_go (fun i2 g2 hp => ?_))
  obtain ⟨rfl, hf3, hg⟩ := hp
  have hI3 := rd_tk hI2 hT hg
  have h5 := hI3.2.2.2.2.2.2.1.1
  rw [List.length_append] at h5
  refine wf_aload_n dc_Rdr_anySign_14 rfl ?_
  refine wf_iconst 3 dc_Rdr_anySign_15 (by decide) ?_
  refine wf_aload_n dc_Rdr_anySign_16 rfl ?_
  refine wf_getr dc_Rdr_anySign_17 fl_Rdr_35 rfl (by assumption) (by assumption) ?_
  refine wf_geti dc_Rdr_anySign_20 fl_Rdr_126 rfl (by assumption) ?_
  rw [h5]
  refine wf_iconst 1 dc_Rdr_anySign_23 (by decide) ?_
  refine wf_isub dc_Rdr_anySign_24 ?_
  rw [show nI (A.length + [ps_rg ps_no 1 255].length) - 1 = nI A.length from nI_pred _]
  refine wf_iconst 0 dc_Rdr_anySign_25 (by decide) ?_
  refine wf_iv3 (M' := mt_Rdr_node) (c := 4) dc_Rdr_anySign_26 tg_Rdr_node ml_Rdr_86 im_Rdr_node se_Rdr_node ⟨_, rfl, rfl⟩ (by assumption) (Nat.le_of_ble_eq_true rfl) (Nat.le_refl _) (Nat.le_refl _) (k_node (k := 3) (x := A.length) (y := 0) hA' hI3 hl) qIl_nt (qIl_go (fun x2 i2 g2 hp => ?_))
  obtain ⟨hp, hf4, hf5⟩ := hp
  exact wf_ireturn rfl dc_Rdr_anySign_29 ⟨_, rfl, rfl, rfl, rfl, hp, fr_ss hf2 hf4, fr_ss hf3 hf5⟩
theorem c_Rdr_escaped {a n p : Nat} {V : Nat → Nat} {S : List Int32} {N : RdN} {A : RdA} (hA : rd_at t r a V n) (hI : rd_is i g a V S p none N A) : Ct l E n0 mt_Rdr_escaped (d + 1) 0 0 [.ref a] nx t r i g (rd_q nx t r i g a V (fun z i' g' => z = nx_of S p ∧ (nx_of S p = 0 → rd_is i' g' a V S S.length (some p) N A) ∧ (¬ nx_of S p = 0 → rd_is i' g' a V S (p + 1) none N A))) := by
  have hA' := hA
  obtain ⟨ha, -, r7, -, -, -, -, -, ⟨e1, -⟩, -⟩ := hA
  refine Ct.of (by decide) (Nat.le_of_ble_eq_true rfl) ?_
  refine wf_aload_n dc_Rdr_escaped_0 rfl ?_
  refine wf_iv0 (M' := mt_Rdr_next) (c := 4) dc_Rdr_escaped_1 tg_Rdr_next ml_Rdr_83 im_Rdr_next se_Rdr_next ⟨_, rfl, rfl⟩ (by assumption) (Nat.le_of_ble_eq_true rfl) (Nat.le_refl _) (Nat.le_refl _) (c_Rdr_next hA' hI) qI_nt (qI_go (fun x2 i2 hp => ?_))
  obtain ⟨rfl, rfl⟩ := hp
  refine wf_istore_n dc_Rdr_escaped_4 (by decide) ?_
  refine wf_iload_n dc_Rdr_escaped_5 rfl ?_
  refine wf_if_ne 17 dc_Rdr_escaped_6 (by decide) (fun hc => ?_) (fun hc => ?_)
  · have h9 := hI.2.2.1.1
    refine wf_aload_n dc_Rdr_escaped_17 rfl ?_
    refine wf_dup dc_Rdr_escaped_18 rfl ?_
    refine wf_geti dc_Rdr_escaped_19 fl_Rdr_48 rfl (by assumption) ?_
    refine wf_iconst 1 dc_Rdr_escaped_22 (by decide) ?_
    refine wf_iadd dc_Rdr_escaped_23 ?_
    rw [h9, nI_1]
    refine wf_puti dc_Rdr_escaped_24 fl_Rdr_48 (Or.inl nf_Rdr_9) rfl rfl rfl (by assumption) ?_
    refine wf_iload_n dc_Rdr_escaped_27 rfl ?_
    obtain ⟨hI2, hf⟩ := rd_up9 hA' hI (nx_lt hc)
    exact wf_ireturn rfl dc_Rdr_escaped_28 ⟨_, rfl, rfl, rfl, rfl, ⟨rfl, fun z => absurd z hc, fun _ => hI2⟩, hf, fr_rf⟩
  · refine wf_aload_n dc_Rdr_escaped_9 rfl ?_
    refine wf_iv0 (M' := mt_Rdr_refuse) (c := 4) dc_Rdr_escaped_10 tg_Rdr_refuse ml_Rdr_68 im_Rdr_refuse se_Rdr_refuse ⟨_, rfl, rfl⟩ (by assumption) (Nat.le_of_ble_eq_true rfl) (Nat.le_refl _) (Nat.le_refl _) (c_Rdr_refuse hA' hI) qIl_nt (qIl_go (fun x2 i2 g2 hp => ?_))
    refine wf_pop dc_Rdr_escaped_13 rfl ?_
    refine wf_goto 27 dc_Rdr_escaped_14 (by decide) ?_
    refine wf_iload_n dc_Rdr_escaped_27 rfl ?_
    obtain ⟨⟨rfl, hI2⟩, hf1, hf2⟩ := hp
    exact wf_ireturn rfl dc_Rdr_escaped_28 ⟨_, rfl, rfl, rfl, rfl, ⟨rfl, fun _ => hI2, fun z => absurd hc z⟩, hf1, hf2⟩
/-- what an item leaves -/
def rd_I (i' : Wi) (g' : Wl) (a : Nat) (V : Nat → Nat) (S : List Int32) (N : RdN) (A : RdA) (R : Nat ⊕ (Nat × (Nat → Bool))) : Prop := match R with
  | .inl e => ∃ m', rd_is i' g' a V S S.length (some e) N (A ++ [m'])
  | .inr (p', m') => rd_is i' g' a V S p' none N (A ++ [m'])
theorem c_Rdr_item {a n p : Nat} {V : Nat → Nat} {S : List Int32} {N : RdN} {A : RdA} {m : Nat → Bool} {T : Int64} (hA : rd_at t r a V n) (hI : rd_is i g a V S p none N (A ++ [m])) (hS : sg_ok S) (hT : ∀ j, lb T j = decide (j = A.length)) : Ct l E n0 mt_Rdr_item (d + 1) 0 0 [.ref a, .long T] nx t r i g (qVl nx t r (fun i' g' => rd_I i' g' a V S N A (ps_item S p m) ∧ fr_is (rd_fp a V) i i' ∧ fr_is [V 7] g g')) := by
  have hA' := hA
  obtain ⟨ha, -, r7, -, -, -, -, -, ⟨e1, -⟩, -⟩ := hA
  refine Ct.of (by decide) (Nat.le_of_ble_eq_true rfl) ?_
  obtain ⟨s0, s0'⟩ := nx_nI hS p
  obtain ⟨s2, s2'⟩ := nx_nI hS (p + 2)
  refine wf_aload_n dc_Rdr_item_0 rfl ?_
  refine wf_iv0 (M' := mt_Rdr_next) (c := 4) dc_Rdr_item_1 tg_Rdr_next ml_Rdr_83 im_Rdr_next se_Rdr_next ⟨_, rfl, rfl⟩ (by assumption) (Nat.le_of_ble_eq_true rfl) (Nat.le_refl _) (Nat.le_refl _) (c_Rdr_next hA' hI) qI_nt (qI_go (fun x2 i2 hp => ?_))
  obtain ⟨rfl, hq⟩ := hp
  subst i2
  refine wf_istore_n dc_Rdr_item_4 (by decide) ?_
  refine wf_iload_n dc_Rdr_item_5 rfl ?_
  refine wf_is1 (M' := mt_Rdr_isItemSign) dc_Rdr_item_6 tg_Rdr_isItemSign ml_Rdr_136 sm_Rdr_isItemSign (Nat.le_of_ble_eq_true rfl) (Nat.le_refl _) (Nat.le_refl _) (c_Rdr_isItemSign) qI_nt (qI_go (fun x2 i2 hp => ?_))
  obtain ⟨rfl, hq⟩ := hp
  subst i2
  by_cases h1 : ps_it (nx_of S p) = false
  · rw [if_neg (by rw [h1]; decide)]
    refine wf_if_ne 18 dc_Rdr_item_9 (by decide) (fun hc => absurd rfl hc) (fun _ => ?_)
    refine wf_aload_n dc_Rdr_item_12 rfl ?_
    refine wf_iv0 (M' := mt_Rdr_refuse) (c := 4) dc_Rdr_item_13 tg_Rdr_refuse ml_Rdr_68 im_Rdr_refuse se_Rdr_refuse ⟨_, rfl, rfl⟩ (by assumption) (Nat.le_of_ble_eq_true rfl) (Nat.le_refl _) (Nat.le_refl _) (c_Rdr_refuse hA' hI) qIl_nt (qIl_go (fun x2 i2 g2 hp => ?_))
    refine wf_pop dc_Rdr_item_16 rfl ?_
    obtain ⟨⟨rfl, hI2⟩, hf1, hf2⟩ := hp
    exact wf_return rfl dc_Rdr_item_17 ⟨rfl, rfl, rfl, rfl, by rw [ps_item, if_pos h1]; exact ⟨_, hI2⟩, hf1, hf2⟩
  have l1 := ps_it_lt h1
  rw [if_pos (by revert h1; cases ps_it (nx_of S p) <;> simp)]
  refine wf_if_ne 18 dc_Rdr_item_9 (by decide) (fun _ => ?_) (fun hc => absurd hc (by decide))
  have h9 := hI.2.2.1.1
  refine wf_aload_n dc_Rdr_item_18 rfl ?_
  refine wf_dup dc_Rdr_item_19 rfl ?_
  refine wf_geti dc_Rdr_item_20 fl_Rdr_48 rfl (by assumption) ?_
  refine wf_iconst 1 dc_Rdr_item_23 (by decide) ?_
  refine wf_iadd dc_Rdr_item_24 ?_
  rw [h9, nI_1]
  refine wf_puti dc_Rdr_item_25 fl_Rdr_48 (Or.inl nf_Rdr_9) rfl rfl rfl (by assumption) ?_
  refine wf_iload_n dc_Rdr_item_28 rfl ?_
  refine wf_istore dc_Rdr_item_29 (by decide) ?_
  obtain ⟨hI2, hf2⟩ := rd_up9 hA' hI l1
  have tk : ∀ (p' hi : Nat) (i1 : Wi), hi < 256 → rd_is i1 g a V S p' none N (A ++ [m]) → fr_is (rd_fp a V) i i1 → ps_item S p m = .inr (p', ps_rg m (nxN S p) hi) → Wf l E n0 mt_Rdr_item (d + 1) 0 0 (qVl nx t r (fun i' g' => rd_I i' g' a V S N A (ps_item S p m) ∧ fr_is (rd_fp a V) i i' ∧ fr_is [V 7] g g')) 0 0 86 [(0, .ref a), (1, .long T), (3, .int (nI (nxN S p))), (4, .int (nI hi))] [] nx t r i1 g := by
    intro p' hi i1 hhi hi1 hf he
    refine wf_aload_n dc_Rdr_item_86 rfl ?_
    refine wf_lload_n dc_Rdr_item_87 rfl ?_
    refine wf_iload_n dc_Rdr_item_88 rfl ?_
    refine wf_iload dc_Rdr_item_89 rfl ?_
    refine wf_iv3 (M' := mt_Rdr_take) (c := 4) dc_Rdr_item_91 tg_Rdr_take ml_Rdr_122 im_Rdr_take se_Rdr_take ⟨_, rfl, rfl⟩ (by assumption) (Nat.le_of_ble_eq_true rfl) (Nat.le_refl _) (Nat.le_refl _) (c_Rdr_take hA' s0' hhi) qVl_nt (qVl_go (fun i2 g2 hp => ?_))
    obtain ⟨rfl, hf3, hg⟩ := hp
    exact wf_return rfl dc_Rdr_item_94 ⟨rfl, rfl, rfl, rfl, by rw [he]; exact rd_tk hi1 hT hg, hf, hf3⟩
  refine wf_aload_n dc_Rdr_item_31 rfl ?_
  refine wf_iv0 (M' := mt_Rdr_next) (c := 4) dc_Rdr_item_32 tg_Rdr_next ml_Rdr_83 im_Rdr_next se_Rdr_next ⟨_, rfl, rfl⟩ (by assumption) (Nat.le_of_ble_eq_true rfl) (Nat.le_refl _) (Nat.le_refl _) (c_Rdr_next hA' hI2) qI_nt (qI_go (fun x2 i2 hp => ?_))
  refine wf_bipush 45 dc_Rdr_item_35 (by decide) ?_
  obtain ⟨rfl, rfl⟩ := hp
  refine wf_icmp_ne 86 dc_Rdr_item_37 (by decide) (fun h2 => ?_) (fun h2 => ?_)
  · refine Wf.to (by exact ⟨rfl, rfl, congrArg (fun x => some (Value.int x)) s0, congrArg (fun x => some (Value.int x)) s0, trivial⟩) (tk (p + 1) (nxN S p) _ s0' hI2 hf2 ?_)
    rw [ps_item, if_neg h1, if_neg h2]
  · have h9 := hI2.2.2.1.1
    have l2 := nx_lt2 h2 (by decide)
    refine wf_aload_n dc_Rdr_item_40 rfl ?_
    refine wf_dup dc_Rdr_item_41 rfl ?_
    refine wf_geti dc_Rdr_item_42 fl_Rdr_48 rfl (by assumption) ?_
    refine wf_iconst 1 dc_Rdr_item_45 (by decide) ?_
    refine wf_iadd dc_Rdr_item_46 ?_
    rw [h9, nI_1]
    refine wf_puti dc_Rdr_item_47 fl_Rdr_48 (Or.inl nf_Rdr_9) rfl rfl rfl (by assumption) ?_
    obtain ⟨hI3, hf3⟩ := rd_up9 hA' hI2 l2
    have hff := fr_ss hf2 hf3
    refine wf_aload_n dc_Rdr_item_50 rfl ?_
    refine wf_iv0 (M' := mt_Rdr_next) (c := 4) dc_Rdr_item_51 tg_Rdr_next ml_Rdr_83 im_Rdr_next se_Rdr_next ⟨_, rfl, rfl⟩ (by assumption) (Nat.le_of_ble_eq_true rfl) (Nat.le_refl _) (Nat.le_refl _) (c_Rdr_next hA' hI3) qI_nt (qI_go (fun x2 i2 hp => ?_))
    obtain ⟨rfl, rfl⟩ := hp
    refine wf_istore dc_Rdr_item_54 (by decide) ?_
    refine wf_iload dc_Rdr_item_56 rfl ?_
    refine wf_is1 (M' := mt_Rdr_isItemSign) dc_Rdr_item_58 tg_Rdr_isItemSign ml_Rdr_136 sm_Rdr_isItemSign (Nat.le_of_ble_eq_true rfl) (Nat.le_refl _) (Nat.le_refl _) (c_Rdr_isItemSign) qI_nt (qI_go (fun x2 i2 hp => ?_))
    obtain ⟨rfl, rfl⟩ := hp
    have bad : (ps_it (nx_of S (p + 2)) = false ∨ nx_of S (p + 2) < nx_of S p) → Wf l E n0 mt_Rdr_item (d + 1) 0 0 (qVl nx t r (fun i' g' => rd_I i' g' a V S N A (ps_item S p m) ∧ fr_is (rd_fp a V) i i' ∧ fr_is [V 7] g g')) 0 0 70 [(0, .ref a), (1, .long T), (3, .int (nx_of S p)), (4, .int (nx_of S (p + 2)))] [] nx t r (wf_up (wf_up i a 9 (nI (p + 1))) a 9 (nI (p + 1 + 1))) g := by
      intro hb
      refine wf_aload_n dc_Rdr_item_70 rfl ?_
      refine wf_iv0 (M' := mt_Rdr_refuse) (c := 4) dc_Rdr_item_71 tg_Rdr_refuse ml_Rdr_68 im_Rdr_refuse se_Rdr_refuse ⟨_, rfl, rfl⟩ (by assumption) (Nat.le_of_ble_eq_true rfl) (Nat.le_refl _) (Nat.le_refl _) (c_Rdr_refuse hA' hI3) qIl_nt (qIl_go (fun x2 i2 g2 hp => ?_))
      refine wf_pop dc_Rdr_item_74 rfl ?_
      obtain ⟨⟨rfl, hI4⟩, hf4, hf5⟩ := hp
      exact wf_return rfl dc_Rdr_item_75 ⟨rfl, rfl, rfl, rfl, by rw [ps_item, if_neg h1, if_pos h2, if_pos hb]; exact ⟨_, hI4⟩, fr_ss hff hf4, hf5⟩
    by_cases h3 : ps_it (nx_of S (p + 2)) = false
    · rw [show nx_of S (p + 1 + 1) = nx_of S (p + 2) from rfl, if_neg (by rw [h3]; decide)]
      refine wf_if_eq 70 dc_Rdr_item_61 (by decide) (fun _ => ?_) (fun hc => absurd rfl hc)
      exact Wf.to (by exact ⟨rfl, rfl, rfl, rfl, trivial⟩) (bad (.inl h3))
    · rw [show nx_of S (p + 1 + 1) = nx_of S (p + 2) from rfl, if_pos (by revert h3; cases ps_it (nx_of S (p + 2)) <;> simp)]
      refine wf_if_eq 70 dc_Rdr_item_61 (by decide) (fun hc => absurd hc (by decide)) (fun _ => ?_)
      refine wf_iload dc_Rdr_item_64 rfl ?_
      refine wf_iload_n dc_Rdr_item_66 rfl ?_
      refine wf_icmp_ge 76 dc_Rdr_item_67 (by decide) (fun h4 => ?_) (fun h4 => ?_)
      · have h9 := hI3.2.2.1.1
        have l3 := ps_it_lt h3
        refine wf_aload_n dc_Rdr_item_76 rfl ?_
        refine wf_dup dc_Rdr_item_77 rfl ?_
        refine wf_geti dc_Rdr_item_78 fl_Rdr_48 rfl (by assumption) ?_
        refine wf_iconst 1 dc_Rdr_item_81 (by decide) ?_
        refine wf_iadd dc_Rdr_item_82 ?_
        rw [h9, nI_1]
        refine wf_puti dc_Rdr_item_83 fl_Rdr_48 (Or.inl nf_Rdr_9) rfl rfl rfl (by assumption) ?_
        obtain ⟨hI4, hf4⟩ := rd_up9 hA' hI3 l3
        refine Wf.to (by exact ⟨rfl, rfl, congrArg (fun x => some (Value.int x)) s0, congrArg (fun x => some (Value.int x)) s2, trivial⟩) (tk (p + 3) (nxN S (p + 2)) _ s2' hI4 (fr_ss hff hf4) ?_)
        rw [ps_item, if_neg h1, if_pos h2, if_neg (fun q => q.elim h3 (Int32.not_lt.mpr h4))]
      · exact Wf.to (by exact ⟨rfl, rfl, rfl, rfl, trivial⟩) (bad (.inr (Int32.not_le.mp h4)))
end
