/-! class Reader: signs, atoms -/
section
variable {l : Launch} {E : We} {n0 d nx : Nat} {t : Wt} {r : Wr} {i : Wi} {g : Wl}
theorem c_Rdr_isRepeat {x : Int32} : Ct l E n0 mt_Rdr_isRepeat d 0 0 [.int x] nx t r i g (qI nx t r g (fun z i' => z = (if ps_rp x = true then 1 else 0) ∧ i' = i)) := by
  refine Ct.of (by decide) (Nat.le_of_ble_eq_true rfl) ?_
  have yes : ps_rp x = true → Wf l E n0 mt_Rdr_isRepeat d 0 0 (qI nx t r g (fun z i' => z = (if ps_rp x = true then 1 else 0) ∧ i' = i)) 0 0 18 [(0, .int x)] [] nx t r i g := fun h => by
    refine wf_iconst 1 dc_Rdr_isRepeat_18 (by decide) ?_
    refine wf_goto 23 dc_Rdr_isRepeat_19 (by decide) ?_
    exact wf_zreturn rfl rfl dc_Rdr_isRepeat_23 ⟨1, rfl, rfl, rfl, rfl, rfl, by rw [if_pos h], rfl⟩
  refine wf_iload_n dc_Rdr_isRepeat_0 rfl ?_
  refine wf_bipush 42 dc_Rdr_isRepeat_1 (by decide) ?_
  refine wf_icmp_eq 18 dc_Rdr_isRepeat_3 (by decide) (fun h1 => ?_) (fun h1 => ?_)
  · exact Wf.to (by exact ⟨rfl, trivial⟩) (yes (by rw [h1]; rfl))
  refine wf_iload_n dc_Rdr_isRepeat_6 rfl ?_
  refine wf_bipush 43 dc_Rdr_isRepeat_7 (by decide) ?_
  refine wf_icmp_eq 18 dc_Rdr_isRepeat_9 (by decide) (fun h2 => ?_) (fun h2 => ?_)
  · exact Wf.to (by exact ⟨rfl, trivial⟩) (yes (by rw [h2]; rfl))
  refine wf_iload_n dc_Rdr_isRepeat_12 rfl ?_
  refine wf_bipush 63 dc_Rdr_isRepeat_13 (by decide) ?_
  refine wf_icmp_ne 22 dc_Rdr_isRepeat_15 (by decide) (fun h3 => ?_) (fun h3 => ?_)
  · refine wf_iconst 0 dc_Rdr_isRepeat_22 (by decide) ?_
    exact wf_zreturn rfl rfl dc_Rdr_isRepeat_23 ⟨0, rfl, rfl, rfl, rfl, rfl, by rw [if_neg (by simp [ps_rp, h1, h2, h3])], rfl⟩
  · exact Wf.to (by exact ⟨rfl, trivial⟩) (yes (by rw [h3]; rfl))
theorem c_Rdr_repeatKind {x : Int32} : Ct l E n0 mt_Rdr_repeatKind d 0 0 [.int x] nx t r i g (qI nx t r g (fun z i' => z = nI (ps_kd x) ∧ i' = i)) := by
  refine Ct.of (by decide) (Nat.le_of_ble_eq_true rfl) ?_
  refine wf_iload_n dc_Rdr_repeatKind_0 rfl ?_
  refine wf_bipush 42 dc_Rdr_repeatKind_1 (by decide) ?_
  refine wf_icmp_ne 11 dc_Rdr_repeatKind_3 (by decide) (fun h1 => ?_) (fun h1 => ?_)
  · refine wf_iload_n dc_Rdr_repeatKind_11 rfl ?_
    refine wf_bipush 43 dc_Rdr_repeatKind_12 (by decide) ?_
    refine wf_icmp_ne 22 dc_Rdr_repeatKind_14 (by decide) (fun h2 => ?_) (fun h2 => ?_)
    · refine wf_bipush 8 dc_Rdr_repeatKind_22 (by decide) ?_
      exact wf_ireturn rfl dc_Rdr_repeatKind_24 ⟨_, rfl, rfl, rfl, rfl, rfl, by rw [ps_kd, if_neg h1, if_neg h2]; rfl, rfl⟩
    · refine wf_bipush 7 dc_Rdr_repeatKind_17 (by decide) ?_
      refine wf_goto 24 dc_Rdr_repeatKind_19 (by decide) ?_
      exact wf_ireturn rfl dc_Rdr_repeatKind_24 ⟨_, rfl, rfl, rfl, rfl, rfl, by rw [ps_kd, if_neg h1, if_pos h2]; rfl, rfl⟩
  · refine wf_bipush 6 dc_Rdr_repeatKind_6 (by decide) ?_
    refine wf_goto 24 dc_Rdr_repeatKind_8 (by decide) ?_
    exact wf_ireturn rfl dc_Rdr_repeatKind_24 ⟨_, rfl, rfl, rfl, rfl, rfl, by rw [ps_kd, if_pos h1]; rfl, rfl⟩
theorem c_Rdr_isItemSign {x : Int32} : Ct l E n0 mt_Rdr_isItemSign d 0 0 [.int x] nx t r i g (qI nx t r g (fun z i' => z = (if ps_it x = true then 1 else 0) ∧ i' = i)) := by
  refine Ct.of (by decide) (Nat.le_of_ble_eq_true rfl) ?_
  have no : ¬ ps_it x = true → Wf l E n0 mt_Rdr_isItemSign d 0 0 (qI nx t r g (fun z i' => z = (if ps_it x = true then 1 else 0) ∧ i' = i)) 0 0 26 [(0, .int x)] [] nx t r i g := fun h => by
    refine wf_iconst 0 dc_Rdr_isItemSign_26 (by decide) ?_
    exact wf_zreturn rfl rfl dc_Rdr_isItemSign_27 ⟨0, rfl, rfl, rfl, rfl, rfl, by rw [if_neg h], rfl⟩
  refine wf_iload_n dc_Rdr_isItemSign_0 rfl ?_
  refine wf_if_eq 26 dc_Rdr_isItemSign_1 (by decide) (fun h0 => ?_) (fun h0 => ?_)
  · exact Wf.to (by exact ⟨rfl, trivial⟩) (no (by rw [h0]; decide))
  refine wf_iload_n dc_Rdr_isItemSign_4 rfl ?_
  refine wf_bipush 93 dc_Rdr_isItemSign_5 (by decide) ?_
  refine wf_icmp_eq 26 dc_Rdr_isItemSign_7 (by decide) (fun h1 => ?_) (fun h1 => ?_)
  · exact Wf.to (by exact ⟨rfl, trivial⟩) (no (by rw [h1]; decide))
  refine wf_iload_n dc_Rdr_isItemSign_10 rfl ?_
  refine wf_bipush 92 dc_Rdr_isItemSign_11 (by decide) ?_
  refine wf_icmp_eq 26 dc_Rdr_isItemSign_13 (by decide) (fun h2 => ?_) (fun h2 => ?_)
  · exact Wf.to (by exact ⟨rfl, trivial⟩) (no (by rw [h2]; decide))
  refine wf_iload_n dc_Rdr_isItemSign_16 rfl ?_
  refine wf_bipush 45 dc_Rdr_isItemSign_17 (by decide) ?_
  refine wf_icmp_eq 26 dc_Rdr_isItemSign_19 (by decide) (fun h3 => ?_) (fun h3 => ?_)
  · exact Wf.to (by exact ⟨rfl, trivial⟩) (no (by rw [h3]; decide))
  refine wf_iconst 1 dc_Rdr_isItemSign_22 (by decide) ?_
  refine wf_goto 27 dc_Rdr_isItemSign_23 (by decide) ?_
  exact wf_zreturn rfl rfl dc_Rdr_isItemSign_27 ⟨1, rfl, rfl, rfl, rfl, rfl, by rw [if_pos (by simp [ps_it, h0, h1, h2, h3])], rfl⟩
theorem lb_shl1 {k : Nat} (hk : k < 64) (j : Nat) : lb ((1 : Int64) <<< ((nI k).toInt64 &&& 63)) j = decide (j = k) := by
  have key : ∀ k : Fin 64, (1 : Int64) <<< ((nI k.val).toInt64 &&& 63) = ⟨⟨BitVec.twoPow 64 k.val⟩⟩ := by decide +kernel
  rw [key ⟨k, hk⟩]
  unfold lb
  show (BitVec.twoPow 64 k).getLsbD j = _
  rw [BitVec.getLsbD_twoPow]
  by_cases h : j = k
  · simp [h, hk]
  · simp [h, Ne.symm h]
/-- place up by one -/
theorem rd_up9 {a n p : Nat} {V : Nat → Nat} {S : List Int32} {fa : Option Nat} {N : RdN} {A : RdA} (hA : rd_at t r a V n) (hI : rd_is i g a V S p fa N A) (hp1 : p < S.length) : rd_is (wf_up i a 9 (nI (p + 1))) g a V S (p + 1) fa N A ∧ fr_is (rd_fp a V) i (wf_up i a 9 (nI (p + 1))) := by
  obtain ⟨n1, n2, n3, n4, n5, n6⟩ := rd_ne hA
  obtain ⟨⟨w1, w2⟩, hS, ⟨h9, hp⟩, ⟨h10, hfa⟩, ⟨h6, h6'⟩, hN, ⟨h5, h5'⟩, hT⟩ := hI
  have hf : fr_is [a] i (wf_up i a 9 (nI (p + 1))) := fr_up fr_rf (by simp)
  refine ⟨⟨⟨(hf _ (by simp [n3]) 1).trans w1, fun j hj => (hf _ (by simp [n5]) j).trans (w2 j hj)⟩, hS, ⟨wf_up_s, hp1⟩, ⟨(wf_up_k (by decide)).trans h10, hfa⟩, ⟨(wf_up_k (by decide)).trans h6, h6'⟩, fun k hk => ?_, ⟨(hf _ (by simp [n2.symm]) 5).trans h5, by omega⟩, hT⟩, fr_mo hf (by simp [rd_fp])⟩
  rw [hf _ (by simp [(n1 0 (by omega)).1.symm]), hf _ (by simp [(n1 1 (by omega)).1.symm]), hf _ (by simp [(n1 2 (by omega)).1.symm])]
  exact hN k hk
theorem rd_a_ap {A0 : RdA} {m : Nat → Bool} {k x : Nat} : (k < (A0 ++ [m]).length ∧ rd_a (A0 ++ [m]) k x = true) ↔ (k < A0.length ∧ rd_a A0 k x = true) ∨ (k = A0.length ∧ m x = true) := by
  have hl : (A0 ++ [m]).length = A0.length + 1 := by rw [List.length_append]; rfl
  rw [hl]
  constructor
  · rintro ⟨h1, h2⟩
    by_cases hk : k = A0.length
    · subst hk
      rw [ra_s] at h2
      exact .inr ⟨rfl, h2⟩
    · rw [ra_l (by omega)] at h2
      exact .inl ⟨by omega, h2⟩
  · rintro (⟨h1, h2⟩ | ⟨rfl, h2⟩)
    · rw [ra_l h1]
      exact ⟨by omega, h2⟩
    · rw [ra_s]
      exact ⟨by omega, h2⟩
theorem c_Rdr_newAtom {a n p : Nat} {V : Nat → Nat} {S : List Int32} {fa : Option Nat} {N : RdN} {A : RdA} (hA : rd_at t r a V n) (hI : rd_is i g a V S p fa N A) (hAp : A.length < p) : Ct l E n0 mt_Rdr_newAtom d 0 0 [.ref a] nx t r i g (qL nx t r g (fun z i' => (∀ j, lb z j = decide (j = A.length)) ∧ rd_is i' g a V S p fa N (A ++ [ps_no]) ∧ fr_is (rd_fp a V) i i')) := by
  obtain ⟨n1, n2, n3, n4, n5, n6⟩ := rd_ne hA
  obtain ⟨ha, -, r7, -, -, -, -, -, ⟨e1, -⟩, -⟩ := hA
  obtain ⟨⟨w1, w2⟩, hS, ⟨h9, hp⟩, ⟨h10, hfa⟩, ⟨h6, h6'⟩, hN, ⟨h5, h5'⟩, hT⟩ := hI
  refine Ct.of (by decide) (Nat.le_of_ble_eq_true rfl) ?_
  refine wf_aload_n dc_Rdr_newAtom_0 rfl ?_
  refine wf_getr dc_Rdr_newAtom_1 fl_Rdr_35 rfl (by assumption) (by assumption) ?_
  refine wf_dup dc_Rdr_newAtom_4 rfl ?_
  refine wf_geti dc_Rdr_newAtom_5 fl_Rdr_126 rfl (by assumption) ?_
  refine wf_iconst 1 dc_Rdr_newAtom_8 (by decide) ?_
  refine wf_iadd dc_Rdr_newAtom_9 ?_
  rw [h5, nI_1]
  refine wf_puti dc_Rdr_newAtom_10 fl_Rdr_126 (Or.inl nf_Exp_5) rfl rfl rfl (by assumption) ?_
  refine wf_lconst 1 dc_Rdr_newAtom_13 (by decide) ?_
  refine wf_aload_n dc_Rdr_newAtom_14 rfl ?_
  refine wf_getr dc_Rdr_newAtom_15 fl_Rdr_35 rfl (by assumption) (by assumption) ?_
  refine wf_geti dc_Rdr_newAtom_18 fl_Rdr_126 rfl (by assumption) ?_
  rw [wf_up_s]
  refine wf_iconst 1 dc_Rdr_newAtom_21 (by decide) ?_
  refine wf_isub dc_Rdr_newAtom_22 ?_
  rw [nI_pred]
  refine wf_lshl dc_Rdr_newAtom_23 ?_
  have hf : fr_is [V 6] i (wf_up i (V 6) 5 (nI (A.length + 1))) := fr_up fr_rf (by simp)
  have hl : (A ++ [ps_no]).length = A.length + 1 := by rw [List.length_append]; rfl
  refine wf_lreturn rfl dc_Rdr_newAtom_24 ⟨_, rfl, rfl, rfl, rfl, rfl, lb_shl1 (by omega), ⟨⟨(hf _ (by simp [n4]) 1).trans w1, fun j hj => (hf _ (by simp [n6]) j).trans (w2 j hj)⟩, hS, ⟨(hf _ (by simp [n2]) 9).trans h9, hp⟩, ⟨(hf _ (by simp [n2]) 10).trans h10, hfa⟩, ⟨(hf _ (by simp [n2]) 6).trans h6, h6'⟩, fun k hk => ?_, ⟨by rw [wf_up_s, hl], by omega⟩, fun x hx k => ?_⟩, fr_mo hf (by simp [rd_fp])⟩
  · rw [hf _ (by simp [(n1 0 (by omega)).2.1.symm]), hf _ (by simp [(n1 1 (by omega)).2.1.symm]), hf _ (by simp [(n1 2 (by omega)).2.1.symm])]
    exact hN k hk
  · rw [hT x hx k, rd_a_ap]
    simp [ps_no]
theorem c_Rdr_take {a n lo hi : Nat} {V : Nat → Nat} {T : Int64} (hA : rd_at t r a V n) (hlo : lo < 256) (hhi : hi < 256) : Ct l E n0 mt_Rdr_take d 0 0 [.ref a, .long T, .int (nI lo), .int (nI hi)] nx t r i g (qVl nx t r (fun i' g' => i' = i ∧ fr_is [V 7] g g' ∧ ∀ x, g' (V 7) x = if lo ≤ x ∧ x ≤ hi then g (V 7) x ||| T else g (V 7) x)) := by
  obtain ⟨ha, -, r7, -, -, -, -, -, ⟨e1, ⟨er, et⟩, -⟩, -⟩ := hA
  refine Ct.of (by decide) (Nat.le_of_ble_eq_true rfl) ?_
  have fin : ∀ (g1 : Wl) (j : Nat), fr_is [V 7] g g1 → (∀ x, g1 (V 7) x = if lo ≤ x ∧ x ≤ hi then g (V 7) x ||| T else g (V 7) x) → Wf l E n0 mt_Rdr_take d 0 0 (qVl nx t r (fun i' g' => i' = i ∧ fr_is [V 7] g g' ∧ ∀ x, g' (V 7) x = if lo ≤ x ∧ x ≤ hi then g (V 7) x ||| T else g (V 7) x)) 0 0 30 [(0, .ref a), (1, .long T), (3, .int (nI lo)), (4, .int (nI hi)), (5, .int (nI j))] [] nx t r i g1 := by
    intro g1 j h1 h2
    exact wf_return rfl dc_Rdr_take_30 ⟨rfl, rfl, rfl, rfl, rfl, h1, h2⟩
  have loop : ∀ (k j : Nat) (g1 : Wl), lo ≤ j → j + k = (if lo ≤ hi then hi + 1 else lo) → fr_is [V 7] g g1 → (∀ x, g1 (V 7) x = if lo ≤ x ∧ x < j then g (V 7) x ||| T else g (V 7) x) → Wf l E n0 mt_Rdr_take d 0 0 (qVl nx t r (fun i' g' => i' = i ∧ fr_is [V 7] g g' ∧ ∀ x, g' (V 7) x = if lo ≤ x ∧ x ≤ hi then g (V 7) x ||| T else g (V 7) x)) 0 0 3 [(0, .ref a), (1, .long T), (3, .int (nI lo)), (4, .int (nI hi)), (5, .int (nI j))] [] nx t r i g1 := by
    intro k
    induction k with
    | zero =>
      intro j g1 hj hk h1 h2
      have hlt : hi < j ∧ j < 512 := by
        split at hk <;> omega
      refine wf_iload dc_Rdr_take_3 rfl ?_
      refine wf_iload dc_Rdr_take_5 rfl ?_
      refine wf_icmp_gt 30 dc_Rdr_take_7 (by decide) (fun hc => ?_) (fun hc => absurd ((nI_ltI (by omega) (by omega)).mpr hlt.1) hc)
      refine Wf.to (by exact ⟨rfl, rfl, rfl, rfl, rfl, trivial⟩) (fin g1 j h1 (fun x => ?_))
      rw [h2 x]
      by_cases hh : lo ≤ hi
      · rw [if_pos hh] at hk
        by_cases hx : lo ≤ x ∧ x < j
        · rw [if_pos hx, if_pos (by omega)]
        · rw [if_neg hx, if_neg (by omega)]
      · rw [if_neg hh] at hk
        rw [if_neg (by omega), if_neg (by omega)]
    | succ k ih =>
      intro j g1 hj hk h1 h2
      have hle : j ≤ hi := by
        split at hk <;> omega
      refine wf_iload dc_Rdr_take_3 rfl ?_
      refine wf_iload dc_Rdr_take_5 rfl ?_
      refine wf_icmp_gt 30 dc_Rdr_take_7 (by decide) (fun hc => absurd ((nI_ltI (by omega) (by omega)).mp hc) (by omega)) (fun hc => ?_)
      refine wf_aload_n dc_Rdr_take_10 rfl ?_
      refine wf_getr dc_Rdr_take_11 fl_Rdr_35 rfl (by assumption) (by assumption) ?_
      refine wf_getr dc_Rdr_take_14 fl_Rdr_142 rfl (by assumption) (by assumption) ?_
      refine wf_iload dc_Rdr_take_17 rfl ?_
      refine wf_dup2 dc_Rdr_take_19 rfl rfl ?_
      refine wf_laload (y := 2) dc_Rdr_take_20 rfl (by assumption) (vp_in_nI (by omega) (by omega)) ?_
      refine wf_lload_n dc_Rdr_take_21 rfl ?_
      refine wf_lor dc_Rdr_take_22 ?_
      refine wf_lastore (y := 2) dc_Rdr_take_23 rfl (by decide) (by assumption) (vp_in_nI (by omega) (by omega)) ?_
      rw [nI_clamp (by omega)]
      refine wf_iinc _ dc_Rdr_take_24 rfl (nI_1 j) (by decide) ?_
      refine wf_goto 3 dc_Rdr_take_27 (by decide) ?_
      refine Wf.to (by exact ⟨rfl, rfl, rfl, rfl, rfl, trivial⟩) (ih (j + 1) _ (by omega) (by omega) (fr_up h1 (by simp)) (fun x => ?_))
      by_cases hx : x = j
      · subst hx
        rw [wf_up_s, h2, if_neg (by omega), if_pos (by omega)]
      · rw [wf_up_k hx, h2]
        by_cases hx2 : lo ≤ x ∧ x < j
        · rw [if_pos hx2, if_pos (by omega)]
        · rw [if_neg hx2, if_neg (by omega)]
  refine wf_iload_n dc_Rdr_take_0 rfl ?_
  refine wf_istore dc_Rdr_take_1 (by decide) ?_
  exact Wf.to (by exact ⟨rfl, rfl, rfl, rfl, rfl, trivial⟩) (loop ((if lo ≤ hi then hi + 1 else lo) - lo) lo g (Nat.le_refl _) (by split <;> omega) fr_rf (fun x => by rw [if_neg (by omega)]))
theorem c_Rdr_takeOthers {a n : Nat} {V : Nat → Nat} {T : Int64} (hA : rd_at t r a V n) : Ct l E n0 mt_Rdr_takeOthers d 0 0 [.ref a, .long T] nx t r i g (qVl nx t r (fun i' g' => i' = i ∧ fr_is [V 7] g g' ∧ ∀ x, g' (V 7) x = if 1 ≤ x ∧ x ≤ 255 then g (V 7) x ^^^ T else g (V 7) x)) := by
  obtain ⟨ha, -, r7, -, -, -, -, -, ⟨e1, ⟨er, et⟩, -⟩, -⟩ := hA
  refine Ct.of (by decide) (Nat.le_of_ble_eq_true rfl) ?_
  have loop : ∀ (k j : Nat) (g1 : Wl), 1 ≤ j → j + k = 256 → fr_is [V 7] g g1 → (∀ x, g1 (V 7) x = if 1 ≤ x ∧ x < j then g (V 7) x ^^^ T else g (V 7) x) → Wf l E n0 mt_Rdr_takeOthers d 0 0 (qVl nx t r (fun i' g' => i' = i ∧ fr_is [V 7] g g' ∧ ∀ x, g' (V 7) x = if 1 ≤ x ∧ x ≤ 255 then g (V 7) x ^^^ T else g (V 7) x)) 0 0 2 [(0, .ref a), (1, .long T), (3, .int (nI j))] [] nx t r i g1 := by
    intro k
    induction k with
    | zero =>
      intro j g1 hj hk h1 h2
      refine wf_iload_n dc_Rdr_takeOthers_2 rfl ?_
      refine wf_sipush 255 dc_Rdr_takeOthers_3 (by decide) ?_
      refine wf_icmp_gt 28 dc_Rdr_takeOthers_6 (by decide) (fun hc => ?_) (fun hc => absurd ((nI_ltI (a := 255) (by omega) (by omega)).mpr (by omega)) hc)
      refine wf_return rfl dc_Rdr_takeOthers_28 ⟨rfl, rfl, rfl, rfl, rfl, h1, fun x => ?_⟩
      rw [h2 x]
      by_cases hx : 1 ≤ x ∧ x < j
      · rw [if_pos hx, if_pos (by omega)]
      · rw [if_neg hx, if_neg (by omega)]
    | succ k ih =>
      intro j g1 hj hk h1 h2
      refine wf_iload_n dc_Rdr_takeOthers_2 rfl ?_
      refine wf_sipush 255 dc_Rdr_takeOthers_3 (by decide) ?_
      refine wf_icmp_gt 28 dc_Rdr_takeOthers_6 (by decide) (fun hc => absurd ((nI_ltI (a := 255) (by omega) (by omega)).mp hc) (by omega)) (fun hc => ?_)
      refine wf_aload_n dc_Rdr_takeOthers_9 rfl ?_
      refine wf_getr dc_Rdr_takeOthers_10 fl_Rdr_35 rfl (by assumption) (by assumption) ?_
      refine wf_getr dc_Rdr_takeOthers_13 fl_Rdr_142 rfl (by assumption) (by assumption) ?_
      refine wf_iload_n dc_Rdr_takeOthers_16 rfl ?_
      refine wf_dup2 dc_Rdr_takeOthers_17 rfl rfl ?_
      refine wf_laload (y := 2) dc_Rdr_takeOthers_18 rfl (by assumption) (vp_in_nI (by omega) (by omega)) ?_
      refine wf_lload_n dc_Rdr_takeOthers_19 rfl ?_
      refine wf_lxor dc_Rdr_takeOthers_20 ?_
      refine wf_lastore (y := 2) dc_Rdr_takeOthers_21 rfl (by decide) (by assumption) (vp_in_nI (by omega) (by omega)) ?_
      rw [nI_clamp (by omega)]
      refine wf_iinc _ dc_Rdr_takeOthers_22 rfl (nI_1 j) (by decide) ?_
      refine wf_goto 2 dc_Rdr_takeOthers_25 (by decide) ?_
      refine Wf.to (by exact ⟨rfl, rfl, rfl, trivial⟩) (ih (j + 1) _ (by omega) (by omega) (fr_up h1 (by simp)) (fun x => ?_))
      by_cases hx : x = j
      · subst hx
        rw [wf_up_s, h2, if_neg (by omega), if_pos (by omega)]
      · rw [wf_up_k hx, h2]
        by_cases hx2 : 1 ≤ x ∧ x < j
        · rw [if_pos hx2, if_pos (by omega)]
        · rw [if_neg hx2, if_neg (by omega)]
  refine wf_iconst 1 dc_Rdr_takeOthers_0 (by decide) ?_
  refine wf_istore_n dc_Rdr_takeOthers_1 (by decide) ?_
  exact Wf.to (by exact ⟨rfl, rfl, rfl, trivial⟩) (loop 255 1 g (Nat.le_refl _) (by omega) fr_rf (fun x => by rw [if_neg (by omega)]))
/-- atoms of the newest one -/
theorem rd_g {g' : Wl} {a p : Nat} {V : Nat → Nat} {S : List Int32} {fa : Option Nat} {N : RdN} {A : RdA} {m m' : Nat → Bool} (hI : rd_is i g a V S p fa N (A ++ [m])) (h : ∀ x, x < 256 → ∀ k, lb (g' (V 7) x) k = if k = A.length then m' x else lb (g (V 7) x) k) : rd_is i g' a V S p fa N (A ++ [m']) := by
  obtain ⟨h1, hS, h9, h10, h6, hN, ⟨h5, h5'⟩, hT⟩ := hI
  have hl : ∀ m : Nat → Bool, (A ++ [m]).length = A.length + 1 := fun m => by rw [List.length_append]; rfl
  rw [hl m] at h5 h5'
  refine ⟨h1, hS, h9, h10, h6, hN, ⟨by rw [h5, hl], by rw [hl]; exact h5'⟩, fun x hx k => ?_⟩
  rw [h x hx k, rd_a_ap]
  by_cases hk : k = A.length
  · rw [if_pos hk]
    constructor
    · exact fun q => .inr ⟨hk, q⟩
    · rintro (⟨q, -⟩ | ⟨-, q⟩)
      · omega
      · exact q
  · rw [if_neg hk, hT x hx k, rd_a_ap]
    constructor
    · rintro (q | ⟨q, -⟩)
      · exact .inl q
      · exact absurd q hk
    · rintro (q | ⟨q, -⟩)
      · exact .inl q
      · exact absurd q hk
theorem rd_lb {a p x : Nat} {V : Nat → Nat} {S : List Int32} {fa : Option Nat} {N : RdN} {A : RdA} {m : Nat → Bool} (hI : rd_is i g a V S p fa N (A ++ [m])) (hx : x < 256) : lb (g (V 7) x) A.length = m x := by
  obtain ⟨-, -, -, -, -, -, -, hT⟩ := hI
  have := (hT x hx A.length).trans rd_a_ap
  cases hm : m x with
  | false =>
    cases hb : lb (g (V 7) x) A.length with
    | false => rfl
    | true =>
      rcases this.mp hb with ⟨q, -⟩ | ⟨-, q⟩
      · omega
      · rw [hm] at q; cases q
  | true => exact this.mpr (.inr ⟨rfl, hm⟩)
theorem rd_tk {g' : Wl} {a p lo hi : Nat} {V : Nat → Nat} {S : List Int32} {fa : Option Nat} {N : RdN} {A : RdA} {m : Nat → Bool} {T : Int64} (hI : rd_is i g a V S p fa N (A ++ [m])) (hT : ∀ j, lb T j = decide (j = A.length)) (h : ∀ x, g' (V 7) x = if lo ≤ x ∧ x ≤ hi then g (V 7) x ||| T else g (V 7) x) : rd_is i g' a V S p fa N (A ++ [ps_rg m lo hi]) := by
  refine rd_g hI (fun x hx k => ?_)
  rw [h x]
  by_cases hk : k = A.length
  · rw [if_pos hk, hk]
    have hm := rd_lb hI hx
    by_cases hr : lo ≤ x ∧ x ≤ hi
    · rw [if_pos hr, lb_or, hT, ps_rg]
      simp [hr]
    · rw [if_neg hr, hm, ps_rg]
      have : (decide (lo ≤ x) && decide (x ≤ hi)) = false := by
        simp only [Bool.and_eq_false_iff, decide_eq_false_iff_not]
        omega
      rw [this, Bool.or_false]
  · rw [if_neg hk]
    by_cases hr : lo ≤ x ∧ x ≤ hi
    · rw [if_pos hr, lb_or, hT, decide_eq_false hk, Bool.or_false]
    · rw [if_neg hr]
theorem rd_to {g' : Wl} {a p : Nat} {V : Nat → Nat} {S : List Int32} {fa : Option Nat} {N : RdN} {A : RdA} {m : Nat → Bool} {T : Int64} (hI : rd_is i g a V S p fa N (A ++ [m])) (hT : ∀ j, lb T j = decide (j = A.length)) (h : ∀ x, g' (V 7) x = if 1 ≤ x ∧ x ≤ 255 then g (V 7) x ^^^ T else g (V 7) x) : rd_is i g' a V S p fa N (A ++ [ps_cm m]) := by
  refine rd_g hI (fun x hx k => ?_)
  rw [h x]
  by_cases hk : k = A.length
  · rw [if_pos hk, hk]
    have hm := rd_lb hI hx
    by_cases hr : 1 ≤ x ∧ x ≤ 255
    · rw [if_pos hr, lb_xor, hT, hm, ps_cm, if_pos hr]
      simp
    · rw [if_neg hr, hm, ps_cm, if_neg hr]
  · rw [if_neg hk]
    by_cases hr : 1 ≤ x ∧ x ≤ 255
    · rw [if_pos hr, lb_xor, hT, decide_eq_false hk, Bool.xor_false]
    · rw [if_neg hr]
end
