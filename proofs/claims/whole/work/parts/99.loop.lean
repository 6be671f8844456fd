/-! the law: its loop -/
/-- cells and slots for the ops to come: c more, j done -/
def cb : Nat → Nat → Nat
  | 0, _ => 0
  | c + 1, j => (2 * min 120 j + 1) + cb c (j + 1)
def sb : Nat → Nat → Nat
  | 0, _ => 0
  | c + 1, j => (122 * min 120 j + 6) + sb c (j + 1)
theorem and15 (a : Int32) : ∃ k : Nat, k ≤ 15 ∧ a &&& 15 = nI k := by
  refine ⟨(a &&& 15).toBitVec.toNat, ?_, Int32.toBitVec_inj.mp (by simp [nI])⟩
  rw [Int32.toBitVec_and, BitVec.toNat_and]
  exact Nat.and_le_right
section
variable {l : Launch} {E : We} {n0 d mc ms : Nat} {b sc n : Nat} {Q : Wq}
theorem law_l (hl : l.stackTraces = false) (hn : n ≤ 3072) (hQ : ∀ nx t r i g, Q (.inl (some (.int 1))) nx t r i g) : ∀ (c j bk bn nx : Nat) (t : Wt) (r : Wr) (i : Wi) (g : Wl), 6 * (j + c) ≤ n → n < 6 * (j + c) + 6 → cb c j ≤ bk → sb c j ≤ bn → lw_st t r i g nx b sc n j → Wf l E n0 mt_Law_law (d + 50) mc ms Q bk bn 23 [(0, .ref sc), (1, .ref (b + 0)), (2, .ref (b + 193 + 0)), (3, .ref (b + 221)), (4, .int (nI (6 * j)))] [] nx t r i g := by
  have e6 : (nI n - 6).toInt = (n : Int) - 6 := by
    rw [Int32.toInt_sub, nI_toInt (by omega), show (6 : Int32).toInt = 6 from rfl]
    exact Int.bmod_eq_of_le (by omega) (by omega)
  intro c
  induction c with
  | zero =>
    intro j bk bn nx t r i g h1 h2 h3 h4 H
    have tS := H
    obtain ⟨pm, sx, tx, w, sp, ru, v, lc, fe, -, -, tS, -⟩ := tS
    refine wf_iload dc_Law_law_23 rfl ?_
    refine wf_aload_n dc_Law_law_25 rfl ?_
    refine wf_alen dc_Law_law_26 (by assumption) ?_
    refine wf_bipush 6 dc_Law_law_27 (by decide) ?_
    refine wf_isub dc_Law_law_29 ?_
    refine wf_icmp_gt 994 dc_Law_law_30 (by decide) (fun hc => ?_) (fun hc => absurd (Int32.lt_iff_toInt_lt.mpr (by rw [e6, nI_toInt (by omega)]; omega)) hc)
    refine wf_iconst 1 dc_Law_law_994 (by decide) ?_
    exact wf_zreturn rfl rfl dc_Law_law_995 (hQ _ _ _ _ _)
  | succ c ih =>
    intro j bk bn nx t r i g h1 h2 h3 h4 H
    have tS := H
    obtain ⟨pm, sx, tx, w, sp, ru, v, lc, fe, -, -, tS, -⟩ := tS
    rw [cb] at h3
    rw [sb] at h4
    have hj : j ≤ 512 := by omega
    have v1 : vp_in (nI (6 * j) + 1) n := by rw [show nI (6 * j) + 1 = nI (6 * j + 1) from nI_add (6 * j) 1]; exact vp_in_nI (by omega) (by omega)
    have v2 : vp_in (nI (6 * j) + 2) n := by rw [show nI (6 * j) + 2 = nI (6 * j + 2) from nI_add (6 * j) 2]; exact vp_in_nI (by omega) (by omega)
    have v3 : vp_in (nI (6 * j) + 3) n := by rw [show nI (6 * j) + 3 = nI (6 * j + 3) from nI_add (6 * j) 3]; exact vp_in_nI (by omega) (by omega)
    have v4 : vp_in (nI (6 * j) + 4) n := by rw [show nI (6 * j) + 4 = nI (6 * j + 4) from nI_add (6 * j) 4]; exact vp_in_nI (by omega) (by omega)
    have v5 : vp_in (nI (6 * j) + 5) n := by rw [show nI (6 * j) + 5 = nI (6 * j + 5) from nI_add (6 * j) 5]; exact vp_in_nI (by omega) (by omega)
    have kk : ∀ nx' t' r' i' g', lw_st t' r' i' g' nx' b sc n (j + 1) → Wf l E n0 mt_Law_law (d + 50) mc ms Q (cb c (j + 1)) (sb c (j + 1)) 988 [(0, .ref sc), (1, .ref (b + 0)), (2, .ref (b + 193 + 0)), (3, .ref (b + 221)), (4, .int (nI (6 * j)))] [] nx' t' r' i' g' := fun nx' t' r' i' g' H' => by
      refine wf_iinc _ dc_Law_law_988 rfl (nI_add (6 * j) 6) (by decide) ?_
      refine wf_goto 23 dc_Law_law_991 (by decide) ?_
      exact Wf.to (by exact ⟨rfl, rfl, rfl, rfl, rfl, trivial⟩) (ih (j + 1) _ _ nx' t' r' i' g' (by omega) (by omega) (Nat.le_refl _) (Nat.le_refl _) H')
    have kf : ∀ nx' t' r' i' g', lw_st t' r' i' g' nx' b sc n (j + 1) → Wf l E n0 mt_Law_law (d + 50) mc ms Q bk bn 988 [(0, .ref sc), (1, .ref (b + 0)), (2, .ref (b + 193 + 0)), (3, .ref (b + 221)), (4, .int (nI (6 * j)))] [] nx' t' r' i' g' := fun nx' t' r' i' g' H' => (kk nx' t' r' i' g' H').le (by omega) (by omega)
    refine wf_iload dc_Law_law_23 rfl ?_
    refine wf_aload_n dc_Law_law_25 rfl ?_
    refine wf_alen dc_Law_law_26 (by assumption) ?_
    refine wf_bipush 6 dc_Law_law_27 (by decide) ?_
    refine wf_isub dc_Law_law_29 ?_
    refine wf_icmp_gt 994 dc_Law_law_30 (by decide) (fun hc => ?_) (fun hc => ?_)
    · rw [Int32.lt_iff_toInt_lt, e6, nI_toInt (by omega)] at hc
      omega
    refine wf_aload_n dc_Law_law_33 rfl ?_
    refine wf_iload dc_Law_law_34 rfl ?_
    refine wf_iaload (y := wl_AS) dc_Law_law_36 rfl (by assumption) (vp_in_nI (by omega) (by omega)) ?_
    refine wf_bipush 15 dc_Law_law_37 (by decide) ?_
    refine wf_iand dc_Law_law_39 ?_
    generalize i sc (nI (6 * j)).toNatClampNeg = a
    obtain ⟨k, hk, hak⟩ := and15 a
    rw [hak]
    have hc : k = 0 ∨ k = 1 ∨ k = 2 ∨ k = 3 ∨ k = 4 ∨ k = 5 ∨ k = 6 ∨ k = 7 ∨ k = 8 ∨ k = 9 ∨ k = 10 ∨ k = 11 ∨ k = 12 ∨ k = 13 ∨ k = 14 ∨ k = 15 := by omega
    rcases hc with z | z | z | z | z | z | z | z | z | z | z | z | z | z | z | z <;> subst z
    · refine wf_tableIn (off := 80) 120 dc_Law_law_40 (by decide) (by decide) rfl (by decide) ?_
      exact Wf.to (by exact ⟨rfl, rfl, rfl, rfl, rfl, trivial⟩) (o_feed hl hj v1 v2 v3 v4 v5 (by omega) (by omega) H kk)
    · refine wf_tableIn (off := 184) 224 dc_Law_law_40 (by decide) (by decide) rfl (by decide) ?_
      exact Wf.to (by exact ⟨rfl, rfl, rfl, rfl, rfl, trivial⟩) (o_clear H kf)
    · refine wf_tableIn (off := 197) 237 dc_Law_law_40 (by decide) (by decide) rfl (by decide) ?_
      exact Wf.to (by exact ⟨rfl, rfl, rfl, rfl, rfl, trivial⟩) (o_expression hl hj v1 (by omega) (by omega) H kk)
    · refine wf_tableIn (off := 253) 293 dc_Law_law_40 (by decide) (by decide) rfl (by decide) ?_
      exact Wf.to (by exact ⟨rfl, rfl, rfl, rfl, rfl, trivial⟩) (o_text hl hj v1 (by omega) (by omega) H kk)
    · refine wf_tableIn (off := 309) 349 dc_Law_law_40 (by decide) (by decide) rfl (by decide) ?_
      exact Wf.to (by exact ⟨rfl, rfl, rfl, rfl, rfl, trivial⟩) (o_separator hl hj v1 (by omega) (by omega) H kk)
    · refine wf_tableIn (off := 365) 405 dc_Law_law_40 (by decide) (by decide) rfl (by decide) ?_
      exact Wf.to (by exact ⟨rfl, rfl, rfl, rfl, rfl, trivial⟩) (o_rule hl hj v1 v2 v3 (by omega) (by omega) H kk)
    · refine wf_tableIn (off := 445) 485 dc_Law_law_40 (by decide) (by decide) rfl (by decide) ?_
      exact Wf.to (by exact ⟨rfl, rfl, rfl, rfl, rfl, trivial⟩) (o_action hl hj v1 v2 v3 v4 (by omega) (by omega) H kk)
    · refine wf_tableIn (off := 537) 577 dc_Law_law_40 (by decide) (by decide) rfl (by decide) ?_
      exact Wf.to (by exact ⟨rfl, rfl, rfl, rfl, rfl, trivial⟩) (o_forget H kf)
    · refine wf_tableIn (off := 550) 590 dc_Law_law_40 (by decide) (by decide) rfl (by decide) ?_
      exact Wf.to (by exact ⟨rfl, rfl, rfl, rfl, rfl, trivial⟩) (o_line hj (by omega) (by omega) H kk)
    · refine wf_tableIn (off := 563) 603 dc_Law_law_40 (by decide) (by decide) rfl (by decide) ?_
      exact Wf.to (by exact ⟨rfl, rfl, rfl, rfl, rfl, trivial⟩) (o_find hl hj v1 v2 (by omega) (by omega) H kk)
    · refine wf_tableIn (off := 631) 671 dc_Law_law_40 (by decide) (by decide) rfl (by decide) ?_
      exact Wf.to (by exact ⟨rfl, rfl, rfl, rfl, rfl, trivial⟩) (o_end H kf)
    · refine wf_tableIn (off := 644) 684 dc_Law_law_40 (by decide) (by decide) rfl (by decide) ?_
      exact Wf.to (by exact ⟨rfl, rfl, rfl, rfl, rfl, trivial⟩) (q_sign hl hj v1 v2 (by omega) (by omega) H kk)
    · refine wf_tableIn (off := 712) 752 dc_Law_law_40 (by decide) (by decide) rfl (by decide) ?_
      exact Wf.to (by exact ⟨rfl, rfl, rfl, rfl, rfl, trivial⟩) (q_printed hl hj v1 (by omega) (by omega) H kk)
    · refine wf_tableIn (off := 768) 808 dc_Law_law_40 (by decide) (by decide) rfl (by decide) ?_
      exact Wf.to (by exact ⟨rfl, rfl, rfl, rfl, rfl, trivial⟩) (q_counter hl hj v1 (by omega) (by omega) H kk)
    · refine wf_tableIn (off := 824) 864 dc_Law_law_40 (by decide) (by decide) rfl (by decide) ?_
      exact Wf.to (by exact ⟨rfl, rfl, rfl, rfl, rfl, trivial⟩) (q_key hl hj v1 v2 (by omega) (by omega) H kk)
    · refine wf_tableIn (off := 892) 932 dc_Law_law_40 (by decide) (by decide) rfl (by decide) ?_
      exact Wf.to (by exact ⟨rfl, rfl, rfl, rfl, rfl, trivial⟩) (q_count hl hj v1 (by omega) (by omega) H kk)
end
