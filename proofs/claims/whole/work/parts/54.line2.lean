/-! class LineRules: line -/
section
variable {l : Launch} {E : We} {n0 d nx : Nat} {t : Wt} {r : Wr} {i i' : Wi} {g : Wl} {b : Nat} {pm : Nat → Nat}
theorem c_LR_line {sx tx : Nat → List Int32} {sp : Int32} {lc : Nat} {ru : List RuS} {w W : List Int32} {F : List (List Int32)} {co : Nat → Int32} {K : KtS} {out : List Int32} (hA : lr_at t r b pm) (hP : lp_pad i b w) (hX : lp_exp t r i g b pm sx) (hT : lp_txt i b tx) (hL : lp_lin i b lc) (hS : lp_sep i b sp) (hR : lp_rul i b ru) (hI : ln_is t r i b (W, F, co, K, out)) (hl : out.length < 1999900000) (hn : b + 222 ≤ nx) : Ct l E n0 mt_LR_line (d + 7) 240 14640 [.ref (b + 0)] nx t r i g (fun o nx' t' r' i' g' => ∃ x v', (x, v') = lns_of sx tx sp (lc + 1) ru 0 (w, fl_cut w sp, co, K, out) ∧ o = .inl (some (.int (nI x))) ∧ nx ≤ nx' ∧ nx' ≤ nx + 240 ∧ xt_ok [b + 91] t r t' r' ∧ g' = g ∧ lp_pad i' b [] ∧ lp_lin i' b (lc + 1) ∧ ln_is t' r' i' b v' ∧ dy b nx i i') := by
  have t0 := hA.1.1
  have r0 : r (b + 0) 0 = some (b + 1) := hA.2.1 (0, 0, 1) (by decide +kernel)
  have r5 : r (b + 0) 5 = some (b + 21) := hA.2.1 (0, 5, 21) (by decide +kernel)
  have hcu := lr_cut hA
  have tC := hcu.1
  have hpd := lr_pad hA
  have tP := hpd.1
  have h12 := hR.2.1
  obtain ⟨hC, hN, hK, hO⟩ := hI
  simp only at hC hN hK hO
  refine Ct.of (by decide) (Nat.le_of_ble_eq_true rfl) ?_
  refine wf_aload_n dc_LR_line_0 rfl ?_
  refine wf_getr dc_LR_line_1 fl_LR_44 rfl (by assumption) (by assumption) ?_
  refine wf_aload_n dc_LR_line_4 rfl ?_
  refine wf_getr dc_LR_line_5 fl_LR_14 rfl (by assumption) (by assumption) ?_
  refine wf_aload_n dc_LR_line_8 rfl ?_
  refine wf_geti dc_LR_line_9 fl_LR_69 rfl (by assumption) ?_
  rw [hS.1]
  refine wf_iv2 (M' := mt_Cut_begin) (c := 1) dc_LR_line_12 tg_Cut_begin ml_LR_165 im_Cut_begin se_Cut_begin ⟨_, rfl, rfl⟩ (by assumption) (Nat.le_of_ble_eq_true rfl) (Nat.le_refl _) (Nat.le_refl _) (c_Cut_begin hcu hC.1 hpd hP.1 hP.2.1) qV_nt (qV_go (fun i2 hp => ?_))
  obtain ⟨m1, m2⟩ := hp
  refine wf_aload_n dc_LR_line_15 rfl ?_
  refine wf_getr dc_LR_line_16 fl_LR_14 rfl (by assumption) (by assumption) ?_
  refine wf_iv0 (M' := mt_Row_drop) (c := 5) dc_LR_line_19 tg_Row_drop ml_LR_95 im_Row_drop se_Row_drop ⟨_, rfl, rfl⟩ (by assumption) (Nat.le_of_ble_eq_true rfl) (Nat.le_refl _) (Nat.le_refl _) (c_Row_drop hpd) qV_nt (qV_go (fun i2 hp => ?_))
  obtain ⟨m3, m4⟩ := hp
  have f3 := fr_tr m2 m4
  have no1 : ∀ lo hi, hi < 21 ∧ 1 < lo ∨ 88 < lo → cl_no b lo hi (cu_fp (b + 21) (lr_P b) (lr_R b) ++ [b + 1]) := fun lo hi h z hz => by
    rcases List.mem_append.mp hz with hz | hz
    · have := cu_fp_in hz
      omega
    · rw [List.mem_singleton.mp hz]
      omega
  have h00 : b + 0 ∉ cu_fp (b + 21) (lr_P b) (lr_R b) ++ [b + 1] := fun hz => by
    rcases List.mem_append.mp hz with hz | hz
    · have := cu_fp_in hz
      omega
    · have := List.mem_singleton.mp hz
      omega
  have h11 : i2 (b + 0) 11 = nI lc := (f3 _ h00 11).trans hL
  refine wf_aload_n dc_LR_line_22 rfl ?_
  refine wf_dup dc_LR_line_23 rfl ?_
  refine wf_geti dc_LR_line_24 fl_LR_168 rfl (by assumption) ?_
  refine wf_iconst 1 dc_LR_line_27 (by decide) ?_
  refine wf_iadd dc_LR_line_28 ?_
  rw [h11, nI_1]
  refine wf_puti dc_LR_line_29 fl_LR_168 (Or.inl nf_LR_11) rfl rfl rfl (by assumption) ?_
  refine wf_iconst 0 dc_LR_line_32 (by decide) ?_
  refine wf_istore_n dc_LR_line_33 (by decide) ?_
  refine wf_iconst 1 dc_LR_line_34 (by decide) ?_
  refine wf_istore_n dc_LR_line_35 (by decide) ?_
  refine wf_iconst 0 dc_LR_line_36 (by decide) ?_
  refine wf_istore_n dc_LR_line_37 (by decide) ?_
  have f0 : fr_is [b + 0] i2 (wf_up i2 (b + 0) 11 (nI (lc + 1))) := fr_up fr_rf (by simp)
  have k0 : ∀ k, k ≠ 11 → wf_up i2 (b + 0) 11 (nI (lc + 1)) (b + 0) k = i (b + 0) k := fun k hk => (wf_up_k hk).trans (f3 _ h00 k)
  have k11 : wf_up i2 (b + 0) 11 (nI (lc + 1)) (b + 0) 11 = nI (lc + 1) := wf_up_s
  have f4 := fr_tr f3 f0
  have hC4 : lp_cut (wf_up i2 (b + 0) 11 (nI (lc + 1))) b w (fl_cut w sp) := by
    have c1 : lp_cut _ b w (fl_cut w sp) := ⟨m1, hP.2, sF_d (sF_cut hP.2)⟩
    refine (c1.fr m4 ?_).fr f0 ?_ <;>
    · intro z hz
      rw [List.mem_singleton.mp hz]
      omega
  have hP4 : lp_pad (wf_up i2 (b + 0) 11 (nI (lc + 1))) b [] := by
    have c1 : lp_pad i2 b [] := ⟨m3, s1_nil⟩
    refine c1.fr f0 ?_
    intro z hz
    rw [List.mem_singleton.mp hz]
    omega
  have no2 : ∀ lo hi, 1 < lo → hi < 21 ∨ 88 < lo → cl_no b lo hi (cu_fp (b + 21) (lr_P b) (lr_R b) ++ [b + 1] ++ [b + 0]) := fun lo hi h h' z hz => by
    rcases List.mem_append.mp hz with hz | hz
    · exact no1 lo hi (by omega) z hz
    · rw [List.mem_singleton.mp hz]
      omega
  revert f4 hC4 hP4 k0 k11
  generalize wf_up i2 (b + 0) 11 (nI (lc + 1)) = i4
  intro k0 k11 f4 hC4 hP4
  have hX4 := hX.fr hA f4 (no2 12 17 (by omega) (by omega)) (no2 109 144 (by omega) (by omega))
  have hT4 := hT.fr f4 (no2 97 108 (by omega) (by omega))
  have hR4 := hR.fr f4 (k0 10 (by omega)) (no2 145 192 (by omega) (by omega))
  have hS4 : lp_sep i4 b sp := ⟨(k0 12 (by omega)).trans hS.1, hS.2⟩
  have hI4 : ln_is t r i4 b (w, fl_cut w sp, co, K, out) := ⟨hC4, hN.fr f4 (no2 89 89 (by omega) (by omega)), hK.fr f4 (no2 90 92 (by omega) (by omega)) (fun z hz => by
    rcases List.mem_append.mp hz with hz | hz
    · rcases List.mem_append.mp hz with hz | hz
      · have := cu_fp_in hz
        omega
      · rw [List.mem_singleton.mp hz]
        omega
    · rw [List.mem_singleton.mp hz]
      omega), hO.fr f4 ((no2 93 94 (by omega) (by omega)).at (by omega) (by omega)) ((no2 93 94 (by omega) (by omega)).at (by omega) (by omega))⟩
  refine Wf.to (L' := [(0, .ref (b + 0)), (1, .int (nI 0)), (2, .int (wt_b true)), (3, .int (nI 0))]) (by exact ⟨rfl, rfl, rfl, rfl, trivial⟩) ?_
  refine c_LR_line_l hA hX4 hT4 k11 hS4 hR4 hn ru.length 0 240 14640 0 true _ nx t r i4 (by omega) (by omega) (by omega) (by omega) (by omega) (by omega) xt_rf dz_rf hI4 (by show out.length + _ < _; omega) (fun x v' nx2 t2 r2 i2 hv q1 q2 q3 q4 q5 => ?_)
  refine ⟨x, v', hv, rfl, q1, q2, q3, rfl, hP4.dz q4 hn, (q4 _ (by omega) (by omega) 11).trans k11, q5, fun z hz h1 h2 k h3 => ?_⟩
  rw [q4 z hz h1 k]
  by_cases hz0 : z = b + 0
  · subst hz0
    exact k0 k (h3 rfl)
  · refine f4 z (fun hm => ?_) k
    rcases List.mem_append.mp hm with hm | hm
    · rcases List.mem_append.mp hm with hm | hm
      · have := cu_fp_in hm
        omega
      · exact h2 (List.mem_singleton.mp hm)
    · exact hz0 (List.mem_singleton.mp hm)
end
