/-! the reference: field, part -/
section
variable {l : Launch} {E : We} {n0 d nx : Nat} {t : Wt} {r : Wr} {i i' : Wi} {g : Wl} {m : Nat} {S : Ms}
def mF_S : Ms := [(0, 15, 16), (12, 0, 3600), (13, 0, 30)]
theorem gd_app {F : List (List Int32)} {x : List Int32} {k : Nat} (h : k < F.length) : (F ++ [x]).getD k [] = F.getD k [] := by
  rw [List.getD_eq_getElem?_getD, List.getElem?_append_left h, ← List.getD_eq_getElem?_getD]
theorem gd_new {F : List (List Int32)} {x : List Int32} : (F ++ [x]).getD F.length [] = x := by
  rw [List.getD_eq_getElem?_getD, List.getElem?_append_right (Nat.le_refl _), Nat.sub_self]
  rfl
theorem mr.mF {k : Nat} {w : List Int32} (h : mr i m k w) (hf : mf m mF_S i i') (hl : w.length ≤ 120) : mr i' m k w := h.fr hf hl (by simp [ms_no, mF_S]) (by simp [ms_no, mF_S])
theorem c_Mod_field {lo hi : Nat} {W : List Int32} {F : List (List Int32)} (hA : mo_at t r m) (hW : mr i m 1 W) (hl : W.length ≤ 120) (hF : mp_fld i m F) (h30 : F.length ≤ 30) (h120 : ∀ k, k < F.length → (F.getD k []).length ≤ 120) (hlo : lo ≤ hi) (hhi : hi ≤ W.length) :
    Ct l E n0 mt_Mod_field d 0 0 [.ref (m + 0), .int (nI lo), .int (nI hi)] nx t r i g (qV nx t r g (fun i' => mp_fld i' m (fl_add F ((W.drop lo).take (hi - lo))) ∧ mf m mF_S i i')) := by
  have t0 := hA.1.1
  have r1 : r (m + 0) 1 = some (m + 1) := hA.2 (0, 1, 1) (by decide +kernel)
  have r16 : r (m + 0) 16 = some (m + 12) := hA.2 (0, 16, 12) (by decide +kernel)
  have r17 : r (m + 0) 17 = some (m + 13) := hA.2 (0, 17, 13) (by decide +kernel)
  have t1 := hA.1.2 1 (1, .inr (0, 1080)) (by decide +kernel)
  have t12 := hA.1.2 12 (12, .inr (0, 3600)) (by decide +kernel)
  have t13 := hA.1.2 13 (13, .inr (0, 30)) (by decide +kernel)
  refine Ct.of (by decide) (Nat.le_of_ble_eq_true rfl) ?_
  refine wf_aload_n dc_Mod_field_0 rfl ?_
  refine wf_geti dc_Mod_field_1 fl_Mod_178 rfl (by assumption) ?_
  rw [hF.1]
  refine wf_bipush 30 dc_Mod_field_4 (by decide) ?_
  unfold fl_add
  by_cases h : F.length < 30
  · rw [if_pos h]
    refine wf_icmp_ge 69 dc_Mod_field_6 (by decide) (fun hc => absurd ((nI_leI (a := 30) (by omega) (by omega)).mp hc) (by omega)) (fun hc => ?_)
    refine wf_aload_n dc_Mod_field_9 rfl ?_
    refine wf_getr dc_Mod_field_10 fl_Mod_50 rfl (by assumption) (by assumption) ?_
    refine wf_aload_n dc_Mod_field_13 rfl ?_
    refine wf_geti dc_Mod_field_14 fl_Mod_178 rfl (by assumption) ?_
    rw [hF.1]
    refine wf_iload_n dc_Mod_field_17 rfl ?_
    refine wf_iload_n dc_Mod_field_18 rfl ?_
    refine wf_isub dc_Mod_field_19 ?_
    rw [pk_sub hlo]
    refine wf_iastore (y := 0) dc_Mod_field_20 rfl (by decide) (by assumption) (vp_in_nI (by omega) (by omega)) ?_
    refine wf_iload_n dc_Mod_field_21 rfl ?_
    refine wf_istore_n dc_Mod_field_22 (by decide) ?_
    rw [nI_clamp (show F.length < 2 ^ 31 by omega)]
    have hx : ((W.drop lo).take (hi - lo)).length = hi - lo := by rw [List.length_take, List.length_drop]; omega
    have loop : ∀ (c j : Nat) (i1 : Wi), j + c = hi - lo → i1 (m + 0) 15 = nI F.length → i1 (m + 13) F.length = nI (hi - lo) → (∀ k, k < F.length → i1 (m + 13) k = nI (F.getD k []).length ∧ mz i1 (m + 12) (120 * k) (F.getD k [])) → mz i1 (m + 12) (120 * F.length) (((W.drop lo).take (hi - lo)).take j) → mf m mF_S i i1 →
        Wf l E n0 mt_Mod_field d 0 0 (qV nx t r g (fun i' => mp_fld i' m (F ++ [(W.drop lo).take (hi - lo)]) ∧ mf m mF_S i i')) 0 0 23 [(0, .ref (m + 0)), (1, .int (nI lo)), (2, .int (nI hi)), (3, .int (nI (lo + j)))] [] nx t r i1 g := by
      intro c
      induction c with
      | zero =>
        intro j i1 hj q1 q2 q3 q4 q5
        refine wf_iload_n dc_Mod_field_23 rfl ?_
        refine wf_iload_n dc_Mod_field_24 rfl ?_
        refine wf_icmp_ge 59 dc_Mod_field_25 (by decide) (fun hc => ?_) (fun hc => absurd ((nI_leI (by omega) (by omega)).mpr (by omega)) hc)
        refine wf_aload_n dc_Mod_field_59 rfl ?_
        refine wf_dup dc_Mod_field_60 rfl ?_
        refine wf_geti dc_Mod_field_61 fl_Mod_178 rfl (by assumption) ?_
        refine wf_iconst 1 dc_Mod_field_64 (by decide) ?_
        refine wf_iadd dc_Mod_field_65 ?_
        rw [q1, nI_1]
        refine wf_puti dc_Mod_field_66 fl_Mod_178 (Or.inl nf_Mod_15) rfl rfl rfl (by assumption) ?_
        rw [List.take_of_length_le (by omega)] at q4
        refine wf_return rfl dc_Mod_field_69 ⟨rfl, rfl, rfl, rfl, rfl, ⟨?_, fun k hk => ?_⟩, mf_up q5 ⟨(0, 15, 16), by simp [mF_S], rfl, Nat.le_refl _, Nat.le_refl _⟩⟩
        · rw [List.length_append]
          exact wf_up_s
        · rw [List.length_append, List.length_singleton] at hk
          have hz : ∀ o w, mz i1 (m + 12) o w → mz (wf_up i1 (m + 0) 15 (nI (F.length + 1))) (m + 12) o w := fun o w hm q hq => (wf_up_a (by omega)).trans (hm q hq)
          by_cases hkl : k < F.length
          · rw [gd_app hkl, wf_up_a (by omega)]
            exact ⟨(q3 k hkl).1, hz _ _ (q3 k hkl).2⟩
          · have hke : k = F.length := by omega
            rw [hke, gd_new, wf_up_a (by omega), hx]
            exact ⟨q2, hz _ _ q4⟩
      | succ c ih =>
        intro j i1 hj q1 q2 q3 q4 q5
        have hW1 := hW.mF q5 hl
        refine wf_iload_n dc_Mod_field_23 rfl ?_
        refine wf_iload_n dc_Mod_field_24 rfl ?_
        refine wf_icmp_ge 59 dc_Mod_field_25 (by decide) (fun hc => absurd ((nI_leI (by omega) (by omega)).mp hc) (by omega)) (fun hc => ?_)
        refine wf_aload_n dc_Mod_field_28 rfl ?_
        refine wf_getr dc_Mod_field_29 fl_Mod_47 rfl (by assumption) (by assumption) ?_
        refine wf_bipush 120 dc_Mod_field_32 (by decide) ?_
        refine wf_aload_n dc_Mod_field_34 rfl ?_
        refine wf_geti dc_Mod_field_35 fl_Mod_178 rfl (by assumption) ?_
        refine wf_imul dc_Mod_field_38 ?_
        rw [q1, n120]
        refine wf_iload_n dc_Mod_field_39 rfl ?_
        refine wf_iadd dc_Mod_field_40 ?_
        refine wf_iload_n dc_Mod_field_41 rfl ?_
        refine wf_isub dc_Mod_field_42 ?_
        rw [nI_add, pk_sub (show lo ≤ 120 * F.length + (lo + j) by omega), show 120 * F.length + (lo + j) - lo = 120 * F.length + j by omega]
        refine wf_aload_n dc_Mod_field_43 rfl ?_
        refine wf_getr dc_Mod_field_44 fl_Mod_7 rfl (by assumption) (by assumption) ?_
        refine wf_bipush 120 dc_Mod_field_47 (by decide) ?_
        refine wf_iload_n dc_Mod_field_49 rfl ?_
        refine wf_iadd dc_Mod_field_50 ?_
        rw [show (120 : Int32) + nI (lo + j) = nI (120 * 1 + (lo + j)) from nI_add 120 (lo + j)]
        refine wf_iaload (y := 0) dc_Mod_field_51 rfl (by assumption) (vp_in_nI (by omega) (by omega)) ?_
        rw [nI_clamp (show 120 * 1 + (lo + j) < 2 ^ 31 by omega), hW1.2 (lo + j) (by omega)]
        refine wf_iastore (y := 0) dc_Mod_field_52 rfl (by decide) (by assumption) (vp_in_nI (by omega) (by omega)) ?_
        refine wf_iinc _ dc_Mod_field_53 rfl (nI_1 (lo + j)) (by decide) ?_
        refine wf_goto 23 dc_Mod_field_56 (by decide) ?_
        rw [nI_clamp (show 120 * F.length + j < 2 ^ 31 by omega)]
        have hg : W.getD (lo + j) 0 = ((W.drop lo).take (hi - lo)).getD j 0 := by
          rw [List.getD_eq_getElem?_getD, List.getD_eq_getElem?_getD, List.getElem?_take_of_lt (by omega), List.getElem?_drop]
        refine Wf.to (by exact ⟨rfl, rfl, rfl, rfl, trivial⟩) (ih (j + 1) _ (by omega) ((wf_up_a (by omega)).trans q1) ((wf_up_a (by omega)).trans q2) (fun k hk => ⟨(wf_up_a (by omega)).trans (q3 k hk).1, fun q hq => ?_⟩) ?_ (mf_up q5 ⟨(12, 0, 3600), by simp [mF_S], rfl, Nat.zero_le _, by simp only; omega⟩))
        · have := h120 k hk
          rw [wf_up_k (by omega)]
          exact (q3 k hk).2 q hq
        · rw [tk_s (by omega)]
          have h4 : mz (wf_up i1 (m + 12) (120 * F.length + j) (W.getD (lo + j) 0)) (m + 12) (120 * F.length) (((W.drop lo).take (hi - lo)).take j) := fun q hq => by
            rw [List.length_take] at hq
            rw [wf_up_k (by omega)]
            exact q4 q (by rw [List.length_take]; exact hq)
          refine h4.snoc ?_
          rw [List.length_take, Nat.min_eq_left (by omega), ← hg]
          exact wf_up_s
    refine Wf.to (by exact ⟨rfl, rfl, rfl, rfl, trivial⟩) (loop (hi - lo) 0 _ (Nat.zero_add _) ((wf_up_a (by omega)).trans hF.1) wf_up_s (fun k hk => ⟨(wf_up_k (by omega)).trans (hF.2 k hk).1, fun q hq => (wf_up_a (by omega)).trans ((hF.2 k hk).2 q hq)⟩) mz_nil (mf_up mf_rf ⟨(13, 0, 30), by simp [mF_S], rfl, Nat.zero_le _, by simp only; omega⟩))
  · rw [if_neg h]
    refine wf_icmp_ge 69 dc_Mod_field_6 (by decide) (fun hc => ?_) (fun hc => absurd ((nI_leI (a := 30) (by omega) (by omega)).mpr (by omega)) hc)
    exact wf_return rfl dc_Mod_field_69 ⟨rfl, rfl, rfl, rfl, rfl, hF, mf_rf⟩
theorem fl_add_ok {F : List (List Int32)} {x : List Int32} (h30 : F.length ≤ 30) (h120 : ∀ k, k < F.length → (F.getD k []).length ≤ 120) (hx : x.length ≤ 120) : (fl_add F x).length ≤ 30 ∧ ∀ k, k < (fl_add F x).length → ((fl_add F x).getD k []).length ≤ 120 := by
  unfold fl_add
  by_cases h : F.length < 30
  · rw [if_pos h, List.length_append, List.length_singleton]
    refine ⟨by omega, fun k hk => ?_⟩
    by_cases hkl : k < F.length
    · rw [gd_app hkl]; exact h120 k hkl
    · rw [show k = F.length by omega, gd_new]; exact hx
  · rw [if_neg h]
    exact ⟨h30, h120⟩
theorem c_Mod_part {W : List Int32} {sp : Int32} (hA : mo_at t r m) (hW : mr i m 1 W) (hl : W.length ≤ 120) (hs : i (m + 0) 5 = sp) : Ct l E n0 mt_Mod_part (d + 1) 0 0 [.ref (m + 0)] nx t r i g (qV nx t r g (fun i' => mp_fld i' m (fl_cut W sp) ∧ mf m mF_S i i')) := by
  have t0 := hA.1.1
  have r1 : r (m + 0) 1 = some (m + 1) := hA.2 (0, 1, 1) (by decide +kernel)
  have r2 : r (m + 0) 2 = some (m + 2) := hA.2 (0, 2, 2) (by decide +kernel)
  have t1 := hA.1.2 1 (1, .inr (0, 1080)) (by decide +kernel)
  have t2 := hA.1.2 2 (2, .inr (0, 9)) (by decide +kernel)
  refine Ct.of (by decide) (Nat.le_of_ble_eq_true rfl) ?_
  refine wf_aload_n dc_Mod_part_0 rfl ?_
  refine wf_iconst 0 dc_Mod_part_1 (by decide) ?_
  refine wf_puti dc_Mod_part_2 fl_Mod_178 (Or.inl nf_Mod_15) rfl rfl rfl (by assumption) ?_
  refine wf_iconst 0 dc_Mod_part_5 (by decide) ?_
  refine wf_istore_n dc_Mod_part_6 (by decide) ?_
  refine wf_iconst 0 dc_Mod_part_7 (by decide) ?_
  refine wf_istore_n dc_Mod_part_8 (by decide) ?_
  have f0 : mf m mF_S i (wf_up i (m + 0) 15 0) := mf_up mf_rf ⟨(0, 15, 16), by simp [mF_S], rfl, Nat.le_refl _, Nat.le_refl _⟩
  have hF0 : mp_fld (wf_up i (m + 0) 15 0) m [] := ⟨wf_up_s, fun k hk => absurd hk (Nat.not_lt_zero _)⟩
  by_cases hW0 : W.length = 0
  · have hnil : W = [] := List.length_eq_zero_iff.mp hW0
    have hW1 := hW.mF f0 hl
    refine wf_iload_n dc_Mod_part_9 rfl ?_
    refine wf_aload_n dc_Mod_part_10 rfl ?_
    refine wf_getr dc_Mod_part_11 fl_Mod_13 rfl (by assumption) (by assumption) ?_
    refine wf_iconst 1 dc_Mod_part_14 (by decide) ?_
    refine wf_iaload (y := 0) dc_Mod_part_15 rfl (by assumption) (vp_in_nI (n := 1) (by omega) (by omega)) ?_
    rw [show wf_up i (m + 0) 15 0 (m + 2) (Int32.toNatClampNeg 1) = nI W.length from hW1.1, hW0]
    refine wf_icmp_gt 84 dc_Mod_part_16 (by decide) (fun hc => absurd hc (by decide)) (fun hc => ?_)
    refine wf_aload_n dc_Mod_part_19 rfl ?_
    refine wf_getr dc_Mod_part_20 fl_Mod_13 rfl (by assumption) (by assumption) ?_
    refine wf_iconst 1 dc_Mod_part_23 (by decide) ?_
    refine wf_iaload (y := 0) dc_Mod_part_24 rfl (by assumption) (vp_in_nI (n := 1) (by omega) (by omega)) ?_
    rw [show wf_up i (m + 0) 15 0 (m + 2) (Int32.toNatClampNeg 1) = nI W.length from hW1.1, hW0]
    refine wf_if_le 84 dc_Mod_part_25 (by decide) (fun hc => ?_) (fun hc => absurd (by decide) hc)
    have he : fl_cut W sp = [] := by
      rw [hnil]
      unfold fl_cut fl_go
      simp [fl_go]
    rw [he]
    exact wf_return rfl dc_Mod_part_84 ⟨rfl, rfl, rfl, rfl, rfl, hF0, f0⟩
  have loop : ∀ (c j b : Nat) (F : List (List Int32)) (i1 : Wi), j + c = W.length + 1 → b ≤ j → fl_go W sp c j b F = fl_cut W sp → F.length ≤ 30 → (∀ k, k < F.length → (F.getD k []).length ≤ 120) → mp_fld i1 m F → mf m mF_S i i1 →
      Wf l E n0 mt_Mod_part (d + 1) 0 0 (qV nx t r g (fun i' => mp_fld i' m (fl_cut W sp) ∧ mf m mF_S i i')) 0 0 9 [(0, .ref (m + 0)), (1, .int (nI b)), (2, .int (nI j))] [] nx t r i1 g := by
    intro c
    induction c with
    | zero =>
      intro j b F i1 hj hb he h30 h120 hF hf
      have hW1 := hW.mF hf hl
      refine wf_iload_n dc_Mod_part_9 rfl ?_
      refine wf_aload_n dc_Mod_part_10 rfl ?_
      refine wf_getr dc_Mod_part_11 fl_Mod_13 rfl (by assumption) (by assumption) ?_
      refine wf_iconst 1 dc_Mod_part_14 (by decide) ?_
      refine wf_iaload (y := 0) dc_Mod_part_15 rfl (by assumption) (vp_in_nI (n := 1) (by omega) (by omega)) ?_
      rw [show i1 (m + 2) (Int32.toNatClampNeg 1) = nI W.length from hW1.1]
      refine wf_icmp_gt 84 dc_Mod_part_16 (by decide) (fun hc => ?_) (fun hc => absurd ((nI_ltI (by omega) (by omega)).mpr (by omega)) hc)
      unfold fl_go at he
      rw [← he]
      exact wf_return rfl dc_Mod_part_84 ⟨rfl, rfl, rfl, rfl, rfl, hF, hf⟩
    | succ c ih =>
      intro j b F i1 hj hb he h30 h120 hF hf
      have hW1 := hW.mF hf hl
      have hs1 : i1 (m + 0) 5 = sp := (hf.at (by simp [ms_no, mF_S])).trans hs
      have eW : i1 (m + 2) (Int32.toNatClampNeg 1) = nI W.length := hW1.1
      refine wf_iload_n dc_Mod_part_9 rfl ?_
      refine wf_aload_n dc_Mod_part_10 rfl ?_
      refine wf_getr dc_Mod_part_11 fl_Mod_13 rfl (by assumption) (by assumption) ?_
      refine wf_iconst 1 dc_Mod_part_14 (by decide) ?_
      refine wf_iaload (y := 0) dc_Mod_part_15 rfl (by assumption) (vp_in_nI (n := 1) (by omega) (by omega)) ?_
      rw [eW]
      refine wf_icmp_gt 84 dc_Mod_part_16 (by decide) (fun hc => absurd ((nI_ltI (by omega) (by omega)).mp hc) (by omega)) (fun hc => ?_)
      refine wf_aload_n dc_Mod_part_19 rfl ?_
      refine wf_getr dc_Mod_part_20 fl_Mod_13 rfl (by assumption) (by assumption) ?_
      refine wf_iconst 1 dc_Mod_part_23 (by decide) ?_
      refine wf_iaload (y := 0) dc_Mod_part_24 rfl (by assumption) (vp_in_nI (n := 1) (by omega) (by omega)) ?_
      rw [eW]
      refine wf_if_le 84 dc_Mod_part_25 (by decide) (fun hc => absurd ((nI_leI (b := 0) (by omega) (by omega)).mp hc) (by omega)) (fun hc => ?_)
      refine wf_iload_n dc_Mod_part_28 rfl ?_
      refine wf_aload_n dc_Mod_part_29 rfl ?_
      refine wf_getr dc_Mod_part_30 fl_Mod_13 rfl (by assumption) (by assumption) ?_
      refine wf_iconst 1 dc_Mod_part_33 (by decide) ?_
      refine wf_iaload (y := 0) dc_Mod_part_34 rfl (by assumption) (vp_in_nI (n := 1) (by omega) (by omega)) ?_
      rw [eW]
      have cut : (j = W.length ∨ W.getD j 0 = sp) → Wf l E n0 mt_Mod_part (d + 1) 0 0 (qV nx t r g (fun i' => mp_fld i' m (fl_cut W sp) ∧ mf m mF_S i i')) 0 0 54 [(0, .ref (m + 0)), (1, .int (nI b)), (2, .int (nI j))] [] nx t r i1 g := fun hcut => by
        unfold fl_go at he
        rw [if_pos hcut] at he
        have nxt : ∀ (F' : List (List Int32)) (i2 : Wi), fl_go W sp c (j + 1) (j + 1) F' = fl_cut W sp → F'.length ≤ 30 → (∀ k, k < F'.length → (F'.getD k []).length ≤ 120) → mp_fld i2 m F' → mf m mF_S i i2 → Wf l E n0 mt_Mod_part (d + 1) 0 0 (qV nx t r g (fun i' => mp_fld i' m (fl_cut W sp) ∧ mf m mF_S i i')) 0 0 74 [(0, .ref (m + 0)), (1, .int (nI b)), (2, .int (nI j))] [] nx t r i2 g := fun F' i2 e1 e2 e3 e4 e5 => by
          refine wf_iload_n dc_Mod_part_74 rfl ?_
          refine wf_iconst 1 dc_Mod_part_75 (by decide) ?_
          refine wf_iadd dc_Mod_part_76 ?_
          rw [nI_1]
          refine wf_istore_n dc_Mod_part_77 (by decide) ?_
          refine wf_iinc _ dc_Mod_part_78 rfl (nI_1 j) (by decide) ?_
          refine wf_goto 9 dc_Mod_part_81 (by decide) ?_
          exact Wf.to (by exact ⟨rfl, rfl, rfl, trivial⟩) (ih (j + 1) (j + 1) F' i2 (by omega) (Nat.le_refl _) e1 e2 e3 e4 e5)
        have add : (b < j ∨ (¬ sp = 32 ∧ 0 < W.length)) → Wf l E n0 mt_Mod_part (d + 1) 0 0 (qV nx t r g (fun i' => mp_fld i' m (fl_cut W sp) ∧ mf m mF_S i i')) 0 0 68 [(0, .ref (m + 0)), (1, .int (nI b)), (2, .int (nI j))] [] nx t r i1 g := fun ha => by
          rw [if_pos ha] at he
          have hok := fl_add_ok (x := (W.drop b).take (j - b)) h30 h120 (by rw [List.length_take, List.length_drop]; omega)
          refine wf_aload_n dc_Mod_part_68 rfl ?_
          refine wf_iload_n dc_Mod_part_69 rfl ?_
          refine wf_iload_n dc_Mod_part_70 rfl ?_
          refine wf_iv2 (M' := mt_Mod_field) (c := 8) dc_Mod_part_71 tg_Mod_field ml_Mod_181 im_Mod_field se_Mod_field ⟨_, rfl, rfl⟩ (by assumption) (Nat.le_of_ble_eq_true rfl) (Nat.le_refl _) (Nat.le_refl _) (c_Mod_field hA hW1 hl hF h30 h120 hb (by omega)) qV_nt (qV_go (fun i2 hp => ?_))
          exact Wf.to (by exact ⟨rfl, rfl, rfl, trivial⟩) (nxt _ _ he hok.1 hok.2 hp.1 (mf_ss hf hp.2))
        refine wf_aload_n dc_Mod_part_54 rfl ?_
        refine wf_geti dc_Mod_part_55 fl_Mod_22 rfl (by assumption) ?_
        rw [hs1]
        refine wf_bipush 32 dc_Mod_part_58 (by decide) ?_
        by_cases hsp : sp = 32
        · refine wf_icmp_ne 68 dc_Mod_part_60 (by decide) (fun hc => absurd hsp hc) (fun hc => ?_)
          refine wf_iload_n dc_Mod_part_63 rfl ?_
          refine wf_iload_n dc_Mod_part_64 rfl ?_
          by_cases hbj : b < j
          · refine wf_icmp_le 74 dc_Mod_part_65 (by decide) (fun hc => absurd ((nI_leI (by omega) (by omega)).mp hc) (by omega)) (fun hc => ?_)
            exact Wf.to (by exact ⟨rfl, rfl, rfl, trivial⟩) (add (Or.inl hbj))
          · refine wf_icmp_le 74 dc_Mod_part_65 (by decide) (fun hc => ?_) (fun hc => absurd ((nI_leI (by omega) (by omega)).mpr (by omega)) hc)
            rw [if_neg (fun z => z.elim hbj (fun z => z.1 hsp))] at he
            exact Wf.to (by exact ⟨rfl, rfl, rfl, trivial⟩) (nxt F i1 he h30 h120 hF hf)
        · refine wf_icmp_ne 68 dc_Mod_part_60 (by decide) (fun hc => ?_) (fun hc => absurd (hc) hsp)
          exact Wf.to (by exact ⟨rfl, rfl, rfl, trivial⟩) (add (Or.inr ⟨hsp, by omega⟩))
      by_cases hjW : j = W.length
      · refine wf_icmp_eq 54 dc_Mod_part_35 (by decide) (fun hc => ?_) (fun hc => absurd (by rw [hjW]) hc)
        exact Wf.to (by exact ⟨rfl, rfl, rfl, trivial⟩) (cut (Or.inl hjW))
      · refine wf_icmp_eq 54 dc_Mod_part_35 (by decide) (fun hc => absurd ((nI_eq (by omega) (by omega)).mp hc) hjW) (fun hc => ?_)
        refine wf_aload_n dc_Mod_part_38 rfl ?_
        refine wf_getr dc_Mod_part_39 fl_Mod_7 rfl (by assumption) (by assumption) ?_
        refine wf_bipush 120 dc_Mod_part_42 (by decide) ?_
        refine wf_iload_n dc_Mod_part_44 rfl ?_
        refine wf_iadd dc_Mod_part_45 ?_
        rw [show (120 : Int32) + nI j = nI (120 * 1 + j) from nI_add 120 j]
        refine wf_iaload (y := 0) dc_Mod_part_46 rfl (by assumption) (vp_in_nI (by omega) (by omega)) ?_
        refine wf_aload_n dc_Mod_part_47 rfl ?_
        refine wf_geti dc_Mod_part_48 fl_Mod_22 rfl (by assumption) ?_
        rw [nI_clamp (show 120 * 1 + j < 2 ^ 31 by omega), hW1.2 j (by omega), hs1]
        by_cases hgs : W.getD j 0 = sp
        · refine wf_icmp_ne 78 dc_Mod_part_51 (by decide) (fun hc => absurd hgs hc) (fun hc => ?_)
          exact Wf.to (by exact ⟨rfl, rfl, rfl, trivial⟩) (cut (Or.inr hgs))
        · refine wf_icmp_ne 78 dc_Mod_part_51 (by decide) (fun hc => ?_) (fun hc => absurd (hc) hgs)
          unfold fl_go at he
          rw [if_neg (fun z => z.elim hjW hgs)] at he
          refine wf_iinc _ dc_Mod_part_78 rfl (nI_1 j) (by decide) ?_
          refine wf_goto 9 dc_Mod_part_81 (by decide) ?_
          exact Wf.to (by exact ⟨rfl, rfl, rfl, trivial⟩) (ih (j + 1) b F i1 (by omega) (by omega) he h30 h120 hF hf)
  exact Wf.to (by exact ⟨rfl, rfl, rfl, trivial⟩) (loop (W.length + 1) 0 0 [] _ (by omega) (Nat.le_refl _) rfl (Nat.zero_le _) (fun k hk => absurd hk (Nat.not_lt_zero _)) hF0 f0)
end
