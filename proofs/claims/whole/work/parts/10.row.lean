/-! Math.min, Math.floorMod; class Row: an object (class 5) with its int array: a row of signs, the list w -/
section
variable {l : Launch} {E : We} {n0 d nx : Nat} {t : Wt} {r : Wr} {i : Wi} {g : Wl}
theorem c_Mth_min {x y : Int32} : Ct l E n0 mt_Mth_min d 0 0 [.int x, .int y] nx t r i g (qI nx t r g (fun z i' => z = (if x ≤ y then x else y) ∧ i' = i)) := by
  refine Ct.ofF (by decide +kernel) (Nat.le_of_ble_eq_true rfl) ?_
  refine wf_iload_n dc_Mth_min_0 rfl ?_
  refine wf_iload_n dc_Mth_min_1 rfl ?_
  refine wf_icmp_gt 9 dc_Mth_min_2 (by decide) (fun hc => ?_) (fun hc => ?_)
  · refine wf_iload_n dc_Mth_min_9 rfl ?_
    exact wf_ireturn rfl dc_Mth_min_10 ⟨y, rfl, rfl, rfl, rfl, rfl, by rw [if_neg (Int32.not_le.mpr hc)], rfl⟩
  · refine wf_iload_n dc_Mth_min_5 rfl ?_
    refine wf_goto 10 dc_Mth_min_6 (by decide) ?_
    exact wf_ireturn rfl dc_Mth_min_10 ⟨x, rfl, rfl, rfl, rfl, rfl, by rw [if_pos (Int32.not_lt.mp hc)], rfl⟩
theorem gd_l {w v : List Int32} {j : Nat} (h : j < w.length) : (w ++ v).getD j 0 = w.getD j 0 := by
  rw [List.getD_eq_getElem?_getD, List.getD_eq_getElem?_getD, List.getElem?_append_left h]
theorem gd_r {w v : List Int32} {j : Nat} : (w ++ v).getD (w.length + j) 0 = v.getD j 0 := by
  rw [List.getD_eq_getElem?_getD, List.getD_eq_getElem?_getD, List.getElem?_append_right (Nat.le_add_right _ _), Nat.add_sub_cancel_left]
/-- row object a with array s of n places -/
def rw_at (t : Wt) (r : Wr) (a s n : Nat) : Prop := t a = some (.inl 5) ∧ r a 0 = some s ∧ t s = some (.inr (0, n)) ∧ n ≤ 120
/-- it holds w -/
def rw_is (i : Wi) (a s : Nat) (w : List Int32) : Prop := i a 1 = nI w.length ∧ ∀ j, j < w.length → i s j = w.getD j 0
theorem rw_at.ne {a s n : Nat} (h : rw_at t r a s n) : a ≠ s := fun q => by
  obtain ⟨h1, -, h3, -⟩ := h
  rw [q, h3] at h1
  cases h1
theorem rw_is.fr {i' : Wi} {a s : Nat} {w : List Int32} {S : List Nat} (h : rw_is i a s w) (hf : fr_is S i i') (ha : a ∉ S) (hs : s ∉ S) : rw_is i' a s w := ⟨(hf a ha 1).trans h.1, fun j hj => (hf s hs j).trans (h.2 j hj)⟩
theorem c_Row_drop {a s n : Nat} (hA : rw_at t r a s n) : Ct l E n0 mt_Row_drop d 0 0 [.ref a] nx t r i g (qV nx t r g (fun i' => rw_is i' a s [] ∧ fr_is [a] i i')) := by
  obtain ⟨ha, hr, hs, hn⟩ := hA
  refine Ct.of (by decide) (Nat.le_of_ble_eq_true rfl) ?_
  refine wf_aload_n dc_Row_drop_0 rfl ?_
  refine wf_iconst 0 dc_Row_drop_1 (by decide) ?_
  refine wf_puti dc_Row_drop_2 fl_Row_15 (Or.inl nf_Row_1) rfl rfl rfl (by assumption) ?_
  exact wf_return rfl dc_Row_drop_5 ⟨rfl, rfl, rfl, rfl, rfl, ⟨wf_up_s, fun j hj => absurd hj (Nat.not_lt_zero _)⟩, fr_up fr_rf List.mem_cons_self⟩
theorem c_Row_has {a s n : Nat} {j : Int32} {w : List Int32} (hA : rw_at t r a s n) (hw : rw_is i a s w) (hl : w.length ≤ n) : Ct l E n0 mt_Row_has d 0 0 [.ref a, .int j] nx t r i g (qI nx t r g (fun z i' => z = (if ¬ j < 0 ∧ j < nI w.length then 1 else 0) ∧ i' = i)) := by
  obtain ⟨ha, hr, hs, hn⟩ := hA
  obtain ⟨h1, h2⟩ := hw
  refine Ct.of (by decide) (Nat.le_of_ble_eq_true rfl) ?_
  refine wf_iload_n dc_Row_has_0 rfl ?_
  refine wf_if_lt 16 dc_Row_has_1 (by decide) (fun hc => ?_) (fun hc => ?_)
  · refine wf_iconst 0 dc_Row_has_16 (by decide) ?_
    exact wf_zreturn rfl rfl dc_Row_has_17 ⟨0, rfl, rfl, rfl, rfl, rfl, by rw [if_neg (fun q => q.1 hc)], rfl⟩
  · refine wf_iload_n dc_Row_has_4 rfl ?_
    refine wf_aload_n dc_Row_has_5 rfl ?_
    refine wf_geti dc_Row_has_6 fl_Row_15 rfl (by assumption) ?_
    rw [h1]
    refine wf_icmp_ge 16 dc_Row_has_9 (by decide) (fun hc2 => ?_) (fun hc2 => ?_)
    · refine wf_iconst 0 dc_Row_has_16 (by decide) ?_
      exact wf_zreturn rfl rfl dc_Row_has_17 ⟨0, rfl, rfl, rfl, rfl, rfl, by rw [if_neg (fun q => Int32.not_lt.mpr hc2 q.2)], rfl⟩
    · refine wf_iconst 1 dc_Row_has_12 (by decide) ?_
      refine wf_goto 17 dc_Row_has_13 (by decide) ?_
      exact wf_zreturn rfl rfl dc_Row_has_17 ⟨1, rfl, rfl, rfl, rfl, rfl, by rw [if_pos ⟨hc, Int32.not_le.mp hc2⟩], rfl⟩
theorem c_Row_add {a s n : Nat} {x : Int32} {w : List Int32} (hA : rw_at t r a s n) (hw : rw_is i a s w) (hl : w.length ≤ n) : Ct l E n0 mt_Row_add d 0 0 [.ref a, .int x] nx t r i g (qV nx t r g (fun i' => rw_is i' a s (if w.length < n then w ++ [x] else w) ∧ fr_is [a, s] i i')) := by
  have hne := hA.ne
  obtain ⟨ha, hr, hs, hn⟩ := hA
  obtain ⟨h1, h2⟩ := hw
  refine Ct.of (by decide) (Nat.le_of_ble_eq_true rfl) ?_
  refine wf_aload_n dc_Row_add_0 rfl ?_
  refine wf_geti dc_Row_add_1 fl_Row_15 rfl (by assumption) ?_
  refine wf_aload_n dc_Row_add_4 rfl ?_
  refine wf_getr dc_Row_add_5 fl_Row_9 rfl (by assumption) (by assumption) ?_
  refine wf_alen dc_Row_add_8 (by assumption) ?_
  rw [h1]
  refine wf_icmp_ge 32 dc_Row_add_9 (by decide) (fun hc => ?_) (fun hc => ?_)
  · have hge : n ≤ w.length := (nI_leI (by omega) (by omega)).mp hc
    exact wf_return rfl dc_Row_add_32 ⟨rfl, rfl, rfl, rfl, rfl, by rw [if_neg (by omega)]; exact ⟨h1, h2⟩, fr_rf⟩
  · have hlt : w.length < n := Nat.not_le.mp fun q => hc ((nI_leI (by omega) (by omega)).mpr q)
    refine wf_aload_n dc_Row_add_12 rfl ?_
    refine wf_getr dc_Row_add_13 fl_Row_9 rfl (by assumption) (by assumption) ?_
    refine wf_aload_n dc_Row_add_16 rfl ?_
    refine wf_geti dc_Row_add_17 fl_Row_15 rfl (by assumption) ?_
    rw [h1]
    refine wf_iload_n dc_Row_add_20 rfl ?_
    refine wf_iastore (y := 0) dc_Row_add_21 rfl (by decide) (by assumption) (vp_in_nI hlt (by omega)) ?_
    rw [nI_clamp (by omega)]
    refine wf_aload_n dc_Row_add_22 rfl ?_
    refine wf_dup dc_Row_add_23 rfl ?_
    refine wf_geti dc_Row_add_24 fl_Row_15 rfl (by assumption) ?_
    refine wf_iconst 1 dc_Row_add_27 (by decide) ?_
    refine wf_iadd dc_Row_add_28 ?_
    refine wf_puti dc_Row_add_29 fl_Row_15 (Or.inl nf_Row_1) rfl rfl rfl (by assumption) ?_
    rw [wf_up_a hne, h1, nI_1]
    refine wf_return rfl dc_Row_add_32 ⟨rfl, rfl, rfl, rfl, rfl, ⟨?_, ?_⟩, ?_⟩
    · rw [wf_up_s, if_pos hlt, List.length_append]
      rfl
    · rw [if_pos hlt]
      intro j hj
      rw [List.length_append] at hj
      have hj : j < w.length + 1 := hj
      rw [wf_up_a hne.symm]
      by_cases hj2 : j = w.length
      · rw [hj2, wf_up_s]
        exact (gd_r (w := w) (v := [x]) (j := 0)).symm
      · rw [wf_up_k hj2, h2 j (by omega), gd_l (by omega)]
    · exact fr_up (fr_up fr_rf (by simp)) (by simp)
end
