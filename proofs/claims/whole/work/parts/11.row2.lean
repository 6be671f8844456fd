/-! class Row: parts of rows, rows from rows, numbers, order -/
theorem gd_d {v : List Int32} {p k : Nat} : (v.drop p).getD k 0 = v.getD (p + k) 0 := by
  rw [List.getD_eq_getElem?_getD, List.getD_eq_getElem?_getD, List.getElem?_drop]
theorem gd_t {v : List Int32} {m k : Nat} (h : k < m) : (v.take m).getD k 0 = v.getD k 0 := by
  rw [List.getD_eq_getElem?_getD, List.getD_eq_getElem?_getD, List.getElem?_take, if_pos h]
theorem mn_nI {a b : Nat} (ha : a < 2 ^ 31) (hb : b < 2 ^ 31) : (if nI a ≤ nI b then nI a else nI b) = nI (min a b) := by
  by_cases h : a ≤ b
  · rw [if_pos ((nI_leI ha hb).mpr h), Nat.min_eq_left h]
  · rw [if_neg (fun q => h ((nI_leI ha hb).mp q)), Nat.min_eq_right (by omega)]
section
variable {l : Launch} {E : We} {n0 d nx : Nat} {t : Wt} {r : Wr} {i : Wi} {g : Wl}
/-- signs p .. q of row b (v) come behind row a's (w), as far as they fit -/
theorem c_Row_addPart {a s n b s2 n2 p q : Nat} {w v : List Int32} (hA : rw_at t r a s n) (hw : rw_is i a s w) (hl : w.length ≤ n) (hB : rw_at t r b s2 n2) (hv : rw_is i b s2 v) (hl2 : v.length ≤ n2) (hss : s ≠ s2) (hpq : p ≤ q) (hq : q ≤ v.length) :
    Ct l E n0 mt_Row_addPart (d + 1) 0 0 [.ref a, .ref b, .int (nI p), .int (nI q)] nx t r i g (qV nx t r g (fun i' => rw_is i' a s (w ++ (v.drop p).take (min (q - p) (n - w.length))) ∧ fr_is [a, s] i i')) := by
  have hne := hA.ne
  obtain ⟨ha, hr, hs, hn⟩ := hA
  obtain ⟨h1, h2⟩ := hw
  obtain ⟨hb, hrb, hsb, hnb⟩ := hB
  obtain ⟨g1, g2⟩ := hv
  refine Ct.of (by decide) (Nat.le_of_ble_eq_true rfl) ?_
  refine wf_iload_n dc_Row_addPart_0 rfl ?_
  refine wf_iload_n dc_Row_addPart_1 rfl ?_
  refine wf_isub dc_Row_addPart_2 ?_
  refine wf_aload_n dc_Row_addPart_3 rfl ?_
  refine wf_getr dc_Row_addPart_4 fl_Row_9 rfl (by assumption) (by assumption) ?_
  refine wf_alen dc_Row_addPart_7 (by assumption) ?_
  refine wf_aload_n dc_Row_addPart_8 rfl ?_
  refine wf_geti dc_Row_addPart_9 fl_Row_15 rfl (by assumption) ?_
  rw [h1]
  refine wf_isub dc_Row_addPart_12 ?_
  rw [pk_sub hpq, pk_sub hl]
  refine wf_is2 (M' := mt_Mth_min) dc_Row_addPart_13 tg_Mth_min ml_Row_19 sm_Mth_min (Nat.le_of_ble_eq_true rfl) (Nat.le_refl _) (Nat.le_refl _) (c_Mth_min) qI_nt (qI_go (fun x2 i2 hp => ?_))
  obtain ⟨hx, rfl⟩ := hp
  rw [mn_nI (by omega) (by omega)] at hx
  subst hx
  refine wf_istore dc_Row_addPart_16 (by decide) ?_
  refine wf_iload dc_Row_addPart_18 rfl ?_
  refine wf_if_le 52 dc_Row_addPart_20 (by decide) (fun hc => ?_) (fun hc => ?_)
  · have h0 : min (q - p) (n - w.length) = 0 := by
      have h3 := (nI_leI (a := min (q - p) (n - w.length)) (b := 0) (by omega) (by omega)).mp hc
      omega
    exact wf_return rfl dc_Row_addPart_52 ⟨rfl, rfl, rfl, rfl, rfl, by rw [h0, List.take_zero, List.append_nil]; exact ⟨h1, h2⟩, fr_rf⟩
  · refine wf_aload_n dc_Row_addPart_23 rfl ?_
    refine wf_getr dc_Row_addPart_24 fl_Row_9 rfl (by assumption) (by assumption) ?_
    refine wf_iload_n dc_Row_addPart_27 rfl ?_
    refine wf_aload_n dc_Row_addPart_28 rfl ?_
    refine wf_getr dc_Row_addPart_29 fl_Row_9 rfl (by assumption) (by assumption) ?_
    refine wf_aload_n dc_Row_addPart_32 rfl ?_
    refine wf_geti dc_Row_addPart_33 fl_Row_15 rfl (by assumption) ?_
    rw [h1]
    have hcl : (nI (min (q - p) (n - w.length))).toNatClampNeg = min (q - p) (n - w.length) := nI_clamp (by omega)
    have hcp : (nI p).toNatClampNeg = p := nI_clamp (by omega)
    have hcw : (nI w.length).toNatClampNeg = w.length := nI_clamp (by omega)
    refine wf_iload dc_Row_addPart_36 rfl ?_
    refine wf_copy dc_Row_addPart_38 ml_Row_25 (by assumption) (by assumption) (nI_pos (by omega)) (nI_pos (by omega)) (nI_pos (by omega)) (by rw [hcl, hcp]; omega) (by rw [hcl, hcw]; omega) (Nat.le_of_ble_eq_true rfl) ?_
    rw [hcl, hcp, hcw]
    refine wf_aload_n dc_Row_addPart_41 rfl ?_
    refine wf_dup dc_Row_addPart_42 rfl ?_
    refine wf_geti dc_Row_addPart_43 fl_Row_15 rfl (by assumption) ?_
    refine wf_iload dc_Row_addPart_46 rfl ?_
    refine wf_iadd dc_Row_addPart_48 ?_
    rw [wf_cp_a hne, h1, nI_add]
    refine wf_puti dc_Row_addPart_49 fl_Row_15 (Or.inl nf_Row_1) rfl rfl rfl (by assumption) ?_
    have hlen : ((v.drop p).take (min (q - p) (n - w.length))).length = min (q - p) (n - w.length) := by
      rw [List.length_take, List.length_drop]
      omega
    refine wf_return rfl dc_Row_addPart_52 ⟨rfl, rfl, rfl, rfl, rfl, ⟨?_, ?_⟩, ?_⟩
    · rw [wf_up_s, List.length_append, hlen]
    · intro j hj
      rw [List.length_append, hlen] at hj
      rw [wf_up_a hne.symm]
      by_cases hj2 : j < w.length
      · rw [wf_cp_k (by omega), h2 j hj2, gd_l hj2]
      · rw [wf_cp_in (by omega) (by omega), show j = w.length + (j - w.length) by omega, gd_r, gd_t (by omega), gd_d]
        rw [g2 _ (by omega)]
        congr 1
        omega
    · exact fr_up (fun x hx k => wf_cp_a (fun q => hx (by rw [q]; simp))) (by simp)
theorem c_Row_addAll {a s n b s2 n2 : Nat} {w v : List Int32} (hA : rw_at t r a s n) (hw : rw_is i a s w) (hl : w.length ≤ n) (hB : rw_at t r b s2 n2) (hv : rw_is i b s2 v) (hl2 : v.length ≤ n2) (hss : s ≠ s2) :
    Ct l E n0 mt_Row_addAll (d + 2) 0 0 [.ref a, .ref b] nx t r i g (qV nx t r g (fun i' => rw_is i' a s (w ++ v.take (n - w.length)) ∧ fr_is [a, s] i i')) := by
  have ha := hA.1
  have hb := hB.1
  refine Ct.of (by decide) (Nat.le_of_ble_eq_true rfl) ?_
  refine wf_aload_n dc_Row_addAll_0 rfl ?_
  refine wf_aload_n dc_Row_addAll_1 rfl ?_
  refine wf_iconst 0 dc_Row_addAll_2 (by decide) ?_
  refine wf_aload_n dc_Row_addAll_3 rfl ?_
  refine wf_geti dc_Row_addAll_4 fl_Row_15 rfl (by assumption) ?_
  rw [hv.1]
  refine wf_iv3 (M' := mt_Row_addPart) (c := 5) dc_Row_addAll_7 tg_Row_addPart ml_Row_31 im_Row_addPart se_Row_addPart ⟨_, rfl, rfl⟩ (by assumption) (Nat.le_of_ble_eq_true rfl) (Nat.le_refl _) (Nat.le_refl _) (c_Row_addPart (p := 0) hA hw hl hB hv hl2 hss (Nat.zero_le _) (Nat.le_refl _)) qV_nt (qV_go (fun i2 hp => ?_))
  refine wf_return rfl dc_Row_addAll_10 ⟨rfl, rfl, rfl, rfl, rfl, ?_, hp.2⟩
  have h := hp.1
  rw [List.drop_zero, Nat.sub_zero] at h
  have e : v.take (min v.length (n - w.length)) = v.take (n - w.length) := by
    by_cases h3 : v.length ≤ n - w.length
    · rw [Nat.min_eq_left h3, List.take_length, List.take_of_length_le h3]
    · rw [Nat.min_eq_right (by omega)]
  rw [e] at h
  exact h
/-- row a becomes row b (which may be a) -/
theorem c_Row_become {a s n b s2 n2 : Nat} {v : List Int32} (hA : rw_at t r a s n) (hB : rw_at t r b s2 n2) (hv : rw_is i b s2 v) (hl2 : v.length ≤ n2) :
    Ct l E n0 mt_Row_become (d + 1) 0 0 [.ref a, .ref b] nx t r i g (qV nx t r g (fun i' => rw_is i' a s (v.take n) ∧ fr_is [a, s] i i')) := by
  have hne := hA.ne
  obtain ⟨ha, hr, hs, hn⟩ := hA
  obtain ⟨hb, hrb, hsb, hnb⟩ := hB
  obtain ⟨g1, g2⟩ := hv
  refine Ct.of (by decide) (Nat.le_of_ble_eq_true rfl) ?_
  refine wf_aload_n dc_Row_become_0 rfl ?_
  refine wf_geti dc_Row_become_1 fl_Row_15 rfl (by assumption) ?_
  rw [g1]
  refine wf_aload_n dc_Row_become_4 rfl ?_
  refine wf_getr dc_Row_become_5 fl_Row_9 rfl (by assumption) (by assumption) ?_
  refine wf_alen dc_Row_become_8 (by assumption) ?_
  refine wf_is2 (M' := mt_Mth_min) dc_Row_become_9 tg_Mth_min ml_Row_19 sm_Mth_min (Nat.le_of_ble_eq_true rfl) (Nat.le_refl _) (Nat.le_refl _) (c_Mth_min) qI_nt (qI_go (fun x2 i2 hp => ?_))
  obtain ⟨hx, rfl⟩ := hp
  rw [mn_nI (by omega) (by omega)] at hx
  subst hx
  have hcl : (nI (min v.length n)).toNatClampNeg = min v.length n := nI_clamp (by omega)
  have hc0 : (0 : Int32).toNatClampNeg = 0 := by decide
  refine wf_istore_n dc_Row_become_12 (by decide) ?_
  refine wf_aload_n dc_Row_become_13 rfl ?_
  refine wf_getr dc_Row_become_14 fl_Row_9 rfl (by assumption) (by assumption) ?_
  refine wf_iconst 0 dc_Row_become_17 (by decide) ?_
  refine wf_aload_n dc_Row_become_18 rfl ?_
  refine wf_getr dc_Row_become_19 fl_Row_9 rfl (by assumption) (by assumption) ?_
  refine wf_iconst 0 dc_Row_become_22 (by decide) ?_
  refine wf_iload_n dc_Row_become_23 rfl ?_
  refine wf_copy dc_Row_become_24 ml_Row_25 (by assumption) (by assumption) (by decide) (by decide) (nI_pos (by omega)) (by rw [hcl, hc0]; omega) (by rw [hcl, hc0]; omega) (Nat.le_of_ble_eq_true rfl) ?_
  rw [hcl, hc0]
  refine wf_aload_n dc_Row_become_27 rfl ?_
  refine wf_iload_n dc_Row_become_28 rfl ?_
  refine wf_puti dc_Row_become_29 fl_Row_15 (Or.inl nf_Row_1) rfl rfl rfl (by assumption) ?_
  have hlen : (v.take n).length = min v.length n := by
    rw [List.length_take]
    omega
  refine wf_return rfl dc_Row_become_32 ⟨rfl, rfl, rfl, rfl, rfl, ⟨?_, ?_⟩, ?_⟩
  · rw [wf_up_s, hlen]
  · intro j hj
    rw [hlen] at hj
    rw [wf_up_a hne.symm, wf_cp_in (by omega) (by omega), gd_t (by omega), Nat.zero_add, Nat.sub_zero]
    exact g2 j (by omega)
  · exact fr_up (fun x hx k => wf_cp_a (fun q => hx (by rw [q]; simp))) (by simp)
/-- two rows, compared -/
def cm_go : List Int32 → List Int32 → Int32
  | x :: w, y :: v => if x = y then cm_go w v else x - y
  | w, v => nI w.length - nI v.length
theorem cm_step {w v : List Int32} {j : Nat} (h1 : j < w.length) (h2 : j < v.length) : cm_go (w.drop j) (v.drop j) = if w.getD j 0 = v.getD j 0 then cm_go (w.drop (j + 1)) (v.drop (j + 1)) else w.getD j 0 - v.getD j 0 := by
  rw [List.drop_eq_getElem_cons h1, List.drop_eq_getElem_cons h2]
  simp only [cm_go, List.getD_eq_getElem?_getD, List.getElem?_eq_getElem h1, List.getElem?_eq_getElem h2, Option.getD_some]
theorem cm_end {w v : List Int32} {j : Nat} (hj : j ≤ w.length) (hj2 : j ≤ v.length) (h : j = w.length ∨ j = v.length) (hw : w.length < 2 ^ 31) (hv : v.length < 2 ^ 31) : cm_go (w.drop j) (v.drop j) = nI w.length - nI v.length := by
  have e : ∀ a b : List Int32, (a = [] ∨ b = []) → cm_go a b = nI a.length - nI b.length := by
    intro a b h
    rcases h with rfl | rfl
    · cases b <;> rfl
    · cases a <;> rfl
  rw [e _ _ (by rcases h with h | h; exact Or.inl (by rw [h, List.drop_length]); exact Or.inr (by rw [h, List.drop_length]))]
  rw [List.length_drop, List.length_drop, ← pk_sub hj, ← pk_sub hj2]
  apply Int32.toBitVec_inj.mp
  simp
  bv_omega
theorem c_Row_compareWith {a s n b s2 n2 : Nat} {w v : List Int32} (hA : rw_at t r a s n) (hw : rw_is i a s w) (hl : w.length ≤ n) (hB : rw_at t r b s2 n2) (hv : rw_is i b s2 v) (hl2 : v.length ≤ n2) :
    Ct l E n0 mt_Row_compareWith (d + 1) 0 0 [.ref a, .ref b] nx t r i g (qI nx t r g (fun z i' => z = cm_go w v ∧ i' = i)) := by
  obtain ⟨ha, hr, hs, hn⟩ := hA
  obtain ⟨h1, h2⟩ := hw
  obtain ⟨hb, hrb, hsb, hnb⟩ := hB
  obtain ⟨g1, g2⟩ := hv
  refine Ct.of (by decide) (Nat.le_of_ble_eq_true rfl) ?_
  refine wf_aload_n dc_Row_compareWith_0 rfl ?_
  refine wf_geti dc_Row_compareWith_1 fl_Row_15 rfl (by assumption) ?_
  rw [h1]
  refine wf_aload_n dc_Row_compareWith_4 rfl ?_
  refine wf_geti dc_Row_compareWith_5 fl_Row_15 rfl (by assumption) ?_
  rw [g1]
  refine wf_is2 (M' := mt_Mth_min) dc_Row_compareWith_8 tg_Mth_min ml_Row_19 sm_Mth_min (Nat.le_of_ble_eq_true rfl) (Nat.le_refl _) (Nat.le_refl _) (c_Mth_min) qI_nt (qI_go (fun x2 i2 hp => ?_))
  obtain ⟨hx, rfl⟩ := hp
  rw [mn_nI (by omega) (by omega)] at hx
  subst hx
  refine wf_istore_n dc_Row_compareWith_11 (by decide) ?_
  refine wf_iconst 0 dc_Row_compareWith_12 (by decide) ?_
  refine wf_istore_n dc_Row_compareWith_13 (by decide) ?_
  have loop : ∀ k j : Nat, j + k = min w.length v.length → cm_go (w.drop j) (v.drop j) = cm_go w v → Wf l E n0 mt_Row_compareWith (d + 1) 0 0 (qI nx t r g (fun z i' => z = cm_go w v ∧ i' = i2)) 0 0 14 [(0, .ref a), (1, .ref b), (2, .int (nI (min w.length v.length))), (3, .int (nI j))] [] nx t r i2 g := by
    intro k
    induction k with
    | zero =>
      intro j hj he
      refine wf_iload_n dc_Row_compareWith_14 rfl ?_
      refine wf_iload_n dc_Row_compareWith_15 rfl ?_
      refine wf_icmp_ge 54 dc_Row_compareWith_16 (by decide) (fun hc => ?_) (fun hc => absurd ((nI_leI (by omega) (by omega)).mpr (by omega)) hc)
      refine wf_aload_n dc_Row_compareWith_54 rfl ?_
      refine wf_geti dc_Row_compareWith_55 fl_Row_15 rfl (by assumption) ?_
      rw [h1]
      refine wf_aload_n dc_Row_compareWith_58 rfl ?_
      refine wf_geti dc_Row_compareWith_59 fl_Row_15 rfl (by assumption) ?_
      rw [g1]
      refine wf_isub dc_Row_compareWith_62 ?_
      refine wf_ireturn rfl dc_Row_compareWith_63 ⟨_, rfl, rfl, rfl, rfl, rfl, ?_, rfl⟩
      rw [← he]
      exact (cm_end (by omega) (by omega) (by omega) (by omega) (by omega)).symm
    | succ k ih =>
      intro j hj he
      refine wf_iload_n dc_Row_compareWith_14 rfl ?_
      refine wf_iload_n dc_Row_compareWith_15 rfl ?_
      refine wf_icmp_ge 54 dc_Row_compareWith_16 (by decide) (fun hc => absurd ((nI_leI (by omega) (by omega)).mp hc) (by omega)) (fun hc => ?_)
      have hjw : j < w.length := by omega
      have hjv : j < v.length := by omega
      have hcj : (nI j).toNatClampNeg = j := nI_clamp (by omega)
      refine wf_aload_n dc_Row_compareWith_19 rfl ?_
      refine wf_getr dc_Row_compareWith_20 fl_Row_9 rfl (by assumption) (by assumption) ?_
      refine wf_iload_n dc_Row_compareWith_23 rfl ?_
      refine wf_iaload (y := 0) dc_Row_compareWith_24 rfl (by assumption) (vp_in_nI (by omega) (by omega)) ?_
      refine wf_aload_n dc_Row_compareWith_25 rfl ?_
      refine wf_getr dc_Row_compareWith_26 fl_Row_9 rfl (by assumption) (by assumption) ?_
      refine wf_iload_n dc_Row_compareWith_29 rfl ?_
      refine wf_iaload (y := 0) dc_Row_compareWith_30 rfl (by assumption) (vp_in_nI (by omega) (by omega)) ?_
      rw [hcj, h2 j hjw, g2 j hjv]
      rw [cm_step hjw hjv] at he
      refine wf_icmp_eq 48 dc_Row_compareWith_31 (by decide) (fun hc2 => ?_) (fun hc2 => ?_)
      · rw [if_pos hc2] at he
        refine wf_iinc _ dc_Row_compareWith_48 rfl (nI_1 j) (by decide) ?_
        refine wf_goto 14 dc_Row_compareWith_51 (by decide) ?_
        exact Wf.to (by exact ⟨rfl, rfl, rfl, rfl, trivial⟩) (ih (j + 1) (by omega) he)
      · rw [if_neg hc2] at he
        refine wf_aload_n dc_Row_compareWith_34 rfl ?_
        refine wf_getr dc_Row_compareWith_35 fl_Row_9 rfl (by assumption) (by assumption) ?_
        refine wf_iload_n dc_Row_compareWith_38 rfl ?_
        refine wf_iaload (y := 0) dc_Row_compareWith_39 rfl (by assumption) (vp_in_nI (by omega) (by omega)) ?_
        refine wf_aload_n dc_Row_compareWith_40 rfl ?_
        refine wf_getr dc_Row_compareWith_41 fl_Row_9 rfl (by assumption) (by assumption) ?_
        refine wf_iload_n dc_Row_compareWith_44 rfl ?_
        refine wf_iaload (y := 0) dc_Row_compareWith_45 rfl (by assumption) (vp_in_nI (by omega) (by omega)) ?_
        rw [hcj, h2 j hjw, g2 j hjv]
        refine wf_isub dc_Row_compareWith_46 ?_
        exact wf_ireturn rfl dc_Row_compareWith_47 ⟨_, rfl, rfl, rfl, rfl, rfl, he, rfl⟩
  exact Wf.to (by exact ⟨rfl, rfl, rfl, rfl, trivial⟩) (loop _ 0 (Nat.zero_add _) rfl)
end
