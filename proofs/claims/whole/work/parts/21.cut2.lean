section
variable {l : Launch} {E : We} {n0 d nx : Nat} {t : Wt} {r : Wr} {i : Wi} {g : Wl}
theorem cu_up {a fA : Nat} {P R : Nat → Nat} {v : Int32} {k : Nat} {w : List Int32} (hA : cu_at t r a fA P R) (hk : k < 33) (hw : rw_is i (P k) (R k) w) : rw_is (wf_up i a 1 v) (P k) (R k) w := ⟨(wf_up_a (hA.na hk).1.symm).trans hw.1, fun j hj => (wf_up_a (hA.na hk).2.symm).trans (hw.2 j hj)⟩
/-- no field -/
theorem cu_nil {a fA : Nat} {P R : Nat → Nat} {W : List Int32} {F : List (List Int32)} (hA : cu_at t r a fA P R) (hI : cu_is i a P R W F) : cu_is (wf_up i a 1 0) a P R W [] := ⟨wf_up_s, by simp, ⟨cu_up hA (by omega) hI.2.2.1.1, hI.2.2.1.2⟩, fun k hk => absurd hk (Nat.not_lt_zero _), (wf_up_a (hA.na (k := 32) (by omega)).1.symm).trans hI.2.2.2.2⟩
theorem c_Cut_cut {a fA : Nat} {P R : Nat → Nat} {W : List Int32} {F : List (List Int32)} {sp : Int32} (hA : cu_at t r a fA P R) (hI : cu_is i a P R W F) :
    Ct l E n0 mt_Cut_cut (d + 3) 0 0 [.ref a, .int sp] nx t r i g (qV nx t r g (fun i' => cu_is i' a P R W (fl_cut W sp) ∧ fr_is (cu_fp a P R) i i')) := by
  have hA' := hA
  obtain ⟨ha, r0, r2, r3, r4, tA, hP, hrw, hab, hinj⟩ := hA
  obtain ⟨tW, rW, tR, -⟩ := hrw 30 (by omega)
  have hI0 := cu_nil hA' hI
  have hf0 : fr_is (cu_fp a P R) i (wf_up i a 1 0) := fr_up fr_rf cu_in_a
  have hWl := hI.2.2.1.2
  refine Ct.of (by decide) (Nat.le_of_ble_eq_true rfl) ?_
  refine wf_aload_n dc_Cut_cut_0 rfl ?_
  refine wf_iconst 0 dc_Cut_cut_1 (by decide) ?_
  refine wf_puti dc_Cut_cut_2 fl_Cut_37 (Or.inl nf_Cut_1) rfl rfl rfl (by assumption) ?_
  refine wf_iload_n dc_Cut_cut_5 rfl ?_
  refine wf_bipush 32 dc_Cut_cut_6 (by decide) ?_
  generalize wf_up i a 1 0 = i0 at hI0 hf0 ⊢
  have loop : ∀ (te : Int32), (te = if ¬ sp = 32 ∧ 0 < W.length then 1 else 0) → ∀ (k j b : Nat) (i1 : Wi) (F1 : List (List Int32)), j + k = W.length + 1 → b ≤ j → cu_is i1 a P R W F1 → fr_is (cu_fp a P R) i i1 → fl_go W sp k j b F1 = fl_cut W sp →
      Wf l E n0 mt_Cut_cut (d + 3) 0 0 (qV nx t r g (fun i' => cu_is i' a P R W (fl_cut W sp) ∧ fr_is (cu_fp a P R) i i')) 0 0 32 [(0, .ref a), (1, .int sp), (2, .int te), (3, .int (nI b)), (4, .int (nI j))] [] nx t r i1 g := by
    intro te hte k
    induction k with
    | zero =>
      intro j b i1 F1 hj hb hI1 hf1 hg
      refine wf_iload dc_Cut_cut_32 rfl ?_
      refine wf_aload_n dc_Cut_cut_34 rfl ?_
      refine wf_getr dc_Cut_cut_35 fl_Cut_14 rfl (by assumption) (by assumption) ?_
      refine wf_geti dc_Cut_cut_38 fl_Cut_41 rfl (by assumption) ?_
      rw [hI1.2.2.1.1.1]
      refine wf_icmp_gt 98 dc_Cut_cut_41 (by decide) (fun hc => ?_) (fun hc => absurd ((nI_ltI (by omega) (by omega)).mpr (by omega)) hc)
      exact wf_return rfl dc_Cut_cut_98 ⟨rfl, rfl, rfl, rfl, rfl, by rw [← hg]; exact hI1, hf1⟩
    | succ k ih =>
      intro j b i1 F1 hj hb hI1 hf1 hg
      unfold fl_go at hg
      have step : ∀ (F2 : List (List Int32)) (b2 : Nat) (i2 : Wi), b2 ≤ j + 1 → cu_is i2 a P R W F2 → fr_is (cu_fp a P R) i i2 → fl_go W sp k (j + 1) b2 F2 = fl_cut W sp → Wf l E n0 mt_Cut_cut (d + 3) 0 0 (qV nx t r g (fun i' => cu_is i' a P R W (fl_cut W sp) ∧ fr_is (cu_fp a P R) i i')) 0 0 92 [(0, .ref a), (1, .int sp), (2, .int te), (3, .int (nI b2)), (4, .int (nI j))] [] nx t r i2 g := by
        intro F2 b2 i2 hb2 hI2 hf2 hg2
        refine wf_iinc _ dc_Cut_cut_92 rfl (nI_1 j) (by decide) ?_
        refine wf_goto 32 dc_Cut_cut_95 (by decide) ?_
        exact Wf.to (by exact ⟨rfl, rfl, rfl, rfl, rfl, trivial⟩) (ih (j + 1) b2 i2 F2 (by omega) hb2 hI2 hf2 hg2)
      have field : (j = W.length ∨ W.getD j 0 = sp) → Wf l E n0 mt_Cut_cut (d + 3) 0 0 (qV nx t r g (fun i' => cu_is i' a P R W (fl_cut W sp) ∧ fr_is (cu_fp a P R) i i')) 0 0 70 [(0, .ref a), (1, .int sp), (2, .int te), (3, .int (nI b)), (4, .int (nI j))] [] nx t r i1 g := by
        intro hcnd
        rw [if_pos hcnd] at hg
        have after : ∀ (F2 : List (List Int32)) (i2 : Wi), cu_is i2 a P R W F2 → fr_is (cu_fp a P R) i i2 → fl_go W sp k (j + 1) (j + 1) F2 = fl_cut W sp → Wf l E n0 mt_Cut_cut (d + 3) 0 0 (qV nx t r g (fun i' => cu_is i' a P R W (fl_cut W sp) ∧ fr_is (cu_fp a P R) i i')) 0 0 87 [(0, .ref a), (1, .int sp), (2, .int te), (3, .int (nI b)), (4, .int (nI j))] [] nx t r i2 g := by
          intro F2 i2 hI2 hf2 hg2
          refine wf_iload dc_Cut_cut_87 rfl ?_
          refine wf_iconst 1 dc_Cut_cut_89 (by decide) ?_
          refine wf_iadd dc_Cut_cut_90 ?_
          rw [nI_1]
          refine wf_istore_n dc_Cut_cut_91 (by decide) ?_
          exact Wf.to (by exact ⟨rfl, rfl, rfl, rfl, rfl, trivial⟩) (step F2 (j + 1) i2 (by omega) hI2 hf2 hg2)
        have put : (b < j ∨ (¬ sp = 32 ∧ 0 < W.length)) → Wf l E n0 mt_Cut_cut (d + 3) 0 0 (qV nx t r g (fun i' => cu_is i' a P R W (fl_cut W sp) ∧ fr_is (cu_fp a P R) i i')) 0 0 80 [(0, .ref a), (1, .int sp), (2, .int te), (3, .int (nI b)), (4, .int (nI j))] [] nx t r i1 g := by
          intro hput
          rw [if_pos hput] at hg
          refine wf_aload_n dc_Cut_cut_80 rfl ?_
          refine wf_iload_n dc_Cut_cut_81 rfl ?_
          refine wf_iload dc_Cut_cut_82 rfl ?_
          refine wf_iv2 (M' := mt_Cut_addField) (c := 1) dc_Cut_cut_84 tg_Cut_addField ml_Cut_48 im_Cut_addField se_Cut_addField ⟨_, rfl, rfl⟩ (by assumption) (Nat.le_of_ble_eq_true rfl) (Nat.le_refl _) (Nat.le_refl _) (c_Cut_addField hA' hI1 hb (by omega)) qV_nt (qV_go (fun i2 hp => ?_))
          exact after _ i2 hp.1 (fr_ss hf1 hp.2) hg
        refine wf_iload dc_Cut_cut_70 rfl ?_
        refine wf_iload_n dc_Cut_cut_72 rfl ?_
        refine wf_icmp_gt 80 dc_Cut_cut_73 (by decide) (fun hc4 => ?_) (fun hc4 => ?_)
        · exact put (Or.inl ((nI_ltI (by omega) (by omega)).mp hc4))
        · have hnb : ¬ b < j := fun z => hc4 ((nI_ltI (by omega) (by omega)).mpr z)
          refine wf_iload_n dc_Cut_cut_76 rfl ?_
          refine wf_if_eq 87 dc_Cut_cut_77 (by decide) (fun hc5 => ?_) (fun hc5 => ?_)
          · refine after F1 i1 hI1 hf1 ?_
            rw [← hg, if_neg]
            rintro (z | z)
            · exact hnb z
            · rw [hte, if_pos z] at hc5
              cases hc5
          · refine put (Or.inr ?_)
            apply Classical.byContradiction
            intro z
            rw [hte, if_neg z] at hc5
            exact hc5 rfl
      refine wf_iload dc_Cut_cut_32 rfl ?_
      refine wf_aload_n dc_Cut_cut_34 rfl ?_
      refine wf_getr dc_Cut_cut_35 fl_Cut_14 rfl (by assumption) (by assumption) ?_
      refine wf_geti dc_Cut_cut_38 fl_Cut_41 rfl (by assumption) ?_
      rw [hI1.2.2.1.1.1]
      refine wf_icmp_gt 98 dc_Cut_cut_41 (by decide) (fun hc => absurd ((nI_ltI (by omega) (by omega)).mp hc) (by omega)) (fun hc => ?_)
      refine wf_iload dc_Cut_cut_44 rfl ?_
      refine wf_aload_n dc_Cut_cut_46 rfl ?_
      refine wf_getr dc_Cut_cut_47 fl_Cut_14 rfl (by assumption) (by assumption) ?_
      refine wf_geti dc_Cut_cut_50 fl_Cut_41 rfl (by assumption) ?_
      rw [hI1.2.2.1.1.1]
      refine wf_icmp_eq 70 dc_Cut_cut_53 (by decide) (fun hc2 => ?_) (fun hc2 => ?_)
      · exact field (Or.inl ((nI_eq (by omega) (by omega)).mp hc2))
      · have hjn : ¬ j = W.length := fun z => hc2 (by rw [z])
        refine wf_aload_n dc_Cut_cut_56 rfl ?_
        refine wf_getr dc_Cut_cut_57 fl_Cut_14 rfl (by assumption) (by assumption) ?_
        refine wf_getr dc_Cut_cut_60 fl_Cut_44 rfl (by assumption) (by assumption) ?_
        refine wf_iload dc_Cut_cut_63 rfl ?_
        refine wf_iaload (y := 0) dc_Cut_cut_65 rfl (by assumption) (vp_in_nI (by omega) (by omega)) ?_
        rw [nI_clamp (by omega), hI1.2.2.1.1.2 j (by omega)]
        refine wf_iload_n dc_Cut_cut_66 rfl ?_
        refine wf_icmp_ne 92 dc_Cut_cut_67 (by decide) (fun hc3 => ?_) (fun hc3 => ?_)
        · rw [if_neg (by rintro (z | z); exact hjn z; exact hc3 z)] at hg
          exact step F1 b i1 (by omega) hI1 hf1 hg
        · exact field (Or.inr hc3)
  have tail : ∀ te : Int32, (te = if ¬ sp = 32 ∧ 0 < W.length then 1 else 0) → Wf l E n0 mt_Cut_cut (d + 3) 0 0 (qV nx t r g (fun i' => cu_is i' a P R W (fl_cut W sp) ∧ fr_is (cu_fp a P R) i i')) 0 0 26 [(0, .ref a), (1, .int sp)] [.int te] nx t r i0 g := by
    intro te hte
    refine wf_istore_n dc_Cut_cut_26 (by decide) ?_
    refine wf_iconst 0 dc_Cut_cut_27 (by decide) ?_
    refine wf_istore_n dc_Cut_cut_28 (by decide) ?_
    refine wf_iconst 0 dc_Cut_cut_29 (by decide) ?_
    refine wf_istore dc_Cut_cut_30 (by decide) ?_
    exact Wf.to (by exact ⟨rfl, rfl, rfl, rfl, rfl, trivial⟩) (loop te hte (W.length + 1) 0 0 i0 [] (by omega) (Nat.le_refl _) hI0 hf0 rfl)
  refine wf_icmp_eq 25 dc_Cut_cut_8 (by decide) (fun hc => ?_) (fun hc => ?_)
  · refine wf_iconst 0 dc_Cut_cut_25 (by decide) ?_
    exact tail 0 (by rw [if_neg (fun z => z.1 hc)])
  · refine wf_aload_n dc_Cut_cut_11 rfl ?_
    refine wf_getr dc_Cut_cut_12 fl_Cut_14 rfl (by assumption) (by assumption) ?_
    refine wf_geti dc_Cut_cut_15 fl_Cut_41 rfl (by assumption) ?_
    rw [hI0.2.2.1.1.1]
    refine wf_if_le 25 dc_Cut_cut_18 (by decide) (fun hc2 => ?_) (fun hc2 => ?_)
    · have h0 := (nI_leI (a := W.length) (b := 0) (by omega) (by omega)).mp hc2
      refine wf_iconst 0 dc_Cut_cut_25 (by decide) ?_
      exact tail 0 (by rw [if_neg (fun z => by omega)])
    · have h0 : 0 < W.length := Nat.pos_of_ne_zero fun z => hc2 (by rw [z]; decide)
      refine wf_iconst 1 dc_Cut_cut_21 (by decide) ?_
      refine wf_goto 26 dc_Cut_cut_22 (by decide) ?_
      exact tail 1 (by rw [if_pos ⟨hc, h0⟩])
theorem c_Cut_begin {a fA b s n : Nat} {P R : Nat → Nat} {W v : List Int32} {F : List (List Int32)} {sp : Int32} (hA : cu_at t r a fA P R) (hI : cu_is i a P R W F) (hB : rw_at t r b s n) (hv : rw_is i b s v) (hl : v.length ≤ n) :
    Ct l E n0 mt_Cut_begin (d + 4) 0 0 [.ref a, .ref b, .int sp] nx t r i g (qV nx t r g (fun i' => cu_is i' a P R v (fl_cut v sp) ∧ fr_is (cu_fp a P R) i i')) := by
  have hA' := hA
  obtain ⟨ha, r0, r2, r3, r4, tA, hP, hrw, hab, hinj⟩ := hA
  have hW := hrw 30 (by omega)
  have tW := hW.1
  have hn := hB.2.2.2
  refine Ct.of (by decide) (Nat.le_of_ble_eq_true rfl) ?_
  refine wf_aload_n dc_Cut_begin_0 rfl ?_
  refine wf_getr dc_Cut_begin_1 fl_Cut_14 rfl (by assumption) (by assumption) ?_
  refine wf_aload_n dc_Cut_begin_4 rfl ?_
  refine wf_iv1 (M' := mt_Row_become) (c := 5) dc_Cut_begin_5 tg_Row_become ml_Cut_30 im_Row_become se_Row_become ⟨_, rfl, rfl⟩ (by assumption) (Nat.le_of_ble_eq_true rfl) (Nat.le_refl _) (Nat.le_refl _) (c_Row_become hW hB hv hl) qV_nt (qV_go (fun i2 hp => ?_))
  obtain ⟨hw1, hf1⟩ := hp
  rw [List.take_of_length_le (by omega)] at hw1
  obtain ⟨g1, g2, g3, g4, g5⟩ := hI
  have hI1 : cu_is i2 a P R v F := ⟨(hf1 a (by simp [hA'.na (k := 30) (by omega)]) 1).trans g1, g2, ⟨hw1, by omega⟩, fun k hk => ⟨hA'.keep (by omega) (by omega) (by omega) (g4 k hk).1 hf1, (g4 k hk).2⟩, (hf1 _ (by simp [hinj 32 30 (by omega) (by omega) (by omega), hA'.nPR (j := 32) (k := 30) (by omega) (by omega)]) 1).trans g5⟩
  refine wf_aload_n dc_Cut_begin_8 rfl ?_
  refine wf_iload_n dc_Cut_begin_9 rfl ?_
  refine wf_iv1 (M' := mt_Cut_cut) (c := 1) dc_Cut_begin_10 tg_Cut_cut ml_Cut_34 im_Cut_cut se_Cut_cut ⟨_, rfl, rfl⟩ (by assumption) (Nat.le_of_ble_eq_true rfl) (Nat.le_refl _) (Nat.le_refl _) (c_Cut_cut hA' hI1) qV_nt (qV_go (fun i2 hp => ?_))
  exact wf_return rfl dc_Cut_begin_13 ⟨rfl, rfl, rfl, rfl, rfl, hp.1, fr_ss (cu_row (k := 30) (by omega) hf1) hp.2⟩
theorem c_Cut_fieldText {a fA f : Nat} {P R : Nat → Nat} {W : List Int32} {F : List (List Int32)} (hA : cu_at t r a fA P R) (hI : cu_is i a P R W F) (hf : f < 2 ^ 31) :
    Ct l E n0 mt_Cut_fieldText d 0 0 [.ref a, .int (nI f)] nx t r i g (qR nx t r g (fun z i' => z = P (if 1 ≤ f ∧ f ≤ F.length then f - 1 else 32) ∧ i' = i)) := by
  obtain ⟨ha, r0, r2, r3, r4, tA, hP, hrw, hab, hinj⟩ := hA
  obtain ⟨h1, h2, -⟩ := hI
  refine Ct.of (by decide) (Nat.le_of_ble_eq_true rfl) ?_
  refine wf_iload_n dc_Cut_fieldText_0 rfl ?_
  refine wf_iconst 1 dc_Cut_fieldText_1 (by decide) ?_
  refine wf_icmp_lt 24 dc_Cut_fieldText_2 (by decide) (fun hc => ?_) (fun hc => ?_)
  · have h0 := (nI_ltI (a := f) (b := 1) (by omega) (by omega)).mp hc
    refine wf_aload_n dc_Cut_fieldText_24 rfl ?_
    refine wf_getr dc_Cut_fieldText_25 fl_Cut_24 rfl (by assumption) (by assumption) ?_
    exact wf_areturn rfl (Or.inl ⟨_, rfl⟩) dc_Cut_fieldText_28 ⟨_, rfl, rfl, rfl, rfl, rfl, by rw [if_neg (by omega)], rfl⟩
  · have h0 : 1 ≤ f := Nat.not_lt.mp fun z => hc ((nI_ltI (a := f) (b := 1) (by omega) (by omega)).mpr z)
    refine wf_iload_n dc_Cut_fieldText_5 rfl ?_
    refine wf_aload_n dc_Cut_fieldText_6 rfl ?_
    refine wf_geti dc_Cut_fieldText_7 fl_Cut_37 rfl (by assumption) ?_
    rw [h1]
    refine wf_icmp_gt 24 dc_Cut_fieldText_10 (by decide) (fun hc2 => ?_) (fun hc2 => ?_)
    · have h3 := (nI_ltI (by omega) (by omega)).mp hc2
      refine wf_aload_n dc_Cut_fieldText_24 rfl ?_
      refine wf_getr dc_Cut_fieldText_25 fl_Cut_24 rfl (by assumption) (by assumption) ?_
      exact wf_areturn rfl (Or.inl ⟨_, rfl⟩) dc_Cut_fieldText_28 ⟨_, rfl, rfl, rfl, rfl, rfl, by rw [if_neg (by omega)], rfl⟩
    · have h3 : f ≤ F.length := Nat.not_lt.mp fun z => hc2 ((nI_ltI (by omega) (by omega)).mpr z)
      refine wf_aload_n dc_Cut_fieldText_13 rfl ?_
      refine wf_getr dc_Cut_fieldText_14 fl_Cut_20 rfl (by assumption) (by assumption) ?_
      refine wf_iload_n dc_Cut_fieldText_17 rfl ?_
      refine wf_iconst 1 dc_Cut_fieldText_18 (by decide) ?_
      refine wf_isub dc_Cut_fieldText_19 ?_
      rw [show (1 : Int32) = nI 1 from rfl, pk_sub h0]
      refine wf_aaload (y := 3) dc_Cut_fieldText_20 rfl rfl (by assumption) (vp_in_nI (by omega) (by omega)) (by rw [nI_clamp (by omega)]; exact hP (f - 1) (by omega)) ?_
      refine wf_goto 28 dc_Cut_fieldText_21 (by decide) ?_
      exact wf_areturn rfl (Or.inl ⟨_, rfl⟩) dc_Cut_fieldText_28 ⟨_, rfl, rfl, rfl, rfl, rfl, by rw [if_pos ⟨h0, h3⟩], rfl⟩
end
