/-! the reference: setField -/
theorem ff_len (F : List (List Int32)) (f : Nat) : (fl_fill F f).length = max F.length f := by
  unfold fl_fill
  rw [List.length_append, List.length_replicate]
  omega
theorem ff_get {F : List (List Int32)} {f k : Nat} : (fl_fill F f).getD k [] = if k < F.length then F.getD k [] else [] := by
  unfold fl_fill
  by_cases h : k < F.length
  · rw [if_pos h, List.getD_eq_getElem?_getD, List.getElem?_append_left h, ← List.getD_eq_getElem?_getD]
  · rw [if_neg h, List.getD_eq_getElem?_getD, List.getElem?_append_right (by omega), List.getElem?_replicate]
    split <;> rfl
theorem ff_set {F : List (List Int32)} {f k : Nat} {v : List Int32} (h1 : 1 ≤ f) (hk : k < max F.length f) : ((fl_fill F f).set (f - 1) v).getD k [] = if k = f - 1 then v else if k < F.length then F.getD k [] else [] := by
  rw [List.getD_eq_getElem?_getD]
  by_cases h : k = f - 1
  · rw [if_pos h, h, List.getElem?_set_self (by rw [ff_len]; omega)]
    rfl
  · rw [if_neg h, List.getElem?_set_ne (fun z => h z.symm), ← List.getD_eq_getElem?_getD, ff_get]
theorem ff_cat {sp : Int32} {F : List (List Int32)} {k : Nat} (h : k < F.length) : fl_cat sp (F.take (k + 1)) = (if k = 0 then [] else fl_cat sp (F.take k) ++ [sp]) ++ F.getD k [] := by
  cases F with
  | nil => exact absurd h (Nat.not_lt_zero _)
  | cons x q =>
    cases k with
    | zero => simp [fl_cat]
    | succ k =>
      rw [if_neg (by omega), List.take_succ_cons, List.take_succ_cons, fl_cat, fl_cat]
      have hk : k < q.length := by rw [List.length_cons] at h; omega
      rw [List.take_succ_eq_append_getElem hk, List.flatMap_append, List.getD_cons_succ, List.getD_eq_getElem?_getD, List.getElem?_eq_getElem hk]
      simp
section
variable {l : Launch} {E : We} {n0 d nx : Nat} {t : Wt} {r : Wr} {i i' : Wi} {g : Wl} {m : Nat} {S : Ms}
/-- the line out of its fields -/
theorem c_Mod_join {F : List (List Int32)} {sp : Int32} {Q : Wq} {f : Int32} (hA : mo_at t r m) (hF : mp_fld i m F) (h30 : F.length ≤ 30) (h120 : ∀ k, k < F.length → (F.getD k []).length ≤ 120) (hs : i (m + 0) 5 = sp) (hQ : ∀ i', mr i' m 1 ((fl_cat sp F).take 120) → mf m (mr_S 1) i i' → Q (.inl none) nx t r i' g) : Wf l E n0 mt_Mod_setField (d + 2) 0 0 Q 0 0 101 [(0, .ref (m + 0)), (1, .int f)] [] nx t r i g := by
  have t0 := hA.1.1
  have r2 : r (m + 0) 2 = some (m + 2) := hA.2 (0, 2, 2) (by decide +kernel)
  have t2 := hA.1.2 2 (2, .inr (0, 9)) (by decide +kernel)
  refine wf_aload_n dc_Mod_setField_101 rfl ?_
  refine wf_getr dc_Mod_setField_102 fl_Mod_13 rfl (by assumption) (by assumption) ?_
  refine wf_iconst 1 dc_Mod_setField_105 (by decide) ?_
  refine wf_iconst 0 dc_Mod_setField_106 (by decide) ?_
  refine wf_iastore (y := 0) dc_Mod_setField_107 rfl (by decide) (by assumption) (vp_in_nI (n := 1) (by omega) (by omega)) ?_
  refine wf_iconst 1 dc_Mod_setField_108 (by decide) ?_
  refine wf_istore_n dc_Mod_setField_109 (by decide) ?_
  have loop : ∀ (c k : Nat) (i1 : Wi), k + c = F.length → mr i1 m 1 ((fl_cat sp (F.take k)).take 120) → mf m (mr_S 1) i i1 → Wf l E n0 mt_Mod_setField (d + 2) 0 0 Q 0 0 110 [(0, .ref (m + 0)), (1, .int f), (2, .int (nI (k + 1)))] [] nx t r i1 g := by
    intro c
    induction c with
    | zero =>
      intro k i1 hk h1 h2
      have hF1 := hF.mr h2
      refine wf_iload_n dc_Mod_setField_110 rfl ?_
      refine wf_aload_n dc_Mod_setField_111 rfl ?_
      refine wf_geti dc_Mod_setField_112 fl_Mod_178 rfl (by assumption) ?_
      rw [hF1.1]
      refine wf_icmp_gt 164 dc_Mod_setField_115 (by decide) (fun hc => ?_) (fun hc => absurd ((nI_ltI (by omega) (by omega)).mpr (by omega)) hc)
      rw [show F.take k = F from List.take_of_length_le (by omega)] at h1
      exact wf_return rfl dc_Mod_setField_164 (hQ _ h1 h2)
    | succ c ih =>
      intro k i1 hk h1 h2
      have hF1 := hF.mr h2
      have hkF : k < F.length := by omega
      have hx := h120 k hkF
      have hfd : fdn F (k + 1) = F.getD k [] := by unfold fdn; rw [if_pos (by omega), Nat.add_sub_cancel]
      refine wf_iload_n dc_Mod_setField_110 rfl ?_
      refine wf_aload_n dc_Mod_setField_111 rfl ?_
      refine wf_geti dc_Mod_setField_112 fl_Mod_178 rfl (by assumption) ?_
      rw [hF1.1]
      refine wf_icmp_gt 164 dc_Mod_setField_115 (by decide) (fun hc => absurd ((nI_ltI (by omega) (by omega)).mp hc) (by omega)) (fun hc => ?_)
      refine wf_iload_n dc_Mod_setField_118 rfl ?_
      refine wf_iconst 1 dc_Mod_setField_119 (by decide) ?_
      have hcat := ff_cat (sp := sp) hkF
      generalize hB : (if k = 0 then [] else fl_cat sp (F.take k) ++ [sp]) = B at hcat
      have inner : ∀ (e j : Nat) (i2 : Wi), j + e = (F.getD k []).length → mr i2 m 1 ((B ++ (F.getD k []).take j).take 120) → mf m (mr_S 1) i i2 → Wf l E n0 mt_Mod_setField (d + 2) 0 0 Q 0 0 133 [(0, .ref (m + 0)), (1, .int f), (2, .int (nI (k + 1))), (3, .int (nI j))] [] nx t r i2 g := by
        intro e
        induction e with
        | zero =>
          intro j i2 hj q1 q2
          have hF2 := hF.mr q2
          refine wf_iload_n dc_Mod_setField_133 rfl ?_
          refine wf_aload_n dc_Mod_setField_134 rfl ?_
          refine wf_iload_n dc_Mod_setField_135 rfl ?_
          refine wf_iv1 (M' := mt_Mod_sizeOf) (c := 8) dc_Mod_setField_136 tg_Mod_sizeOf ml_Mod_184 im_Mod_sizeOf se_Mod_sizeOf ⟨_, rfl, rfl⟩ (by assumption) (Nat.le_of_ble_eq_true rfl) (Nat.le_refl _) (Nat.le_refl _) (c_Mod_sizeOf hA hF2 h30 (by omega) (by omega)) qI_nt (qI_go (fun x2 i2 hp => ?_))
          obtain ⟨rfl, hq⟩ := hp; subst hq
          rw [hfd]
          refine wf_icmp_ge 158 dc_Mod_setField_139 (by decide) (fun hc => ?_) (fun hc => absurd ((nI_leI (by omega) (by omega)).mpr (by omega)) hc)
          refine wf_iinc _ dc_Mod_setField_158 rfl (nI_1 (k + 1)) (by decide) ?_
          refine wf_goto 110 dc_Mod_setField_161 (by decide) ?_
          rw [List.take_of_length_le (show (F.getD k []).length ≤ j by omega), ← hcat] at q1
          exact Wf.to (by exact ⟨rfl, rfl, rfl, trivial⟩) (ih (k + 1) _ (by omega) q1 q2)
        | succ e ihe =>
          intro j i2 hj q1 q2
          have hF2 := hF.mr q2
          refine wf_iload_n dc_Mod_setField_133 rfl ?_
          refine wf_aload_n dc_Mod_setField_134 rfl ?_
          refine wf_iload_n dc_Mod_setField_135 rfl ?_
          refine wf_iv1 (M' := mt_Mod_sizeOf) (c := 8) dc_Mod_setField_136 tg_Mod_sizeOf ml_Mod_184 im_Mod_sizeOf se_Mod_sizeOf ⟨_, rfl, rfl⟩ (by assumption) (Nat.le_of_ble_eq_true rfl) (Nat.le_refl _) (Nat.le_refl _) (c_Mod_sizeOf hA hF2 h30 (by omega) (by omega)) qI_nt (qI_go (fun x2 i2 hp => ?_))
          obtain ⟨rfl, hq⟩ := hp; subst hq
          rw [hfd]
          refine wf_icmp_ge 158 dc_Mod_setField_139 (by decide) (fun hc => absurd ((nI_leI (by omega) (by omega)).mp hc) (by omega)) (fun hc => ?_)
          refine wf_aload_n dc_Mod_setField_142 rfl ?_
          refine wf_aload_n dc_Mod_setField_143 rfl ?_
          refine wf_iload_n dc_Mod_setField_144 rfl ?_
          refine wf_iload_n dc_Mod_setField_145 rfl ?_
          refine wf_iv2 (M' := mt_Mod_signOf) (c := 8) dc_Mod_setField_146 tg_Mod_signOf ml_Mod_187 im_Mod_signOf se_Mod_signOf ⟨_, rfl, rfl⟩ (by assumption) (Nat.le_of_ble_eq_true rfl) (Nat.le_refl _) (Nat.le_refl _) (c_Mod_signOf hA hF2 h30 (by omega) (show j < (fdn F (k + 1)).length by rw [hfd]; omega) (by rw [hfd]; exact hx)) qI_nt (qI_go (fun x2 i2 hp => ?_))
          obtain ⟨rfl, hq⟩ := hp; subst hq
          rw [hfd]
          refine wf_iv1 (M' := mt_Mod_write) (c := 8) dc_Mod_setField_149 tg_Mod_write ml_Mod_209 im_Mod_write se_Mod_write ⟨_, rfl, rfl⟩ (by assumption) (Nat.le_of_ble_eq_true rfl) (Nat.le_refl _) (Nat.le_refl _) (c_Mod_write hA q1 (by rw [List.length_take]; omega)) qV_nt (qV_go (fun i2 hp => ?_))
          obtain ⟨n1, n2⟩ := hp
          rw [tk_tk, List.append_assoc, ← tk_s (by omega)] at n1
          refine wf_iinc _ dc_Mod_setField_152 rfl (nI_1 j) (by decide) ?_
          refine wf_goto 133 dc_Mod_setField_155 (by decide) ?_
          exact Wf.to (by exact ⟨rfl, rfl, rfl, rfl, trivial⟩) (ihe (j + 1) _ (by omega) n1 (mf_ss q2 n2))
      by_cases hk0 : k = 0
      · subst hk0
        rw [if_pos rfl] at hB
        refine wf_icmp_le 131 dc_Mod_setField_120 (by decide) (fun hc => ?_) (fun hc => absurd (by decide) hc)
        refine wf_iconst 0 dc_Mod_setField_131 (by decide) ?_
        refine wf_istore_n dc_Mod_setField_132 (by decide) ?_
        refine Wf.to (by exact ⟨rfl, rfl, rfl, rfl, trivial⟩) (inner _ 0 i1 (Nat.zero_add _) ?_ h2)
        rw [← hB]
        exact h1
      · rw [if_neg hk0] at hB
        refine wf_icmp_le 131 dc_Mod_setField_120 (by decide) (fun hc => absurd ((nI_leI (b := 1) (by omega) (by omega)).mp hc) (by omega)) (fun hc => ?_)
        refine wf_aload_n dc_Mod_setField_123 rfl ?_
        refine wf_aload_n dc_Mod_setField_124 rfl ?_
        refine wf_geti dc_Mod_setField_125 fl_Mod_22 rfl (by assumption) ?_
        rw [show i1 (m + 0) 5 = sp from (h2.at (by simp [ms_no, mr_S])).trans hs]
        refine wf_iv1 (M' := mt_Mod_write) (c := 8) dc_Mod_setField_128 tg_Mod_write ml_Mod_209 im_Mod_write se_Mod_write ⟨_, rfl, rfl⟩ (by assumption) (Nat.le_of_ble_eq_true rfl) (Nat.le_refl _) (Nat.le_refl _) (c_Mod_write hA h1 (by rw [List.length_take]; omega)) qV_nt (qV_go (fun i2 hp => ?_))
        obtain ⟨n1, n2⟩ := hp
        rw [tk_tk, hB] at n1
        refine wf_iconst 0 dc_Mod_setField_131 (by decide) ?_
        refine wf_istore_n dc_Mod_setField_132 (by decide) ?_
        refine Wf.to (by exact ⟨rfl, rfl, rfl, rfl, trivial⟩) (inner _ 0 _ (Nat.zero_add _) ?_ (mf_ss h2 n2))
        rw [List.take_zero, List.append_nil]
        exact n1
  refine Wf.to (by exact ⟨rfl, rfl, rfl, trivial⟩) (loop F.length 0 _ (Nat.zero_add _) ⟨wf_up_s, mz_nil⟩ (mf_up mf_rf mr_in2))
theorem c_Mod_setField {f : Nat} {F : List (List Int32)} {v : List Int32} {sp : Int32} (hA : mo_at t r m) (hF : mp_fld i m F) (h30 : F.length ≤ 30) (h120 : ∀ k, k < F.length → (F.getD k []).length ≤ 120) (h1 : 1 ≤ f) (h2 : f ≤ 30) (hv : mr i m 8 v) (hvl : v.length ≤ 120) (hs : i (m + 0) 5 = sp) : Ct l E n0 mt_Mod_setField (d + 2) 0 0 [.ref (m + 0), .int (nI f)] nx t r i g (qV nx t r g (fun i' => mp_fld i' m ((fl_fill F f).set (f - 1) v) ∧ mr i' m 1 ((fl_cat sp ((fl_fill F f).set (f - 1) v)).take 120) ∧ mf m (mF_S ++ mr_S 1) i i')) := by
  have t0 := hA.1.1
  have r1 : r (m + 0) 1 = some (m + 1) := hA.2 (0, 1, 1) (by decide +kernel)
  have r2 : r (m + 0) 2 = some (m + 2) := hA.2 (0, 2, 2) (by decide +kernel)
  have r16 : r (m + 0) 16 = some (m + 12) := hA.2 (0, 16, 12) (by decide +kernel)
  have r17 : r (m + 0) 17 = some (m + 13) := hA.2 (0, 17, 13) (by decide +kernel)
  have t1 := hA.1.2 1 (1, .inr (0, 1080)) (by decide +kernel)
  have t2 := hA.1.2 2 (2, .inr (0, 9)) (by decide +kernel)
  have t12 := hA.1.2 12 (12, .inr (0, 3600)) (by decide +kernel)
  have t13 := hA.1.2 13 (13, .inr (0, 30)) (by decide +kernel)
  have hlen : ((fl_fill F f).set (f - 1) v).length = max F.length f := by rw [List.length_set, ff_len]
  refine Ct.of (by decide) (Nat.le_of_ble_eq_true rfl) ?_
  -- the signs of the field
  have sgn : ∀ (c j : Nat) (i1 : Wi), j + c = v.length → i1 (m + 0) 15 = nI (max F.length f) → i1 (m + 13) (f - 1) = nI v.length → (∀ k, k < max F.length f → k ≠ f - 1 → i1 (m + 13) k = nI (if k < F.length then F.getD k [] else []).length ∧ mz i1 (m + 12) (120 * k) (if k < F.length then F.getD k [] else [])) → mz i1 (m + 12) (120 * (f - 1)) (v.take j) → mf m mF_S i i1 →
      Wf l E n0 mt_Mod_setField (d + 2) 0 0 (qV nx t r g (fun i' => mp_fld i' m ((fl_fill F f).set (f - 1) v) ∧ mr i' m 1 ((fl_cat sp ((fl_fill F f).set (f - 1) v)).take 120) ∧ mf m (mF_S ++ mr_S 1) i i')) 0 0 60 [(0, .ref (m + 0)), (1, .int (nI f)), (2, .int (nI j))] [] nx t r i1 g := by
    intro c
    induction c with
    | zero =>
      intro j i1 hj q0 q1 q2 q3 q4
      have hv1 := hv.mF q4 hvl
      refine wf_iload_n dc_Mod_setField_60 rfl ?_
      refine wf_aload_n dc_Mod_setField_61 rfl ?_
      refine wf_getr dc_Mod_setField_62 fl_Mod_13 rfl (by assumption) (by assumption) ?_
      refine wf_bipush 8 dc_Mod_setField_65 (by decide) ?_
      refine wf_iaload (y := 0) dc_Mod_setField_67 rfl (by assumption) (vp_in_nI (n := 8) (by omega) (by omega)) ?_
      rw [show i1 (m + 2) (Int32.toNatClampNeg 8) = nI v.length from hv1.1]
      refine wf_icmp_ge 101 dc_Mod_setField_68 (by decide) (fun hc => ?_) (fun hc => absurd ((nI_leI (by omega) (by omega)).mpr (by omega)) hc)
      rw [List.take_of_length_le (by omega)] at q3
      have hF1 : mp_fld i1 m ((fl_fill F f).set (f - 1) v) := ⟨by rw [hlen]; exact q0, fun k hk => by
        rw [hlen] at hk
        rw [ff_set h1 hk]
        by_cases hkf : k = f - 1
        · rw [if_pos hkf, hkf]; exact ⟨q1, q3⟩
        · rw [if_neg hkf]; exact q2 k hk hkf⟩
      refine Wf.to (by exact ⟨rfl, rfl, trivial⟩) (c_Mod_join hA hF1 (by rw [hlen]; omega) (fun k hk => ?_) ((q4.at (by simp [ms_no, mF_S])).trans hs) (fun i3 p1 p2 => ⟨rfl, rfl, rfl, rfl, rfl, hF1.mr p2, p1, mf_tr q4 p2⟩))
      rw [hlen] at hk
      rw [ff_set h1 hk]
      split
      · exact hvl
      · split
        · exact h120 k (by assumption)
        · exact Nat.zero_le _
    | succ c ih =>
      intro j i1 hj q0 q1 q2 q3 q4
      have hv1 := hv.mF q4 hvl
      refine wf_iload_n dc_Mod_setField_60 rfl ?_
      refine wf_aload_n dc_Mod_setField_61 rfl ?_
      refine wf_getr dc_Mod_setField_62 fl_Mod_13 rfl (by assumption) (by assumption) ?_
      refine wf_bipush 8 dc_Mod_setField_65 (by decide) ?_
      refine wf_iaload (y := 0) dc_Mod_setField_67 rfl (by assumption) (vp_in_nI (n := 8) (by omega) (by omega)) ?_
      rw [show i1 (m + 2) (Int32.toNatClampNeg 8) = nI v.length from hv1.1]
      refine wf_icmp_ge 101 dc_Mod_setField_68 (by decide) (fun hc => absurd ((nI_leI (by omega) (by omega)).mp hc) (by omega)) (fun hc => ?_)
      refine wf_aload_n dc_Mod_setField_71 rfl ?_
      refine wf_getr dc_Mod_setField_72 fl_Mod_47 rfl (by assumption) (by assumption) ?_
      refine wf_bipush 120 dc_Mod_setField_75 (by decide) ?_
      refine wf_iload_n dc_Mod_setField_77 rfl ?_
      refine wf_imul dc_Mod_setField_78 ?_
      rw [n120]
      refine wf_bipush 120 dc_Mod_setField_79 (by decide) ?_
      refine wf_isub dc_Mod_setField_81 ?_
      have e1 : nI (120 * f) - 120 = nI (120 * (f - 1)) := by
        rw [show (120 : Int32) = nI 120 from rfl, pk_sub (by omega), show 120 * f - 120 = 120 * (f - 1) by omega]
      rw [e1]
      refine wf_iload_n dc_Mod_setField_82 rfl ?_
      refine wf_iadd dc_Mod_setField_83 ?_
      rw [nI_add]
      refine wf_aload_n dc_Mod_setField_84 rfl ?_
      refine wf_getr dc_Mod_setField_85 fl_Mod_7 rfl (by assumption) (by assumption) ?_
      refine wf_sipush 960 dc_Mod_setField_88 (by decide) ?_
      refine wf_iload_n dc_Mod_setField_91 rfl ?_
      refine wf_iadd dc_Mod_setField_92 ?_
      rw [show (960 : Int32) + nI j = nI (120 * 8 + j) from nI_add 960 j]
      refine wf_iaload (y := 0) dc_Mod_setField_93 rfl (by assumption) (vp_in_nI (by omega) (by omega)) ?_
      refine wf_iastore (y := 0) dc_Mod_setField_94 rfl (by decide) (by assumption) (vp_in_nI (by omega) (by omega)) ?_
      refine wf_iinc _ dc_Mod_setField_95 rfl (nI_1 j) (by decide) ?_
      refine wf_goto 60 dc_Mod_setField_98 (by decide) ?_
      rw [nI_clamp (show 120 * 8 + j < 2 ^ 31 by omega), nI_clamp (show 120 * (f - 1) + j < 2 ^ 31 by omega), hv1.2 j (by omega)]
      refine Wf.to (by exact ⟨rfl, rfl, rfl, trivial⟩) (ih (j + 1) _ (by omega) ((wf_up_a (by omega)).trans q0) ((wf_up_a (by omega)).trans q1) (fun k hk hkf => ⟨(wf_up_a (by omega)).trans (q2 k hk hkf).1, fun q hq => ?_⟩) ?_ (mf_up q4 ⟨(12, 0, 3600), by simp [mF_S], rfl, Nat.zero_le _, by simp only; omega⟩))
      · have hq120 : q < 120 := by
          split at hq
          · have := h120 k (by assumption); omega
          · exact absurd hq (Nat.not_lt_zero _)
        rw [wf_up_k (by omega)]
        exact (q2 k hk hkf).2 q hq
      · rw [tk_s (by omega)]
        have h4 : mz (wf_up i1 (m + 12) (120 * (f - 1) + j) (v.getD j 0)) (m + 12) (120 * (f - 1)) (v.take j) := fun q hq => by
          rw [List.length_take] at hq
          rw [wf_up_k (by omega)]
          exact q3 q (by rw [List.length_take]; exact hq)
        refine h4.snoc ?_
        rw [List.length_take, Nat.min_eq_left (by omega)]
        exact wf_up_s
  -- fields that were not there
  have fill : ∀ (c j : Nat) (i1 : Wi), j + c = max F.length f → F.length ≤ j → i1 (m + 0) 15 = nI F.length → (∀ k, k < j → i1 (m + 13) k = nI (if k < F.length then F.getD k [] else []).length ∧ mz i1 (m + 12) (120 * k) (if k < F.length then F.getD k [] else [])) → mf m mF_S i i1 →
      Wf l E n0 mt_Mod_setField (d + 2) 0 0 (qV nx t r g (fun i' => mp_fld i' m ((fl_fill F f).set (f - 1) v) ∧ mr i' m 1 ((fl_cat sp ((fl_fill F f).set (f - 1) v)).take 120) ∧ mf m (mF_S ++ mr_S 1) i i')) 0 0 5 [(0, .ref (m + 0)), (1, .int (nI f)), (2, .int (nI j))] [] nx t r i1 g := by
    intro c
    induction c with
    | zero =>
      intro j i1 hj hjF q0 q1 q4
      refine wf_iload_n dc_Mod_setField_5 rfl ?_
      refine wf_iload_n dc_Mod_setField_6 rfl ?_
      refine wf_icmp_ge 23 dc_Mod_setField_7 (by decide) (fun hc => ?_) (fun hc => absurd ((nI_leI (by omega) (by omega)).mpr (by omega)) hc)
      have go : ∀ (y : Int32) (i2 : Wi), y = nI (max F.length f) → i2 = wf_up i1 (m + 0) 15 y → Wf l E n0 mt_Mod_setField (d + 2) 0 0 (qV nx t r g (fun i' => mp_fld i' m ((fl_fill F f).set (f - 1) v) ∧ mr i' m 1 ((fl_cat sp ((fl_fill F f).set (f - 1) v)).take 120) ∧ mf m (mF_S ++ mr_S 1) i i')) 0 0 43 [(0, .ref (m + 0)), (1, .int (nI f))] [] nx t r i2 g := by
        intro y i2 hy hi2
        have f2 : mf m mF_S i i2 := by rw [hi2]; exact mf_up q4 ⟨(0, 15, 16), by simp [mF_S], rfl, Nat.le_refl _, Nat.le_refl _⟩
        have hv2 := hv.mF f2 hvl
        refine wf_aload_n dc_Mod_setField_43 rfl ?_
        refine wf_getr dc_Mod_setField_44 fl_Mod_50 rfl (by assumption) (by assumption) ?_
        refine wf_iload_n dc_Mod_setField_47 rfl ?_
        refine wf_iconst 1 dc_Mod_setField_48 (by decide) ?_
        refine wf_isub dc_Mod_setField_49 ?_
        have e1 : nI f - 1 = nI (f - 1) := by rw [show (1 : Int32) = nI 1 from rfl, pk_sub h1]
        rw [e1]
        refine wf_aload_n dc_Mod_setField_50 rfl ?_
        refine wf_getr dc_Mod_setField_51 fl_Mod_13 rfl (by assumption) (by assumption) ?_
        refine wf_bipush 8 dc_Mod_setField_54 (by decide) ?_
        refine wf_iaload (y := 0) dc_Mod_setField_56 rfl (by assumption) (vp_in_nI (n := 8) (by omega) (by omega)) ?_
        rw [show i2 (m + 2) (Int32.toNatClampNeg 8) = nI v.length from hv2.1]
        refine wf_iastore (y := 0) dc_Mod_setField_57 rfl (by decide) (by assumption) (vp_in_nI (by omega) (by omega)) ?_
        refine wf_iconst 0 dc_Mod_setField_58 (by decide) ?_
        refine wf_istore_n dc_Mod_setField_59 (by decide) ?_
        rw [nI_clamp (show f - 1 < 2 ^ 31 by omega)]
        refine Wf.to (by exact ⟨rfl, rfl, rfl, trivial⟩) (sgn v.length 0 _ (Nat.zero_add _) ?_ wf_up_s (fun k hk hkf => ⟨(wf_up_k hkf).trans ?_, fun q hq => ?_⟩) mz_nil (mf_up f2 ⟨(13, 0, 30), by simp [mF_S], rfl, Nat.zero_le _, by simp only; omega⟩))
        · rw [wf_up_a (by omega), hi2, ← hy]; exact wf_up_s
        · rw [hi2, wf_up_a (by omega)]; exact (q1 k (by omega)).1
        · rw [wf_up_a (by omega), hi2, wf_up_a (by omega)]; exact (q1 k (by omega)).2 q hq
      refine wf_aload_n dc_Mod_setField_23 rfl ?_
      refine wf_iload_n dc_Mod_setField_24 rfl ?_
      refine wf_aload_n dc_Mod_setField_25 rfl ?_
      refine wf_geti dc_Mod_setField_26 fl_Mod_178 rfl (by assumption) ?_
      rw [q0]
      by_cases hfF : f ≤ F.length
      · refine wf_icmp_le 36 dc_Mod_setField_29 (by decide) (fun hc => ?_) (fun hc => absurd ((nI_leI (by omega) (by omega)).mpr hfF) hc)
        refine wf_aload_n dc_Mod_setField_36 rfl ?_
        refine wf_geti dc_Mod_setField_37 fl_Mod_178 rfl (by assumption) ?_
        rw [q0]
        refine wf_puti dc_Mod_setField_40 fl_Mod_178 (Or.inl nf_Mod_15) rfl rfl rfl (by assumption) ?_
        exact Wf.to (by exact ⟨rfl, rfl, trivial⟩) (go _ _ (by rw [Nat.max_eq_left hfF]) rfl)
      · refine wf_icmp_le 36 dc_Mod_setField_29 (by decide) (fun hc => absurd ((nI_leI (by omega) (by omega)).mp hc) hfF) (fun hc => ?_)
        refine wf_iload_n dc_Mod_setField_32 rfl ?_
        refine wf_goto 40 dc_Mod_setField_33 (by decide) ?_
        refine wf_puti dc_Mod_setField_40 fl_Mod_178 (Or.inl nf_Mod_15) rfl rfl rfl (by assumption) ?_
        exact Wf.to (by exact ⟨rfl, rfl, trivial⟩) (go _ _ (by rw [Nat.max_eq_right (by omega)]) rfl)
    | succ c ih =>
      intro j i1 hj hjF q0 q1 q4
      refine wf_iload_n dc_Mod_setField_5 rfl ?_
      refine wf_iload_n dc_Mod_setField_6 rfl ?_
      refine wf_icmp_ge 23 dc_Mod_setField_7 (by decide) (fun hc => absurd ((nI_leI (by omega) (by omega)).mp hc) (by omega)) (fun hc => ?_)
      refine wf_aload_n dc_Mod_setField_10 rfl ?_
      refine wf_getr dc_Mod_setField_11 fl_Mod_50 rfl (by assumption) (by assumption) ?_
      refine wf_iload_n dc_Mod_setField_14 rfl ?_
      refine wf_iconst 0 dc_Mod_setField_15 (by decide) ?_
      refine wf_iastore (y := 0) dc_Mod_setField_16 rfl (by decide) (by assumption) (vp_in_nI (by omega) (by omega)) ?_
      refine wf_iinc _ dc_Mod_setField_17 rfl (nI_1 j) (by decide) ?_
      refine wf_goto 5 dc_Mod_setField_20 (by decide) ?_
      rw [nI_clamp (show j < 2 ^ 31 by omega)]
      refine Wf.to (by exact ⟨rfl, rfl, rfl, trivial⟩) (ih (j + 1) _ (by omega) (by omega) ((wf_up_a (by omega)).trans q0) (fun k hk => ?_) (mf_up q4 ⟨(13, 0, 30), by simp [mF_S], rfl, Nat.zero_le _, by simp only; omega⟩))
      by_cases hkj : k = j
      · subst hkj
        rw [if_neg (by omega)]
        exact ⟨wf_up_s, mz_nil⟩
      · have := q1 k (by omega)
        exact ⟨(wf_up_k hkj).trans this.1, fun q hq => (wf_up_a (by omega)).trans (this.2 q hq)⟩
  refine wf_aload_n dc_Mod_setField_0 rfl ?_
  refine wf_geti dc_Mod_setField_1 fl_Mod_178 rfl (by assumption) ?_
  rw [hF.1]
  refine wf_istore_n dc_Mod_setField_4 (by decide) ?_
  exact Wf.to (by exact ⟨rfl, rfl, rfl, trivial⟩) (fill (max F.length f - F.length) F.length i (by omega) (Nat.le_refl _) hF.1 (fun k hk => by rw [if_pos hk]; exact hF.2 k hk) mf_rf)
end
