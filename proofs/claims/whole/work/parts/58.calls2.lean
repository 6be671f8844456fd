/-! class LineRules: the calls that may throw -/
/-- a method that throws: nothing has changed but a cell that nobody looks at -/
abbrev qX (X : String) (nx : Nat) (t : Wt) (r : Wr) (i : Wi) (g : Wl) : Wq := fun o nx' t' r' i' g' => o = .inr X ∧ nx' = nx + 1 ∧ t' = t ∧ r' = r ∧ i' = i ∧ g' = g
abbrev xSE : String := "java/lang/IllegalStateException"
abbrev xNE : String := "java/util/NoSuchElementException"
abbrev xAE : String := "java/lang/IllegalArgumentException"
/-- the signs of five words -/
def fe_of (a1 a2 a3 a4 a5 : Int32) : List Int32 := ws_of a1 ++ ws_of a2 ++ ws_of a3 ++ ws_of a4 ++ ws_of a5
section
variable {l : Launch} {E : We} {n0 d nx : Nat} {t : Wt} {r : Wr} {i i' : Wi} {g : Wl} {b : Nat} {pm : Nat → Nat}
theorem fe_len (a1 a2 a3 a4 a5 : Int32) : (fe_of a1 a2 a3 a4 a5).length = (ws_of a1).length + (ws_of a2).length + (ws_of a3).length + (ws_of a4).length + (ws_of a5).length := by
  unfold fe_of
  rw [List.length_append, List.length_append, List.length_append, List.length_append]
theorem sA_fe (a1 a2 a3 a4 a5 : Int32) : sA (fe_of a1 a2 a3 a4 a5) := sA_ap (sA_ap (sA_ap (sA_ap (sA_ws _ _ _) (sA_ws _ _ _)) (sA_ws _ _ _)) (sA_ws _ _ _)) (sA_ws _ _ _)
theorem k_LR_feed {w : List Int32} {a1 a2 a3 a4 a5 : Int32} (hl : l.stackTraces = false) (hA : lr_at t r b pm) (hP : lp_pad i b w) : Ct l E n0 mt_LR_feed (d + 7) 1 6 [.ref (b + 0), .int a1, .int a2, .int a3, .int a4, .int a5] nx t r i g (if w.length + (fe_of a1 a2 a3 a4 a5).length ≤ 120 then qI nx t r g (fun z i' => z = nI (w ++ fe_of a1 a2 a3 a4 a5).length ∧ lp_pad i' b (w ++ fe_of a1 a2 a3 a4 a5) ∧ fr_is [b + 1, b + 2] i i') else qX xSE nx t r i g) := by
  have t0 := hA.1.1
  have r0 : r (b + 0) 0 = some (b + 1) := hA.2.1 (0, 0, 1) (by decide +kernel)
  have hpd := lr_pad hA
  have tP := hpd.1
  have l1 := ws_len a1 4 0
  have l2 := ws_len a2 4 0
  have l3 := ws_len a3 4 0
  have l4 := ws_len a4 4 0
  have l5 := ws_len a5 4 0
  have hw := hP.2.1
  have hfe := fe_len a1 a2 a3 a4 a5
  have u1 : ws_of a1 = ws_go a1 4 0 := rfl
  have u2 : ws_of a2 = ws_go a2 4 0 := rfl
  have u3 : ws_of a3 = ws_go a3 4 0 := rfl
  have u4 : ws_of a4 = ws_go a4 4 0 := rfl
  have u5 : ws_of a5 = ws_go a5 4 0 := rfl
  rw [← u1] at l1
  rw [← u2] at l2
  rw [← u3] at l3
  rw [← u4] at l4
  rw [← u5] at l5
  refine Ct.of (by decide) (Nat.le_of_ble_eq_true rfl) ?_
  refine wf_iload_n dc_LR_feed_0 rfl ?_
  refine wf_is1 (M' := mt_LR_signsIn) dc_LR_feed_1 tg_LR_signsIn ml_LR_78 sm_LR_signsIn (Nat.le_of_ble_eq_true rfl) (Nat.le_refl _) (Nat.le_refl _) (c_LR_signsIn) qI_nt (qI_go (fun x2 i2 hp => ?_))
  obtain ⟨rfl, hq⟩ := hp; subst i2
  refine wf_iload_n dc_LR_feed_4 rfl ?_
  refine wf_is1 (M' := mt_LR_signsIn) dc_LR_feed_5 tg_LR_signsIn ml_LR_78 sm_LR_signsIn (Nat.le_of_ble_eq_true rfl) (Nat.le_refl _) (Nat.le_refl _) (c_LR_signsIn) qI_nt (qI_go (fun x2 i2 hp => ?_))
  obtain ⟨rfl, hq⟩ := hp; subst i2
  refine wf_iadd dc_LR_feed_8 ?_
  refine wf_iload_n dc_LR_feed_9 rfl ?_
  refine wf_is1 (M' := mt_LR_signsIn) dc_LR_feed_10 tg_LR_signsIn ml_LR_78 sm_LR_signsIn (Nat.le_of_ble_eq_true rfl) (Nat.le_refl _) (Nat.le_refl _) (c_LR_signsIn) qI_nt (qI_go (fun x2 i2 hp => ?_))
  obtain ⟨rfl, hq⟩ := hp; subst i2
  refine wf_iadd dc_LR_feed_13 ?_
  refine wf_iload dc_LR_feed_14 rfl ?_
  refine wf_is1 (M' := mt_LR_signsIn) dc_LR_feed_16 tg_LR_signsIn ml_LR_78 sm_LR_signsIn (Nat.le_of_ble_eq_true rfl) (Nat.le_refl _) (Nat.le_refl _) (c_LR_signsIn) qI_nt (qI_go (fun x2 i2 hp => ?_))
  obtain ⟨rfl, hq⟩ := hp; subst i2
  refine wf_iadd dc_LR_feed_19 ?_
  refine wf_iload dc_LR_feed_20 rfl ?_
  refine wf_is1 (M' := mt_LR_signsIn) dc_LR_feed_22 tg_LR_signsIn ml_LR_78 sm_LR_signsIn (Nat.le_of_ble_eq_true rfl) (Nat.le_refl _) (Nat.le_refl _) (c_LR_signsIn) qI_nt (qI_go (fun x2 i2 hp => ?_))
  obtain ⟨rfl, hq⟩ := hp; subst i2
  refine wf_iadd dc_LR_feed_25 ?_
  rw [nI_add, nI_add, nI_add, nI_add, ← hfe]
  refine wf_istore dc_LR_feed_26 (by decide) ?_
  refine wf_aload_n dc_LR_feed_28 rfl ?_
  refine wf_getr dc_LR_feed_29 fl_LR_14 rfl (by assumption) (by assumption) ?_
  refine wf_geti dc_LR_feed_32 fl_LR_82 rfl (by assumption) ?_
  refine wf_iload dc_LR_feed_35 rfl ?_
  refine wf_iadd dc_LR_feed_37 ?_
  rw [hP.1.1, nI_add]
  refine wf_bipush 120 dc_LR_feed_38 (by decide) ?_
  refine wf_icmp_le 53 dc_LR_feed_40 (by decide) (fun hc => ?_) (fun hc => ?_)
  · have hf : w.length + (fe_of a1 a2 a3 a4 a5).length ≤ 120 := (nI_leI (b := 120) (by omega) (by omega)).mp hc
    rw [if_pos hf]
    refine wf_aload_n dc_LR_feed_53 rfl ?_
    refine wf_iload_n dc_LR_feed_54 rfl ?_
    refine wf_iv1 (M' := mt_LR_addToPad) (c := 0) dc_LR_feed_55 tg_LR_addToPad ml_LR_92 im_LR_addToPad se_LR_addToPad ⟨_, rfl, rfl⟩ (by assumption) (Nat.le_of_ble_eq_true rfl) (Nat.le_refl _) (Nat.le_refl _) (c_LR_addToPad t0 r0 hpd hP.1 (by omega)) qV_nt (qV_go (fun i2 hp => ?_))
    obtain ⟨m1, f1⟩ := hp
    refine wf_aload_n dc_LR_feed_58 rfl ?_
    refine wf_iload_n dc_LR_feed_59 rfl ?_
    refine wf_iv1 (M' := mt_LR_addToPad) (c := 0) dc_LR_feed_60 tg_LR_addToPad ml_LR_92 im_LR_addToPad se_LR_addToPad ⟨_, rfl, rfl⟩ (by assumption) (Nat.le_of_ble_eq_true rfl) (Nat.le_refl _) (Nat.le_refl _) (c_LR_addToPad t0 r0 hpd m1 (by simp only [List.length_append]; omega)) qV_nt (qV_go (fun i2 hp => ?_))
    obtain ⟨m2, f2⟩ := hp
    refine wf_aload_n dc_LR_feed_63 rfl ?_
    refine wf_iload_n dc_LR_feed_64 rfl ?_
    refine wf_iv1 (M' := mt_LR_addToPad) (c := 0) dc_LR_feed_65 tg_LR_addToPad ml_LR_92 im_LR_addToPad se_LR_addToPad ⟨_, rfl, rfl⟩ (by assumption) (Nat.le_of_ble_eq_true rfl) (Nat.le_refl _) (Nat.le_refl _) (c_LR_addToPad t0 r0 hpd m2 (by simp only [List.length_append]; omega)) qV_nt (qV_go (fun i2 hp => ?_))
    obtain ⟨m3, f3⟩ := hp
    refine wf_aload_n dc_LR_feed_68 rfl ?_
    refine wf_iload dc_LR_feed_69 rfl ?_
    refine wf_iv1 (M' := mt_LR_addToPad) (c := 0) dc_LR_feed_71 tg_LR_addToPad ml_LR_92 im_LR_addToPad se_LR_addToPad ⟨_, rfl, rfl⟩ (by assumption) (Nat.le_of_ble_eq_true rfl) (Nat.le_refl _) (Nat.le_refl _) (c_LR_addToPad t0 r0 hpd m3 (by simp only [List.length_append]; omega)) qV_nt (qV_go (fun i2 hp => ?_))
    obtain ⟨m4, f4⟩ := hp
    refine wf_aload_n dc_LR_feed_74 rfl ?_
    refine wf_iload dc_LR_feed_75 rfl ?_
    refine wf_iv1 (M' := mt_LR_addToPad) (c := 0) dc_LR_feed_77 tg_LR_addToPad ml_LR_92 im_LR_addToPad se_LR_addToPad ⟨_, rfl, rfl⟩ (by assumption) (Nat.le_of_ble_eq_true rfl) (Nat.le_refl _) (Nat.le_refl _) (c_LR_addToPad t0 r0 hpd m4 (by simp only [List.length_append]; omega)) qV_nt (qV_go (fun i2 hp => ?_))
    obtain ⟨m5, f5⟩ := hp
    have he : w ++ ws_of a1 ++ ws_of a2 ++ ws_of a3 ++ ws_of a4 ++ ws_of a5 = w ++ fe_of a1 a2 a3 a4 a5 := by
      unfold fe_of
      simp only [List.append_assoc]
    rw [he] at m5
    refine wf_aload_n dc_LR_feed_80 rfl ?_
    refine wf_getr dc_LR_feed_81 fl_LR_14 rfl (by assumption) (by assumption) ?_
    refine wf_geti dc_LR_feed_84 fl_LR_82 rfl (by assumption) ?_
    rw [m5.1]
    exact wf_ireturn rfl dc_LR_feed_87 ⟨_, rfl, rfl, rfl, rfl, rfl, rfl, ⟨m5, s1_of (by rw [List.length_append]; omega) (sA_ap (s1_A hP.2) (sA_fe _ _ _ _ _))⟩, fr_ss (fr_ss (fr_ss (fr_ss f1 f2) f3) f4) f5⟩
  · have hf : ¬ w.length + (fe_of a1 a2 a3 a4 a5).length ≤ 120 := fun z => hc ((nI_leI (b := 120) (by omega) (by omega)).mpr z)
    rw [if_neg hf]
    exact wf_throw hl xw_LR_87 (by decide +kernel) dc_LR_feed_43 dc_LR_feed_46 dc_LR_feed_47 dc_LR_feed_49 dc_LR_feed_52 (by omega) (by omega) (by omega) ⟨rfl, rfl, rfl, rfl, rfl, rfl⟩
theorem k_LR_text {tx : Nat → List Int32} {w : List Int32} {x : Int32} (hl : l.stackTraces = false) (hA : lr_at t r b pm) (hP : lp_pad i b w) (hT : lp_txt i b tx) : Ct l E n0 mt_LR_text (d + 7) 1 6 [.ref (b + 0), .int x] nx t r i g (if bw x 0 5 = true then qI nx t r g (fun z i' => z = nI w.length ∧ lp_pad i' b [] ∧ lp_txt i' b (fun k => if k = x.toNatClampNeg then w else tx k) ∧ fr_is [b + 1, b + (97 + 2 * x.toNatClampNeg), b + (97 + 2 * x.toNatClampNeg + 1)] i i') else qX xNE nx t r i g) := by
  have t0 := hA.1.1
  have r0 : r (b + 0) 0 = some (b + 1) := hA.2.1 (0, 0, 1) (by decide +kernel)
  have r1 : r (b + 0) 1 = some (b + 3) := hA.2.1 (0, 1, 3) (by decide +kernel)
  have t3 := hA.1.2 3 (3, .inr (3, 6)) (by decide +kernel)
  have hpd := lr_pad hA
  have tP := hpd.1
  refine Ct.of (by decide) (Nat.le_of_ble_eq_true rfl) ?_
  refine wf_iload_n dc_LR_text_0 rfl ?_
  refine wf_is1 (M' := mt_LR_isText) dc_LR_text_1 tg_LR_isText ml_LR_117 sm_LR_isText (Nat.le_of_ble_eq_true rfl) (Nat.le_refl _) (Nat.le_refl _) (c_LR_isText) qI_nt (qI_go (fun x2 i2 hp => ?_))
  obtain ⟨rfl, hq⟩ := hp; subst i2
  cases hb : bw x 0 5 with
  | false =>
    refine wf_if_ne 17 dc_LR_text_4 (by decide) (fun hc => absurd rfl hc) (fun hc => ?_)
    rw [if_neg (by decide)]
    exact wf_throw hl xw_LR_120 (by decide +kernel) dc_LR_text_7 dc_LR_text_10 dc_LR_text_11 dc_LR_text_13 dc_LR_text_16 (by omega) (by omega) (by omega) ⟨rfl, rfl, rfl, rfl, rfl, rfl⟩
  | true =>
    refine wf_if_ne 17 dc_LR_text_4 (by decide) (fun hc => ?_) (fun hc => absurd hc (by decide))
    rw [if_pos rfl]
    obtain ⟨k, -, hk, rfl⟩ := bw_n (lo := 0) (hi := 5) hb
    have hcl : (nI k).toNatClampNeg = k := nI_clamp (by omega)
    rw [hcl]
    have w3 : ∀ k, k < 6 → (3, k, 97 + 2 * k) ∈ lr_Wf := by decide +kernel
    have r3 : r (b + 3) (nI k).toNatClampNeg = some (b + (97 + 2 * k)) := by rw [hcl]; exact hA.2.1 _ (w3 k (by omega))
    have hTx := lr_txt hA (k := k) (by omega)
    have tT := hTx.1
    refine wf_aload_n dc_LR_text_17 rfl ?_
    refine wf_getr dc_LR_text_18 fl_LR_18 rfl (by assumption) (by assumption) ?_
    refine wf_iload_n dc_LR_text_21 rfl ?_
    refine wf_aaload (y := 3) dc_LR_text_22 rfl rfl (by assumption) (vp_in_nI (by omega) (by omega)) (r3) ?_
    refine wf_aload_n dc_LR_text_23 rfl ?_
    refine wf_getr dc_LR_text_24 fl_LR_14 rfl (by assumption) (by assumption) ?_
    refine wf_iv1 (M' := mt_Row_become) (c := 5) dc_LR_text_27 tg_Row_become ml_LR_122 im_Row_become se_Row_become ⟨_, rfl, rfl⟩ (by assumption) (Nat.le_of_ble_eq_true rfl) (Nat.le_refl _) (Nat.le_refl _) (c_Row_become hTx hpd hP.1 hP.2.1) qV_nt (qV_go (fun i2 hp => ?_))
    obtain ⟨m1, f1⟩ := hp
    rw [List.take_of_length_le hP.2.1] at m1
    have hP1 : lp_pad i2 b w := hP.fr f1 (fun z hz => by simp only [List.mem_cons, List.not_mem_nil, or_false] at hz; omega)
    have hT1 : lp_txt i2 b (fun j => if j = k then w else tx j) := fun j hj => by
      by_cases hjk : j = k
      · subst hjk
        simp only [if_pos rfl]
        exact ⟨m1, hP.2⟩
      · simp only [if_neg hjk]
        exact ⟨(hT j hj).1.fr f1 (by simp only [List.mem_cons, List.not_mem_nil, or_false]; omega) (by simp only [List.mem_cons, List.not_mem_nil, or_false]; omega), (hT j hj).2⟩
    refine wf_aload_n dc_LR_text_30 rfl ?_
    refine wf_iv0 (M' := mt_LR_clear) (c := 0) dc_LR_text_31 tg_LR_clear ml_LR_126 im_LR_clear se_LR_clear ⟨_, rfl, rfl⟩ (by assumption) (Nat.le_of_ble_eq_true rfl) (Nat.le_refl _) (Nat.le_refl _) (c_LR_clear hA hP1) qI_nt (qI_go (fun x2 i2 hp => ?_))
    obtain ⟨rfl, n1, n2⟩ := hp
    have hT2 := hT1.fr n2 (fun z hz => by rw [List.mem_singleton.mp hz]; omega)
    exact wf_ireturn rfl dc_LR_text_34 ⟨_, rfl, rfl, rfl, rfl, rfl, rfl, n1, hT2, fr_mo (fr_tr f1 n2) (fun z hz => by simp only [List.mem_append, List.mem_cons, List.not_mem_nil, or_false] at hz ⊢; omega)⟩
theorem k_LR_separator {sp x : Int32} (hl : l.stackTraces = false) (hA : lr_at t r b pm) (hS : lp_sep i b sp) : Ct l E n0 mt_LR_separator (d + 7) 1 6 [.ref (b + 0), .int x] nx t r i g (if bw x 1 255 = true then qI nx t r g (fun z i' => z = sp ∧ i' = wf_up i (b + 0) 12 x ∧ lp_sep i' b x) else qX xAE nx t r i g) := by
  have t0 := hA.1.1
  refine Ct.of (by decide) (Nat.le_of_ble_eq_true rfl) ?_
  have no : bw x 1 255 = false → Wf l E n0 mt_LR_separator (d + 7) 1 6 (if bw x 1 255 = true then qI nx t r g (fun z i' => z = sp ∧ i' = wf_up i (b + 0) 12 x ∧ lp_sep i' b x) else qX xAE nx t r i g) 1 6 12 [(0, .ref (b + 0)), (1, .int x)] [] nx t r i g := fun h => by
    rw [if_neg (by rw [h]; decide)]
    exact wf_throw hl xw_LR_132 (by decide +kernel) dc_LR_separator_12 dc_LR_separator_15 dc_LR_separator_16 dc_LR_separator_18 dc_LR_separator_21 (by omega) (by omega) (by omega) ⟨rfl, rfl, rfl, rfl, rfl, rfl⟩
  refine wf_iload_n dc_LR_separator_0 rfl ?_
  refine wf_iconst 1 dc_LR_separator_1 (by decide) ?_
  refine wf_icmp_lt 12 dc_LR_separator_2 (by decide) (fun h1 => ?_) (fun h1 => ?_)
  · exact Wf.to (by exact ⟨rfl, rfl, trivial⟩) (no (bw_f (by have : x.toInt < 1 := Int32.lt_iff_toInt_lt.mp h1; omega)))
  refine wf_iload_n dc_LR_separator_5 rfl ?_
  refine wf_sipush 255 dc_LR_separator_6 (by decide) ?_
  refine wf_icmp_le 22 dc_LR_separator_9 (by decide) (fun h2 => ?_) (fun h2 => ?_)
  · have hb : bw x 1 255 = true := bw_t.mpr ⟨by have : ¬ x.toInt < 1 := fun z => h1 (Int32.lt_iff_toInt_lt.mpr z); omega, by have : x.toInt ≤ 255 := Int32.le_iff_toInt_le.mp h2; omega⟩
    rw [if_pos hb]
    refine wf_aload_n dc_LR_separator_22 rfl ?_
    refine wf_geti dc_LR_separator_23 fl_LR_69 rfl (by assumption) ?_
    rw [hS.1]
    refine wf_istore_n dc_LR_separator_26 (by decide) ?_
    refine wf_aload_n dc_LR_separator_27 rfl ?_
    refine wf_iload_n dc_LR_separator_28 rfl ?_
    refine wf_puti dc_LR_separator_29 fl_LR_69 (Or.inl nf_LR_12) rfl rfl rfl (by assumption) ?_
    refine wf_iload_n dc_LR_separator_32 rfl ?_
    obtain ⟨c, c1, c2, c3⟩ := bw_n (lo := 1) (hi := 255) hb
    exact wf_ireturn rfl dc_LR_separator_33 ⟨_, rfl, rfl, rfl, rfl, rfl, rfl, rfl, wf_up_s, c, c1, by omega, c3⟩
  · exact Wf.to (by exact ⟨rfl, rfl, trivial⟩) (no (bw_f (by have : ¬ x.toInt ≤ 255 := fun z => h2 (Int32.le_iff_toInt_le.mpr z); omega)))
theorem k_LR_rule {ru : List RuS} {p x y : Int32} (hl : l.stackTraces = false) (hA : lr_at t r b pm) (hR : lp_rul i b ru) : Ct l E n0 mt_LR_rule (d + 7) 1 6 [.ref (b + 0), .int p, .int x, .int y] nx t r i g (if pt_ok p x y = true then (if ru.length = 12 then qX xSE nx t r i g else qI nx t r g (fun z i' => z = nI ru.length ∧ lp_rul i' b (ru ++ [(p, x, y, [])]) ∧ fr_is [b + 0, b + (145 + 4 * ru.length)] i i' ∧ ∀ k, k ≠ 10 → i' (b + 0) k = i (b + 0) k)) else qX xNE nx t r i g) := by
  have t0 := hA.1.1
  have r4 : r (b + 0) 4 = some (b + 20) := hA.2.1 (0, 4, 20) (by decide +kernel)
  have t20 := hA.1.2 20 (20, .inr (5, 12)) (by decide +kernel)
  have h12 := hR.2.1
  refine Ct.of (by decide) (Nat.le_of_ble_eq_true rfl) ?_
  refine wf_iload_n dc_LR_rule_0 rfl ?_
  refine wf_iload_n dc_LR_rule_1 rfl ?_
  refine wf_iload_n dc_LR_rule_2 rfl ?_
  refine wf_is3 (M' := mt_LR_isPattern) dc_LR_rule_3 tg_LR_isPattern ml_LR_135 sm_LR_isPattern (Nat.le_of_ble_eq_true rfl) (Nat.le_refl _) (Nat.le_refl _) (c_LR_isPattern) qI_nt (qI_go (fun x2 i2 hp => ?_))
  obtain ⟨rfl, hq⟩ := hp; subst i2
  cases hb : pt_ok p x y with
  | false =>
    refine wf_if_ne 19 dc_LR_rule_6 (by decide) (fun hc => absurd rfl hc) (fun hc => ?_)
    rw [if_neg (by decide)]
    exact wf_throw hl xw_LR_139 (by decide +kernel) dc_LR_rule_9 dc_LR_rule_12 dc_LR_rule_13 dc_LR_rule_15 dc_LR_rule_18 (by omega) (by omega) (by omega) ⟨rfl, rfl, rfl, rfl, rfl, rfl⟩
  | true =>
    refine wf_if_ne 19 dc_LR_rule_6 (by decide) (fun hc => ?_) (fun hc => absurd hc (by decide))
    rw [if_pos rfl]
    refine wf_aload_n dc_LR_rule_19 rfl ?_
    refine wf_geti dc_LR_rule_20 fl_LR_141 rfl (by assumption) ?_
    rw [hR.1]
    refine wf_bipush 12 dc_LR_rule_23 (by decide) ?_
    by_cases he : ru.length = 12
    · rw [if_pos he, he]
      refine wf_icmp_ne 38 dc_LR_rule_25 (by decide) (fun hc => absurd rfl hc) (fun hc => ?_)
      exact wf_throw hl xw_LR_144 (by decide +kernel) dc_LR_rule_28 dc_LR_rule_31 dc_LR_rule_32 dc_LR_rule_34 dc_LR_rule_37 (by omega) (by omega) (by omega) ⟨rfl, rfl, rfl, rfl, rfl, rfl⟩
    · rw [if_neg he]
      refine wf_icmp_ne 38 dc_LR_rule_25 (by decide) (fun hc => ?_) (fun hc => absurd ((nI_eq (b := 12) (by omega) (by omega)).mp (hc)) he)
      have hlt : ru.length < 12 := by omega
      have hcl : (nI ru.length).toNatClampNeg = ru.length := nI_clamp (by omega)
      have w20 : ∀ k, k < 12 → (20, k, 145 + 4 * k) ∈ lr_Wf := by decide +kernel
      have r20 : r (b + 20) (nI ru.length).toNatClampNeg = some (b + (145 + 4 * ru.length)) := by rw [hcl]; exact hA.2.1 _ (w20 _ hlt)
      have hru := lr_rul hA hlt
      have tR := hru.1
      refine wf_aload_n dc_LR_rule_38 rfl ?_
      refine wf_getr dc_LR_rule_39 fl_LR_37 rfl (by assumption) (by assumption) ?_
      refine wf_aload_n dc_LR_rule_42 rfl ?_
      refine wf_geti dc_LR_rule_43 fl_LR_141 rfl (by assumption) ?_
      rw [hR.1]
      refine wf_aaload (y := 5) dc_LR_rule_46 rfl rfl (by assumption) (vp_in_nI (by omega) (by omega)) (r20) ?_
      refine wf_iload_n dc_LR_rule_47 rfl ?_
      refine wf_iload_n dc_LR_rule_48 rfl ?_
      refine wf_iload_n dc_LR_rule_49 rfl ?_
      refine wf_iv3 (M' := mt_Rul_begin) (c := 6) dc_LR_rule_50 tg_Rul_begin ml_LR_146 im_Rul_begin se_Rul_begin ⟨_, rfl, rfl⟩ (by assumption) (Nat.le_of_ble_eq_true rfl) (Nat.le_refl _) (Nat.le_refl _) (c_Rul_begin hru) qV_nt (qV_go (fun i2 hp => ?_))
      obtain ⟨m1, f1⟩ := hp
      have h0 : ∀ k, i2 (b + 0) k = i (b + 0) k := fun k => f1 _ (by simp only [List.mem_singleton]; omega) k
      refine wf_aload_n dc_LR_rule_53 rfl ?_
      refine wf_dup dc_LR_rule_54 rfl ?_
      refine wf_geti dc_LR_rule_55 fl_LR_141 rfl (by assumption) ?_
      refine wf_iconst 1 dc_LR_rule_58 (by decide) ?_
      refine wf_iadd dc_LR_rule_59 ?_
      rw [h0 10, hR.1, nI_1]
      refine wf_puti dc_LR_rule_60 fl_LR_141 (Or.inl nf_LR_10) rfl rfl rfl (by assumption) ?_
      refine wf_aload_n dc_LR_rule_63 rfl ?_
      refine wf_geti dc_LR_rule_64 fl_LR_141 rfl (by assumption) ?_
      rw [wf_up_s]
      refine wf_iconst 1 dc_LR_rule_67 (by decide) ?_
      refine wf_isub dc_LR_rule_68 ?_
      rw [nI_pred]
      have f2 : fr_is [b + 0] i2 (wf_up i2 (b + 0) 10 (nI (ru.length + 1))) := fr_up fr_rf (by simp)
      refine wf_ireturn rfl dc_LR_rule_69 ⟨_, rfl, rfl, rfl, rfl, rfl, rfl, ⟨by rw [List.length_append]; exact wf_up_s, by rw [List.length_append]; simp only [List.length_cons, List.length_nil]; omega, fun k hk => ?_⟩, fr_mo (fr_tr f1 f2) (fun z hz => by simp only [List.mem_append, List.mem_cons, List.not_mem_nil, or_false] at hz ⊢; omega), fun k hk => (wf_up_k hk).trans (h0 k)⟩
      rw [List.length_append, List.length_singleton] at hk
      have f3 : ∀ o, 145 ≤ o → fr_is [b + (145 + 4 * ru.length)] i2 (wf_up i2 (b + 0) 10 (nI (ru.length + 1))) → True := fun _ _ _ => trivial
      by_cases hkl : k < ru.length
      · have hd : ru_d (ru ++ [(p, x, y, [])]) k = ru_d ru k := by
          unfold ru_d
          rw [List.getD_eq_getElem?_getD, List.getD_eq_getElem?_getD, List.getElem?_append_left hkl]
        rw [hd]
        exact ⟨(hR.2.2 k hkl).1.fr (fr_tr f1 f2) (by simp only [List.mem_append, List.mem_cons, List.not_mem_nil, or_false]; omega) (by simp only [List.mem_append, List.mem_cons, List.not_mem_nil, or_false]; omega) (by simp only [List.mem_append, List.mem_cons, List.not_mem_nil, or_false]; omega) (by simp only [List.mem_append, List.mem_cons, List.not_mem_nil, or_false]; omega), (hR.2.2 k hkl).2⟩
      · have hke : k = ru.length := by omega
        subst hke
        have hd : ru_d (ru ++ [(p, x, y, [])]) ru.length = (p, x, y, []) := by
          unfold ru_d
          rw [List.getD_eq_getElem?_getD, List.getElem?_append_right (Nat.le_refl _), Nat.sub_self]
          rfl
        rw [hd]
        exact ⟨m1.fr f2 (by simp only [List.mem_cons, List.not_mem_nil, or_false]; omega) (by simp only [List.mem_cons, List.not_mem_nil, or_false]; omega) (by simp only [List.mem_cons, List.not_mem_nil, or_false]; omega) (by simp only [List.mem_cons, List.not_mem_nil, or_false]; omega), Nat.zero_le _, hb, fun k hk => absurd hk (Nat.not_lt_zero _)⟩
end
