section
variable {l : Launch} {E : We} {n0 d nx : Nat} {t : Wt} {r : Wr} {i : Wi} {g : Wl}
/-- an expression stays where a row changes -/
theorem ex_row {i' : Wi} {e a s n : Nat} {X : Rel} (h : ex_is t r i g e X) (hA : rw_at t r a s n) (hf : fr_is [a, s] i i') : ex_is t r i' g e X := by
  have h' := h
  obtain ⟨tk, fo, fi, la, me, m, ⟨he, -, -, -, -, ⟨hr4, ht4⟩, -⟩, -⟩ := h
  have h1 : ∀ z, t z = some (.inl 2) ∨ t z = some (.inr (1, 4)) → z ∉ [a, s] := by
    intro z hz hm
    rcases List.mem_cons.mp hm with rfl | hm
    · have h2 := hA.1
      rcases hz with hz | hz <;> (rw [hz] at h2; cases h2)
    · rw [List.mem_singleton.mp hm, hA.2.2.1] at hz
      rcases hz with hz | hz <;> cases hz
  exact h'.fr hf (h1 e (Or.inl he)) (fun m' hm => by
    cases hr4.symm.trans hm
    exact h1 _ (Or.inr ht4))
theorem mb_some {X : Rel} {w : List Int32} {p q : Nat} (h : mb_of X w p = some q) : p ≤ q ∧ q ≤ w.length ∧ ∃ e, en_of X w q = some e := by
  unfold mb_of at h
  cases hb : fd_of X w p with
  | none => rw [hb] at h; cases h
  | some b =>
    rw [hb] at h
    by_cases hc : b = p ∧ en_of X w b = some p
    · have h : (if b = p ∧ en_of X w b = some p then fd_of X w (p + 1) else some b) = some q := h
      rw [if_pos hc] at h
      obtain ⟨h1, h2, h3⟩ := fd_some h
      exact ⟨by omega, h2, h3⟩
    · have h : (if b = p ∧ en_of X w b = some p then fd_of X w (p + 1) else some b) = some q := h
      rw [if_neg hc] at h
      cases h
      exact fd_some hb
theorem c_Cut_matchBehind {a fA e p : Nat} {P R : Nat → Nat} {W : List Int32} {F : List (List Int32)} {X : Rel} (hA : cu_at t r a fA P R) (hI : cu_is i a P R W F) (hX : ex_is t r i g e X) (hsg : sg_ok W) (hp : p ≤ W.length) :
    Ct l E n0 mt_Cut_matchBehind (d + 3) 0 0 [.ref a, .ref e, .int (nI p)] nx t r i g (qI nx t r g (fun z i' => z = oI (mb_of X W p) ∧ i' = i)) := by
  have hA' := hA
  obtain ⟨ha, r0, r2, r3, r4, tA, hP, hrw, hab, hinj⟩ := hA
  have hW := hrw 30 (by omega)
  have hX' := hX
  obtain ⟨_, _, _, _, _, _, ⟨te, -⟩, -⟩ := hX
  obtain ⟨-, -, ⟨hw, hwl⟩, -, -⟩ := hI
  refine Ct.of (by decide) (Nat.le_of_ble_eq_true rfl) ?_
  refine wf_aload_n dc_Cut_matchBehind_0 rfl ?_
  refine wf_aload_n dc_Cut_matchBehind_1 rfl ?_
  refine wf_getr dc_Cut_matchBehind_2 fl_Cut_14 rfl (by assumption) (by assumption) ?_
  refine wf_iload_n dc_Cut_matchBehind_5 rfl ?_
  refine wf_iv2 (M' := mt_Exp_firstFrom) (c := 2) dc_Cut_matchBehind_6 tg_Exp_firstFrom ml_Cut_72 im_Exp_firstFrom se_Exp_firstFrom ⟨_, rfl, rfl⟩ (by assumption) (Nat.le_of_ble_eq_true rfl) (Nat.le_refl _) (Nat.le_refl _) (k_Exp_firstFrom hX' hW hw hwl hsg (by omega)) qI_nt (qI_go (fun x2 i2 hp => ?_))
  obtain ⟨rfl, rfl⟩ := hp
  refine wf_istore_n dc_Cut_matchBehind_9 (by decide) ?_
  refine wf_iload_n dc_Cut_matchBehind_10 rfl ?_
  refine wf_iload_n dc_Cut_matchBehind_11 rfl ?_
  cases hb : fd_of X W p with
  | none =>
    refine wf_icmp_ne 40 dc_Cut_matchBehind_12 (by decide) (fun hc => ?_) (fun hc => absurd hc (mx_m1 (by omega)))
    refine wf_iload_n dc_Cut_matchBehind_40 rfl ?_
    refine wf_ireturn rfl dc_Cut_matchBehind_41 ⟨_, rfl, rfl, rfl, rfl, rfl, ?_, rfl⟩
    unfold mb_of
    rw [hb]
  | some b =>
    obtain ⟨h1, h2, e1, h3⟩ := fd_some hb
    have he1 := (mx_of_some h3).1
    refine wf_icmp_ne 40 dc_Cut_matchBehind_12 (by decide) (fun hc => ?_) (fun hc => ?_)
    · refine wf_iload_n dc_Cut_matchBehind_40 rfl ?_
      refine wf_ireturn rfl dc_Cut_matchBehind_41 ⟨_, rfl, rfl, rfl, rfl, rfl, ?_, rfl⟩
      unfold mb_of
      rw [hb]
      show _ = oI (if b = p ∧ en_of X W b = some p then fd_of X W (p + 1) else some b)
      rw [if_neg (fun z => hc (by rw [z.1]; rfl))]
    · have hbp : b = p := (nI_eq (by omega) (by omega)).mp hc
      refine wf_aload_n dc_Cut_matchBehind_15 rfl ?_
      refine wf_aload_n dc_Cut_matchBehind_16 rfl ?_
      refine wf_getr dc_Cut_matchBehind_17 fl_Cut_14 rfl (by assumption) (by assumption) ?_
      refine wf_iload_n dc_Cut_matchBehind_20 rfl ?_
      refine wf_iv2 (M' := mt_Exp_longestFrom) (c := 2) dc_Cut_matchBehind_21 tg_Exp_longestFrom ml_Cut_78 im_Exp_longestFrom se_Exp_longestFrom ⟨_, rfl, rfl⟩ (by assumption) (Nat.le_of_ble_eq_true rfl) (Nat.le_refl _) (Nat.le_refl _) (k_Exp_longestFrom (b := b) hX' hW hw hwl hsg h2) qI_nt (qI_go (fun x2 i2 hp => ?_))
      obtain ⟨rfl, rfl⟩ := hp
      rw [h3]
      refine wf_iload_n dc_Cut_matchBehind_24 rfl ?_
      refine wf_icmp_ne 40 dc_Cut_matchBehind_25 (by decide) (fun hc => ?_) (fun hc => ?_)
      · refine wf_iload_n dc_Cut_matchBehind_40 rfl ?_
        refine wf_ireturn rfl dc_Cut_matchBehind_41 ⟨_, rfl, rfl, rfl, rfl, rfl, ?_, rfl⟩
        unfold mb_of
        rw [hb]
        show _ = oI (if b = p ∧ en_of X W b = some p then fd_of X W (p + 1) else some b)
        rw [if_neg (fun z => by
          have h4 := z.2
          rw [h3] at h4
          cases h4
          exact hc rfl)]
      · have hep : e1 = p := (nI_eq (by omega) (by omega)).mp hc
        refine wf_aload_n dc_Cut_matchBehind_28 rfl ?_
        refine wf_aload_n dc_Cut_matchBehind_29 rfl ?_
        refine wf_getr dc_Cut_matchBehind_30 fl_Cut_14 rfl (by assumption) (by assumption) ?_
        refine wf_iload_n dc_Cut_matchBehind_33 rfl ?_
        refine wf_iconst 1 dc_Cut_matchBehind_34 (by decide) ?_
        refine wf_iadd dc_Cut_matchBehind_35 ?_
        rw [nI_1]
        refine wf_iv2 (M' := mt_Exp_firstFrom) (c := 2) dc_Cut_matchBehind_36 tg_Exp_firstFrom ml_Cut_72 im_Exp_firstFrom se_Exp_firstFrom ⟨_, rfl, rfl⟩ (by assumption) (Nat.le_of_ble_eq_true rfl) (Nat.le_refl _) (Nat.le_refl _) (k_Exp_firstFrom (b := p + 1) hX' hW hw hwl hsg (by omega)) qI_nt (qI_go (fun x2 i2 hp => ?_))
        obtain ⟨rfl, rfl⟩ := hp
        refine wf_ireturn rfl dc_Cut_matchBehind_39 ⟨_, rfl, rfl, rfl, rfl, rfl, ?_, rfl⟩
        unfold mb_of
        rw [hb]
        show _ = oI (if b = p ∧ en_of X W b = some p then fd_of X W (p + 1) else some b)
        rw [if_pos ⟨hbp, by rw [h3, hep]⟩]
theorem c_Cut_replace {a fA e b s2 n2 M : Nat} {P R : Nat → Nat} {W T : List Int32} {F : List (List Int32)} {X : Rel} (hA : cu_at t r a fA P R) (hI : cu_is i a P R W F) (hX : ex_is t r i g e X) (hsg : sg_ok W) (hM : M ≤ 1000) (hB : rw_at t r b s2 n2) (hv : rw_is i b s2 T) (hl : T.length ≤ n2) (hT : b ≠ P 31 ∧ s2 ≠ R 31) :
    Ct l E n0 mt_Cut_replace (d + 4) 0 0 [.ref a, .ref e, .ref b, .int (nI M)] nx t r i g (qV nx t r g (fun i' => cu_is i' a P R ((rp_go X W T M 0 (fd_of X W 0) []).take 120) F ∧ fr_is (cu_fp a P R) i i')) := by
  have hA' := hA
  obtain ⟨ha, r0, r2, r3, r4, tA, hP, hrw, hab, hinj⟩ := hA
  have hW := hrw 30 (by omega)
  have hC := hrw 31 (by omega)
  have tW := hW.1
  have tC := hC.1
  have tb := hB.1
  have hne := hinj 31 30 (by omega) (by omega) (by omega)
  have hWl := hI.2.2.1.2
  obtain ⟨_, _, _, _, _, _, ⟨te, -⟩, -⟩ := id hX
  have hbR : b ≠ R 31 ∧ s2 ≠ P 31 := ⟨fun q => (by rw [q, hC.2.2.1] at tb; cases tb), fun q => (by have h3 := hB.2.2.1; rw [q, hC.1] at h3; cases h3)⟩
  refine Ct.of (by decide) (Nat.le_of_ble_eq_true rfl) ?_
  refine wf_aload_n dc_Cut_replace_0 rfl ?_
  refine wf_getr dc_Cut_replace_1 fl_Cut_27 rfl (by assumption) (by assumption) ?_
  refine wf_iv0 (M' := mt_Row_drop) (c := 5) dc_Cut_replace_4 tg_Row_drop ml_Cut_52 im_Row_drop se_Row_drop ⟨_, rfl, rfl⟩ (by assumption) (Nat.le_of_ble_eq_true rfl) (Nat.le_refl _) (Nat.le_refl _) (c_Row_drop hC) qV_nt (qV_go (fun i2 hp => ?_))
  obtain ⟨hw0, hf0⟩ := hp
  have hf0 : fr_is [P 31, R 31] i i2 := fr_mo hf0 (by simp)
  have hI0 := cu_other hA' hI hf0
  have hX0 := ex_row hX hC hf0
  have hv0 := hv.fr hf0 (by simp [hT.1, hbR.1]) (by simp [hT.2, hbR.2])
  refine wf_iconst 0 dc_Cut_replace_7 (by decide) ?_
  refine wf_istore dc_Cut_replace_8 (by decide) ?_
  refine wf_aload_n dc_Cut_replace_10 rfl ?_
  refine wf_aload_n dc_Cut_replace_11 rfl ?_
  refine wf_getr dc_Cut_replace_12 fl_Cut_14 rfl (by assumption) (by assumption) ?_
  refine wf_iconst 0 dc_Cut_replace_15 (by decide) ?_
  refine wf_iv2 (M' := mt_Exp_firstFrom) (c := 2) dc_Cut_replace_16 tg_Exp_firstFrom ml_Cut_72 im_Exp_firstFrom se_Exp_firstFrom ⟨_, rfl, rfl⟩ (by assumption) (Nat.le_of_ble_eq_true rfl) (Nat.le_refl _) (Nat.le_refl _) (k_Exp_firstFrom (b := 0) hX0 hW hI0.2.2.1.1 hI0.2.2.1.2 hsg (by omega)) qI_nt (qI_go (fun x2 i2 hp => ?_))
  obtain ⟨rfl, rfl⟩ := hp
  refine wf_istore dc_Cut_replace_19 (by decide) ?_
  refine wf_iconst 0 dc_Cut_replace_21 (by decide) ?_
  refine wf_istore dc_Cut_replace_22 (by decide) ?_
  -- behind the loop
  have fin : ∀ (i1 : Wi) (D : Nat) (o : List Int32) (x y : Int32), cu_is i1 a P R W F → fr_is [P 31, R 31] i i1 → rw_is i1 (P 31) (R 31) (o.take 120) → D ≤ W.length → o ++ W.drop D = rp_go X W T M 0 (fd_of X W 0) [] →
      Wf l E n0 mt_Cut_replace (d + 4) 0 0 (qV nx t r g (fun i' => cu_is i' a P R ((rp_go X W T M 0 (fd_of X W 0) []).take 120) F ∧ fr_is (cu_fp a P R) i i')) 0 0 86 [(0, .ref a), (1, .ref e), (2, .ref b), (3, .int (nI M)), (4, .int (nI D)), (5, .int x), (6, .int y)] [] nx t r i1 g := by
    intro i1 D o x y hI1 hf1 hw1 hD he
    refine wf_aload_n dc_Cut_replace_86 rfl ?_
    refine wf_getr dc_Cut_replace_87 fl_Cut_27 rfl (by assumption) (by assumption) ?_
    refine wf_aload_n dc_Cut_replace_90 rfl ?_
    refine wf_getr dc_Cut_replace_91 fl_Cut_14 rfl (by assumption) (by assumption) ?_
    refine wf_iload dc_Cut_replace_94 rfl ?_
    refine wf_aload_n dc_Cut_replace_96 rfl ?_
    refine wf_getr dc_Cut_replace_97 fl_Cut_14 rfl (by assumption) (by assumption) ?_
    refine wf_geti dc_Cut_replace_100 fl_Cut_41 rfl (by assumption) ?_
    rw [hI1.2.2.1.1.1]
    refine wf_iv3 (M' := mt_Row_addPart) (c := 5) dc_Cut_replace_103 tg_Row_addPart ml_Cut_55 im_Row_addPart se_Row_addPart ⟨_, rfl, rfl⟩ (by assumption) (Nat.le_of_ble_eq_true rfl) (Nat.le_refl _) (Nat.le_refl _) (k_Row_addPart hC hw1 tk_len hW hI1.2.2.1.1 hI1.2.2.1.2 hne.2 hD (Nat.le_refl _)) qV_nt (qV_go (fun i2 hp => ?_))
    obtain ⟨hw2, hf2⟩ := hp
    rw [tk_tk, List.take_of_length_le (l := W.drop D) (by rw [List.length_drop]; exact Nat.le_refl _), he] at hw2
    have hI2 := cu_other hA' hI1 hf2
    refine wf_aload_n dc_Cut_replace_106 rfl ?_
    refine wf_getr dc_Cut_replace_107 fl_Cut_14 rfl (by assumption) (by assumption) ?_
    refine wf_aload_n dc_Cut_replace_110 rfl ?_
    refine wf_getr dc_Cut_replace_111 fl_Cut_27 rfl (by assumption) (by assumption) ?_
    refine wf_iv1 (M' := mt_Row_become) (c := 5) dc_Cut_replace_114 tg_Row_become ml_Cut_30 im_Row_become se_Row_become ⟨_, rfl, rfl⟩ (by assumption) (Nat.le_of_ble_eq_true rfl) (Nat.le_refl _) (Nat.le_refl _) (c_Row_become hW hC hw2 tk_len) qV_nt (qV_go (fun i2 hp => ?_))
    obtain ⟨hw3, hf3⟩ := hp
    rw [List.take_take, Nat.min_self] at hw3
    exact wf_return rfl dc_Cut_replace_117 ⟨rfl, rfl, rfl, rfl, rfl, cu_line hA' hI2 hw3 tk_len hf3, fr_ss (cu_row (k := 31) (by omega) (fr_ss hf1 hf2)) (cu_row (k := 30) (by omega) hf3)⟩
  have loop : ∀ (k D : Nat) (B : Option Nat) (i1 : Wi) (o : List Int32), k ≤ M → cu_is i1 a P R W F → fr_is [P 31, R 31] i i1 → rw_is i1 (P 31) (R 31) (o.take 120) → D ≤ W.length → (∀ q, B = some q → D ≤ q ∧ q ≤ W.length ∧ ∃ e, en_of X W q = some e) → rp_go X W T k D B o = rp_go X W T M 0 (fd_of X W 0) [] →
      Wf l E n0 mt_Cut_replace (d + 4) 0 0 (qV nx t r g (fun i' => cu_is i' a P R ((rp_go X W T M 0 (fd_of X W 0) []).take 120) F ∧ fr_is (cu_fp a P R) i i')) 0 0 24 [(0, .ref a), (1, .ref e), (2, .ref b), (3, .int (nI M)), (4, .int (nI D)), (5, .int (oI B)), (6, .int (nI (M - k)))] [] nx t r i1 g := by
    intro k
    induction k with
    | zero =>
      intro D B i1 o hk hI1 hf1 hw1 hD hB2 he
      refine wf_iload dc_Cut_replace_24 rfl ?_
      refine wf_iload_n dc_Cut_replace_26 rfl ?_
      refine wf_icmp_ge 86 dc_Cut_replace_27 (by decide) (fun hc => ?_) (fun hc => absurd ((nI_leI (by omega) (by omega)).mpr (by omega)) hc)
      exact fin i1 D o _ _ hI1 hf1 hw1 hD (by rw [← he]; rfl)
    | succ k ih =>
      intro D B i1 o hk hI1 hf1 hw1 hD hB2 he
      refine wf_iload dc_Cut_replace_24 rfl ?_
      refine wf_iload_n dc_Cut_replace_26 rfl ?_
      refine wf_icmp_ge 86 dc_Cut_replace_27 (by decide) (fun hc => absurd ((nI_leI (by omega) (by omega)).mp hc) (by omega)) (fun hc => ?_)
      refine wf_iload dc_Cut_replace_30 rfl ?_
      refine wf_iconst (-1) dc_Cut_replace_32 (by decide) ?_
      cases B with
      | none =>
        refine wf_icmp_eq 86 dc_Cut_replace_33 (by decide) (fun hc => ?_) (fun hc => absurd rfl hc)
        exact fin i1 D o _ _ hI1 hf1 hw1 hD (by rw [← he]; rfl)
      | some q =>
        obtain ⟨hDq, hqW, e1, he1⟩ := hB2 q rfl
        have he1W := (mx_of_some he1).1
        refine wf_icmp_eq 86 dc_Cut_replace_33 (by decide) (fun hc => absurd hc.symm (mx_m1 (by omega))) (fun hc => ?_)
        have hX1 := ex_row hX hC hf1
        have hv1 := hv.fr hf1 (by simp [hT.1, hbR.1]) (by simp [hT.2, hbR.2])
        refine wf_aload_n dc_Cut_replace_36 rfl ?_
        refine wf_getr dc_Cut_replace_37 fl_Cut_27 rfl (by assumption) (by assumption) ?_
        refine wf_aload_n dc_Cut_replace_40 rfl ?_
        refine wf_getr dc_Cut_replace_41 fl_Cut_14 rfl (by assumption) (by assumption) ?_
        refine wf_iload dc_Cut_replace_44 rfl ?_
        refine wf_iload dc_Cut_replace_46 rfl ?_
        refine wf_iv3 (M' := mt_Row_addPart) (c := 5) dc_Cut_replace_48 tg_Row_addPart ml_Cut_55 im_Row_addPart se_Row_addPart ⟨_, rfl, rfl⟩ (by assumption) (Nat.le_of_ble_eq_true rfl) (Nat.le_refl _) (Nat.le_refl _) (k_Row_addPart (p := D) (q := q) hC hw1 tk_len hW hI1.2.2.1.1 hI1.2.2.1.2 hne.2 hDq hqW) qV_nt (qV_go (fun i2 hp => ?_))
        obtain ⟨hw2, hf2⟩ := hp
        rw [tk_tk] at hw2
        have hf12 := fr_ss hf1 hf2
        have hv2 := hv.fr hf12 (by simp [hT.1, hbR.1]) (by simp [hT.2, hbR.2])
        refine wf_aload_n dc_Cut_replace_51 rfl ?_
        refine wf_getr dc_Cut_replace_52 fl_Cut_27 rfl (by assumption) (by assumption) ?_
        refine wf_aload_n dc_Cut_replace_55 rfl ?_
        refine wf_iv1 (M' := mt_Row_addAll) (c := 5) dc_Cut_replace_56 tg_Row_addAll ml_Cut_69 im_Row_addAll se_Row_addAll ⟨_, rfl, rfl⟩ (by assumption) (Nat.le_of_ble_eq_true rfl) (Nat.le_refl _) (Nat.le_refl _) (k_Row_addAll hC hw2 tk_len hB hv2 hl hT.2.symm) qV_nt (qV_go (fun i2 hp => ?_))
        obtain ⟨hw3, hf3⟩ := hp
        rw [tk_tk] at hw3
        have hf13 := fr_ss hf12 hf3
        have hI3 := cu_other hA' (cu_other hA' hI1 hf2) hf3
        have hX3 := ex_row hX hC hf13
        refine wf_aload_n dc_Cut_replace_59 rfl ?_
        refine wf_aload_n dc_Cut_replace_60 rfl ?_
        refine wf_getr dc_Cut_replace_61 fl_Cut_14 rfl (by assumption) (by assumption) ?_
        refine wf_iload dc_Cut_replace_64 rfl ?_
        refine wf_iv2 (M' := mt_Exp_longestFrom) (c := 2) dc_Cut_replace_66 tg_Exp_longestFrom ml_Cut_78 im_Exp_longestFrom se_Exp_longestFrom ⟨_, rfl, rfl⟩ (by assumption) (Nat.le_of_ble_eq_true rfl) (Nat.le_refl _) (Nat.le_refl _) (k_Exp_longestFrom (b := q) hX3 hW hI3.2.2.1.1 hI3.2.2.1.2 hsg hqW) qI_nt (qI_go (fun x2 i2 hp => ?_))
        obtain ⟨rfl, rfl⟩ := hp
        rw [he1]
        refine wf_istore dc_Cut_replace_69 (by decide) ?_
        refine wf_aload_n dc_Cut_replace_71 rfl ?_
        refine wf_aload_n dc_Cut_replace_72 rfl ?_
        refine wf_iload dc_Cut_replace_73 rfl ?_
        refine wf_iv2 (M' := mt_Cut_matchBehind) (c := 1) dc_Cut_replace_75 tg_Cut_matchBehind ml_Cut_81 im_Cut_matchBehind se_Cut_matchBehind ⟨_, rfl, rfl⟩ (by assumption) (Nat.le_of_ble_eq_true rfl) (Nat.le_refl _) (Nat.le_refl _) (c_Cut_matchBehind (p := e1) hA' hI3 hX3 hsg he1W) qI_nt (qI_go (fun x2 i2 hp => ?_))
        obtain ⟨rfl, rfl⟩ := hp
        refine wf_istore dc_Cut_replace_78 (by decide) ?_
        refine wf_iinc _ dc_Cut_replace_80 rfl (nI_1 (M - (k + 1))) (by decide) ?_
        refine wf_goto 24 dc_Cut_replace_83 (by decide) ?_
        rw [show M - (k + 1) + 1 = M - k by omega]
        refine Wf.to (by exact ⟨rfl, rfl, rfl, rfl, rfl, rfl, rfl, trivial⟩) (ih e1 (mb_of X W e1) _ (o ++ (W.drop D).take (q - D) ++ T) (by omega) hI3 hf13 hw3 he1W (fun q' hq' => mb_some hq') ?_)
        rw [← he]
        conv => rhs; unfold rp_go
        rw [he1]
  refine Wf.to (L' := [(0, .ref a), (1, .ref e), (2, .ref b), (3, .int (nI M)), (4, .int (nI 0)), (5, .int (oI (fd_of X W 0))), (6, .int (nI (M - M)))]) ?_ (loop M 0 (fd_of X W 0) _ [] (Nat.le_refl _) hI0 hf0 hw0 (by omega) (fun q hq => fd_some hq) rfl)
  rw [Nat.sub_self]
  exact ⟨rfl, rfl, rfl, rfl, rfl, rfl, rfl, trivial⟩
end
