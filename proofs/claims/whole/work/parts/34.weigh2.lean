/-! class Reader: weigh, weighAll -/
section
variable {l : Launch} {E : We} {n0 d nx : Nat} {t : Wt} {r : Wr} {i : Wi} {g : Wl}
theorem c_Rdr_weigh {a n m k u : Nat} {V : Nat → Nat} {N : RdN} {W : List WtV} {Q : Wq} (hA : rd_at t r a V n) (hm60 : m ≤ 60) (hN : rn_is i V N) (hok : nd_ok N m) (hW : we_is i g V W) (hk : k < N.length) (hWl : W.length = k) (hu : u < 4) (hQ : ∀ b F L, wt_st u W (rd_n N k) = (b, F, L) → Q (.inl none) nx t r (wf_up i (V 3) k (wt_b b)) (wf_up (wf_up g (V 4) k F) (V 5) k L)) : Ct l E n0 mt_Rdr_weigh (d + 1) 0 0 [.ref a, .int (nI k), .int (nI u)] nx t r i g Q := by
  have hA' := hA
  obtain ⟨ha, hr, r7, -, hT3, t3, t4, t5, -⟩ := hA
  have r0 := hr 0 (by omega) (by omega) (by omega) (by omega)
  have r1 := hr 1 (by omega) (by omega) (by omega) (by omega)
  have r2 := hr 2 (by omega) (by omega) (by omega) (by omega)
  have r3 := hr 3 (by omega) (by omega) (by omega) (by omega)
  have r4 := hr 4 (by omega) (by omega) (by omega) (by omega)
  have r5 := hr 5 (by omega) (by omega) (by omega) (by omega)
  have t0 := hT3 0 (by omega)
  have t1 := hT3 1 (by omega)
  have t2 := hT3 2 (by omega)
  obtain ⟨hl, hN⟩ := hN
  obtain ⟨k0, k1, k2⟩ := hN k (by omega)
  obtain ⟨o1, o2, o3, o4⟩ := hok k (by omega)
  revert k0 k1 k2 o1 o2 o3 o4 hQ
  generalize rd_n N k = q
  obtain ⟨q1, q2, q3⟩ := q
  intro hQ k0 k1 k2 o1 o2 o3 o4
  simp only at k0 k1 k2 o1 o2 o3 o4
  have hkc : (nI k).toNatClampNeg = k := nI_clamp (by omega)
  have hk121 : k < 121 := by omega
  have hkin : vp_in (nI k) 121 := vp_in_nI hk121 (by omega)
  refine Ct.of (by decide) (Nat.le_of_ble_eq_true rfl) ?_
  refine wf_aload_n dc_Rdr_weigh_0 rfl ?_
  refine wf_getr dc_Rdr_weigh_1 fl_Rdr_15 rfl (by assumption) (by assumption) ?_
  refine wf_iload_n dc_Rdr_weigh_4 rfl ?_
  refine wf_iaload (y := 0) dc_Rdr_weigh_5 rfl (by assumption) (hkin) ?_
  rw [hkc, k1]
  refine wf_istore_n dc_Rdr_weigh_6 (by decide) ?_
  refine wf_aload_n dc_Rdr_weigh_7 rfl ?_
  refine wf_getr dc_Rdr_weigh_8 fl_Rdr_18 rfl (by assumption) (by assumption) ?_
  refine wf_iload_n dc_Rdr_weigh_11 rfl ?_
  refine wf_iaload (y := 0) dc_Rdr_weigh_12 rfl (by assumption) (hkin) ?_
  rw [hkc, k2]
  refine wf_istore dc_Rdr_weigh_13 (by decide) ?_
  refine wf_aload_n dc_Rdr_weigh_15 rfl ?_
  refine wf_getr dc_Rdr_weigh_16 fl_Rdr_11 rfl (by assumption) (by assumption) ?_
  refine wf_iload_n dc_Rdr_weigh_19 rfl ?_
  refine wf_iaload (y := 0) dc_Rdr_weigh_20 rfl (by assumption) (hkin) ?_
  rw [hkc, k0]
  have cases8 : q1 = 0 ∨ q1 = 1 ∨ q1 = 2 ∨ q1 = 3 ∨ q1 = 4 ∨ q1 = 5 ∨ q1 = 6 ∨ q1 = 7 ∨ q1 = 8 := by omega
  have huc : u = 0 ∨ u = 1 ∨ u = 2 ∨ u = 3 := by omega
  rcases cases8 with h | h | h | h | h | h | h | h | h
  · subst h
    refine wf_tableOut 319 dc_Rdr_weigh_21 (Or.inl (by decide)) (by decide) ?_
    refine wf_aload_n dc_Rdr_weigh_319 rfl ?_
    refine wf_iload_n dc_Rdr_weigh_320 rfl ?_
    refine wf_iconst 1 dc_Rdr_weigh_321 (by decide) ?_
    refine wf_lconst 0 dc_Rdr_weigh_322 (by decide) ?_
    refine wf_lconst 0 dc_Rdr_weigh_323 (by decide) ?_
    refine wf_iv4 (M' := mt_Rdr_set) (c := 4) dc_Rdr_weigh_324 tg_Rdr_set ml_Rdr_152 im_Rdr_set se_Rdr_set ⟨_, rfl, rfl⟩ (by assumption) (Nat.le_of_ble_eq_true rfl) (Nat.le_refl _) (Nat.le_refl _) (c_Rdr_set (b := true) hA' hk121) qVl_nt (qVl_go (fun i2 g2 hp => ?_))
    obtain ⟨rfl, rfl⟩ := hp
    exact wf_return rfl dc_Rdr_weigh_327 (hQ true 0 0 rfl)
  · subst h
    refine wf_tableIn (off := 62) 83 dc_Rdr_weigh_21 (by decide) (by decide) rfl (by decide) ?_
    have c96 : ∀ b, b = decide (u % 2 = 1) → Wf l E n0 mt_Rdr_weigh (d + 1) 0 0 Q 0 0 96 [(0, .ref a), (1, .int (nI k)), (2, .int (nI u))] [.int (wt_b b), .int (nI k), .ref a] nx t r i g := by
      intro b hb
      refine wf_lconst 0 dc_Rdr_weigh_96 (by decide) ?_
      refine wf_lconst 0 dc_Rdr_weigh_97 (by decide) ?_
      refine wf_iv4 (M' := mt_Rdr_set) (c := 4) dc_Rdr_weigh_98 tg_Rdr_set ml_Rdr_152 im_Rdr_set se_Rdr_set ⟨_, rfl, rfl⟩ (by assumption) (Nat.le_of_ble_eq_true rfl) (Nat.le_refl _) (Nat.le_refl _) (c_Rdr_set hA' hk121) qVl_nt (qVl_go (fun i2 g2 hp => ?_))
      refine wf_goto 327 dc_Rdr_weigh_101 (by decide) ?_
      obtain ⟨rfl, rfl⟩ := hp
      exact wf_return rfl dc_Rdr_weigh_327 (hQ b 0 0 (by rw [hb]; rfl))
    refine wf_aload_n dc_Rdr_weigh_83 rfl ?_
    refine wf_iload_n dc_Rdr_weigh_84 rfl ?_
    refine wf_iload_n dc_Rdr_weigh_85 rfl ?_
    refine wf_iconst 1 dc_Rdr_weigh_86 (by decide) ?_
    refine wf_iand dc_Rdr_weigh_87 ?_
    rcases huc with h | h | h | h <;> subst h
    · refine wf_if_eq 95 dc_Rdr_weigh_88 (by decide) (fun _ => ?_) (fun hc => absurd (by decide) hc)
      refine wf_iconst 0 dc_Rdr_weigh_95 (by decide) ?_
      exact Wf.to (by exact ⟨rfl, rfl, rfl, trivial⟩) (c96 false rfl)
    · refine wf_if_eq 95 dc_Rdr_weigh_88 (by decide) (fun hc => absurd hc (by decide)) (fun _ => ?_)
      refine wf_iconst 1 dc_Rdr_weigh_91 (by decide) ?_
      refine wf_goto 96 dc_Rdr_weigh_92 (by decide) ?_
      exact Wf.to (by exact ⟨rfl, rfl, rfl, trivial⟩) (c96 true rfl)
    · refine wf_if_eq 95 dc_Rdr_weigh_88 (by decide) (fun _ => ?_) (fun hc => absurd (by decide) hc)
      refine wf_iconst 0 dc_Rdr_weigh_95 (by decide) ?_
      exact Wf.to (by exact ⟨rfl, rfl, rfl, trivial⟩) (c96 false rfl)
    · refine wf_if_eq 95 dc_Rdr_weigh_88 (by decide) (fun hc => absurd hc (by decide)) (fun _ => ?_)
      refine wf_iconst 1 dc_Rdr_weigh_91 (by decide) ?_
      refine wf_goto 96 dc_Rdr_weigh_92 (by decide) ?_
      exact Wf.to (by exact ⟨rfl, rfl, rfl, trivial⟩) (c96 true rfl)
  · subst h
    refine wf_tableIn (off := 83) 104 dc_Rdr_weigh_21 (by decide) (by decide) rfl (by decide) ?_
    have c117 : ∀ b, b = decide (2 ≤ u) → Wf l E n0 mt_Rdr_weigh (d + 1) 0 0 Q 0 0 117 [(0, .ref a), (1, .int (nI k)), (2, .int (nI u))] [.int (wt_b b), .int (nI k), .ref a] nx t r i g := by
      intro b hb
      refine wf_lconst 0 dc_Rdr_weigh_117 (by decide) ?_
      refine wf_lconst 0 dc_Rdr_weigh_118 (by decide) ?_
      refine wf_iv4 (M' := mt_Rdr_set) (c := 4) dc_Rdr_weigh_119 tg_Rdr_set ml_Rdr_152 im_Rdr_set se_Rdr_set ⟨_, rfl, rfl⟩ (by assumption) (Nat.le_of_ble_eq_true rfl) (Nat.le_refl _) (Nat.le_refl _) (c_Rdr_set hA' hk121) qVl_nt (qVl_go (fun i2 g2 hp => ?_))
      refine wf_goto 327 dc_Rdr_weigh_122 (by decide) ?_
      obtain ⟨rfl, rfl⟩ := hp
      exact wf_return rfl dc_Rdr_weigh_327 (hQ b 0 0 (by rw [hb]; rfl))
    refine wf_aload_n dc_Rdr_weigh_104 rfl ?_
    refine wf_iload_n dc_Rdr_weigh_105 rfl ?_
    refine wf_iload_n dc_Rdr_weigh_106 rfl ?_
    refine wf_iconst 2 dc_Rdr_weigh_107 (by decide) ?_
    refine wf_iand dc_Rdr_weigh_108 ?_
    rcases huc with h | h | h | h <;> subst h
    · refine wf_if_eq 116 dc_Rdr_weigh_109 (by decide) (fun _ => ?_) (fun hc => absurd (by decide) hc)
      refine wf_iconst 0 dc_Rdr_weigh_116 (by decide) ?_
      exact Wf.to (by exact ⟨rfl, rfl, rfl, trivial⟩) (c117 false rfl)
    · refine wf_if_eq 116 dc_Rdr_weigh_109 (by decide) (fun _ => ?_) (fun hc => absurd (by decide) hc)
      refine wf_iconst 0 dc_Rdr_weigh_116 (by decide) ?_
      exact Wf.to (by exact ⟨rfl, rfl, rfl, trivial⟩) (c117 false rfl)
    · refine wf_if_eq 116 dc_Rdr_weigh_109 (by decide) (fun hc => absurd hc (by decide)) (fun _ => ?_)
      refine wf_iconst 1 dc_Rdr_weigh_112 (by decide) ?_
      refine wf_goto 117 dc_Rdr_weigh_113 (by decide) ?_
      exact Wf.to (by exact ⟨rfl, rfl, rfl, trivial⟩) (c117 true rfl)
    · refine wf_if_eq 116 dc_Rdr_weigh_109 (by decide) (fun hc => absurd hc (by decide)) (fun _ => ?_)
      refine wf_iconst 1 dc_Rdr_weigh_112 (by decide) ?_
      refine wf_goto 117 dc_Rdr_weigh_113 (by decide) ?_
      exact Wf.to (by exact ⟨rfl, rfl, rfl, trivial⟩) (c117 true rfl)
  · subst h
    refine wf_tableIn (off := 47) 68 dc_Rdr_weigh_21 (by decide) (by decide) rfl (by decide) ?_
    refine wf_aload_n dc_Rdr_weigh_68 rfl ?_
    refine wf_iload_n dc_Rdr_weigh_69 rfl ?_
    refine wf_iconst 0 dc_Rdr_weigh_70 (by decide) ?_
    refine wf_lconst 1 dc_Rdr_weigh_71 (by decide) ?_
    refine wf_iload_n dc_Rdr_weigh_72 rfl ?_
    refine wf_lshl dc_Rdr_weigh_73 ?_
    refine wf_lconst 1 dc_Rdr_weigh_74 (by decide) ?_
    refine wf_iload_n dc_Rdr_weigh_75 rfl ?_
    refine wf_lshl dc_Rdr_weigh_76 ?_
    refine wf_iv4 (M' := mt_Rdr_set) (c := 4) dc_Rdr_weigh_77 tg_Rdr_set ml_Rdr_152 im_Rdr_set se_Rdr_set ⟨_, rfl, rfl⟩ (by assumption) (Nat.le_of_ble_eq_true rfl) (Nat.le_refl _) (Nat.le_refl _) (c_Rdr_set (b := false) hA' hk121) qVl_nt (qVl_go (fun i2 g2 hp => ?_))
    refine wf_goto 327 dc_Rdr_weigh_80 (by decide) ?_
    obtain ⟨rfl, rfl⟩ := hp
    exact wf_return rfl dc_Rdr_weigh_327 (hQ false _ _ rfl)
  · subst h
    refine wf_tableIn (off := 104) 125 dc_Rdr_weigh_21 (by decide) (by decide) rfl (by decide) ?_
    have hq2 : q2 < k := o3 (by omega)
    have hq3 : q3 < k := o4 (.inl rfl)
    obtain ⟨e1, e2, e3⟩ := hW q2 (by omega)
    obtain ⟨f1, f2, f3⟩ := hW q3 (by omega)
    have hst : wt_st u W (4, q2, q3) = ((wt_v W q2).1 && (wt_v W q3).1, (wt_v W q2).2.1 ||| (if (wt_v W q2).1 = true then (wt_v W q3).2.1 else 0), (wt_v W q3).2.2 ||| (if (wt_v W q3).1 = true then (wt_v W q2).2.2 else 0)) := rfl
    revert e1 e2 e3 f1 f2 f3 hst
    generalize wt_v W q2 = vl
    generalize wt_v W q3 = vr
    obtain ⟨bl, fl, ll⟩ := vl
    obtain ⟨br, fr, lr⟩ := vr
    intro e1 e2 e3 f1 f2 f3 hst
    simp only at e1 e2 e3 f1 f2 f3 hst
    have in2 : vp_in (nI q2) 121 := vp_in_nI (by omega) (by omega)
    have in3 : vp_in (nI q3) 121 := vp_in_nI (by omega) (by omega)
    have c2 : (nI q2).toNatClampNeg = q2 := nI_clamp (by omega)
    have c3 : (nI q3).toNatClampNeg = q3 := nI_clamp (by omega)
    have c205 : ∀ y, y = (if br = true then ll else 0) → Wf l E n0 mt_Rdr_weigh (d + 1) 0 0 Q 0 0 205 [(0, .ref a), (1, .int (nI k)), (2, .int (nI u)), (3, .int (nI q2)), (4, .int (nI q3))] [.long y, .long lr, .long (fl ||| (if bl = true then fr else 0)), .int (wt_b (bl && br)), .int (nI k), .ref a] nx t r i g := by
      intro y hy
      refine wf_lor dc_Rdr_weigh_205 ?_
      refine wf_iv4 (M' := mt_Rdr_set) (c := 4) dc_Rdr_weigh_206 tg_Rdr_set ml_Rdr_152 im_Rdr_set se_Rdr_set ⟨_, rfl, rfl⟩ (by assumption) (Nat.le_of_ble_eq_true rfl) (Nat.le_refl _) (Nat.le_refl _) (c_Rdr_set hA' hk121) qVl_nt (qVl_go (fun i2 g2 hp => ?_))
      refine wf_goto 327 dc_Rdr_weigh_209 (by decide) ?_
      obtain ⟨rfl, rfl⟩ := hp
      exact wf_return rfl dc_Rdr_weigh_327 (hQ _ _ _ (by rw [hst, hy]))
    have c177 : ∀ y, y = (if bl = true then fr else 0) → Wf l E n0 mt_Rdr_weigh (d + 1) 0 0 Q 0 0 177 [(0, .ref a), (1, .int (nI k)), (2, .int (nI u)), (3, .int (nI q2)), (4, .int (nI q3))] [.long y, .long fl, .int (wt_b (bl && br)), .int (nI k), .ref a] nx t r i g := by
      intro y hy
      subst hy
      refine wf_lor dc_Rdr_weigh_177 ?_
      refine wf_aload_n dc_Rdr_weigh_178 rfl ?_
      refine wf_getr dc_Rdr_weigh_179 fl_Rdr_29 rfl (by assumption) (by assumption) ?_
      refine wf_iload dc_Rdr_weigh_182 rfl ?_
      refine wf_laload (y := 2) dc_Rdr_weigh_184 rfl (by assumption) (in3) ?_
      rw [c3, f3]
      refine wf_aload_n dc_Rdr_weigh_185 rfl ?_
      refine wf_getr dc_Rdr_weigh_186 fl_Rdr_21 rfl (by assumption) (by assumption) ?_
      refine wf_iload dc_Rdr_weigh_189 rfl ?_
      refine wf_zaload (y := 1) dc_Rdr_weigh_191 rfl (by assumption) (in3) ?_
      rw [c3, f1]
      cases br with
      | false =>
        refine wf_if_eq 204 dc_Rdr_weigh_192 (by decide) (fun _ => ?_) (fun hc => absurd rfl hc)
        refine wf_lconst 0 dc_Rdr_weigh_204 (by decide) ?_
        exact Wf.to (by exact ⟨rfl, rfl, rfl, rfl, rfl, trivial⟩) (c205 0 rfl)
      | true =>
        refine wf_if_eq 204 dc_Rdr_weigh_192 (by decide) (fun hc => absurd hc (by decide)) (fun _ => ?_)
        refine wf_aload_n dc_Rdr_weigh_195 rfl ?_
        refine wf_getr dc_Rdr_weigh_196 fl_Rdr_29 rfl (by assumption) (by assumption) ?_
        refine wf_iload_n dc_Rdr_weigh_199 rfl ?_
        refine wf_laload (y := 2) dc_Rdr_weigh_200 rfl (by assumption) (in2) ?_
        rw [c2, e3]
        refine wf_goto 205 dc_Rdr_weigh_201 (by decide) ?_
        exact Wf.to (by exact ⟨rfl, rfl, rfl, rfl, rfl, trivial⟩) (c205 ll rfl)
    have c151 : ∀ z, z = wt_b (bl && br) → Wf l E n0 mt_Rdr_weigh (d + 1) 0 0 Q 0 0 151 [(0, .ref a), (1, .int (nI k)), (2, .int (nI u)), (3, .int (nI q2)), (4, .int (nI q3))] [.int z, .int (nI k), .ref a] nx t r i g := by
      intro z hz
      subst hz
      refine wf_aload_n dc_Rdr_weigh_151 rfl ?_
      refine wf_getr dc_Rdr_weigh_152 fl_Rdr_25 rfl (by assumption) (by assumption) ?_
      refine wf_iload_n dc_Rdr_weigh_155 rfl ?_
      refine wf_laload (y := 2) dc_Rdr_weigh_156 rfl (by assumption) (in2) ?_
      rw [c2, e2]
      refine wf_aload_n dc_Rdr_weigh_157 rfl ?_
      refine wf_getr dc_Rdr_weigh_158 fl_Rdr_21 rfl (by assumption) (by assumption) ?_
      refine wf_iload_n dc_Rdr_weigh_161 rfl ?_
      refine wf_zaload (y := 1) dc_Rdr_weigh_162 rfl (by assumption) (in2) ?_
      rw [c2, e1]
      cases bl with
      | false =>
        refine wf_if_eq 176 dc_Rdr_weigh_163 (by decide) (fun _ => ?_) (fun hc => absurd rfl hc)
        refine wf_lconst 0 dc_Rdr_weigh_176 (by decide) ?_
        exact Wf.to (by exact ⟨rfl, rfl, rfl, rfl, rfl, trivial⟩) (c177 0 rfl)
      | true =>
        refine wf_if_eq 176 dc_Rdr_weigh_163 (by decide) (fun hc => absurd hc (by decide)) (fun _ => ?_)
        refine wf_aload_n dc_Rdr_weigh_166 rfl ?_
        refine wf_getr dc_Rdr_weigh_167 fl_Rdr_25 rfl (by assumption) (by assumption) ?_
        refine wf_iload dc_Rdr_weigh_170 rfl ?_
        refine wf_laload (y := 2) dc_Rdr_weigh_172 rfl (by assumption) (in3) ?_
        rw [c3, f2]
        refine wf_goto 177 dc_Rdr_weigh_173 (by decide) ?_
        exact Wf.to (by exact ⟨rfl, rfl, rfl, rfl, rfl, trivial⟩) (c177 fr rfl)
    refine wf_aload_n dc_Rdr_weigh_125 rfl ?_
    refine wf_iload_n dc_Rdr_weigh_126 rfl ?_
    refine wf_aload_n dc_Rdr_weigh_127 rfl ?_
    refine wf_getr dc_Rdr_weigh_128 fl_Rdr_21 rfl (by assumption) (by assumption) ?_
    refine wf_iload_n dc_Rdr_weigh_131 rfl ?_
    refine wf_zaload (y := 1) dc_Rdr_weigh_132 rfl (by assumption) (in2) ?_
    rw [c2, e1]
    cases bl with
    | false =>
      refine wf_if_eq 150 dc_Rdr_weigh_133 (by decide) (fun _ => ?_) (fun hc => absurd rfl hc)
      refine wf_iconst 0 dc_Rdr_weigh_150 (by decide) ?_
      exact Wf.to (by exact ⟨rfl, rfl, rfl, rfl, rfl, trivial⟩) (c151 0 rfl)
    | true =>
      refine wf_if_eq 150 dc_Rdr_weigh_133 (by decide) (fun hc => absurd hc (by decide)) (fun _ => ?_)
      refine wf_aload_n dc_Rdr_weigh_136 rfl ?_
      refine wf_getr dc_Rdr_weigh_137 fl_Rdr_21 rfl (by assumption) (by assumption) ?_
      refine wf_iload dc_Rdr_weigh_140 rfl ?_
      refine wf_zaload (y := 1) dc_Rdr_weigh_142 rfl (by assumption) (in3) ?_
      rw [c3, f1]
      cases br with
      | false =>
        refine wf_if_eq 150 dc_Rdr_weigh_143 (by decide) (fun _ => ?_) (fun hc => absurd rfl hc)
        refine wf_iconst 0 dc_Rdr_weigh_150 (by decide) ?_
        exact Wf.to (by exact ⟨rfl, rfl, rfl, rfl, rfl, trivial⟩) (c151 0 rfl)
      | true =>
        refine wf_if_eq 150 dc_Rdr_weigh_143 (by decide) (fun hc => absurd hc (by decide)) (fun _ => ?_)
        refine wf_iconst 1 dc_Rdr_weigh_146 (by decide) ?_
        refine wf_goto 151 dc_Rdr_weigh_147 (by decide) ?_
        exact Wf.to (by exact ⟨rfl, rfl, rfl, rfl, rfl, trivial⟩) (c151 1 rfl)
  · subst h
    refine wf_tableIn (off := 191) 212 dc_Rdr_weigh_21 (by decide) (by decide) rfl (by decide) ?_
    have hq2 : q2 < k := o3 (by omega)
    have hq3 : q3 < k := o4 (.inr rfl)
    obtain ⟨e1, e2, e3⟩ := hW q2 (by omega)
    obtain ⟨f1, f2, f3⟩ := hW q3 (by omega)
    have in2 : vp_in (nI q2) 121 := vp_in_nI (by omega) (by omega)
    have in3 : vp_in (nI q3) 121 := vp_in_nI (by omega) (by omega)
    have c2 : (nI q2).toNatClampNeg = q2 := nI_clamp (by omega)
    have c3 : (nI q3).toNatClampNeg = q3 := nI_clamp (by omega)
    have c238 : ∀ z, z = wt_b ((wt_v W q2).1 || (wt_v W q3).1) → Wf l E n0 mt_Rdr_weigh (d + 1) 0 0 Q 0 0 238 [(0, .ref a), (1, .int (nI k)), (2, .int (nI u)), (3, .int (nI q2)), (4, .int (nI q3))] [.int z, .int (nI k), .ref a] nx t r i g := by
      intro z hz
      subst hz
      refine wf_aload_n dc_Rdr_weigh_238 rfl ?_
      refine wf_getr dc_Rdr_weigh_239 fl_Rdr_25 rfl (by assumption) (by assumption) ?_
      refine wf_iload_n dc_Rdr_weigh_242 rfl ?_
      refine wf_laload (y := 2) dc_Rdr_weigh_243 rfl (by assumption) (in2) ?_
      rw [c2, e2]
      refine wf_aload_n dc_Rdr_weigh_244 rfl ?_
      refine wf_getr dc_Rdr_weigh_245 fl_Rdr_25 rfl (by assumption) (by assumption) ?_
      refine wf_iload dc_Rdr_weigh_248 rfl ?_
      refine wf_laload (y := 2) dc_Rdr_weigh_250 rfl (by assumption) (in3) ?_
      rw [c3, f2]
      refine wf_lor dc_Rdr_weigh_251 ?_
      refine wf_aload_n dc_Rdr_weigh_252 rfl ?_
      refine wf_getr dc_Rdr_weigh_253 fl_Rdr_29 rfl (by assumption) (by assumption) ?_
      refine wf_iload_n dc_Rdr_weigh_256 rfl ?_
      refine wf_laload (y := 2) dc_Rdr_weigh_257 rfl (by assumption) (in2) ?_
      rw [c2, e3]
      refine wf_aload_n dc_Rdr_weigh_258 rfl ?_
      refine wf_getr dc_Rdr_weigh_259 fl_Rdr_29 rfl (by assumption) (by assumption) ?_
      refine wf_iload dc_Rdr_weigh_262 rfl ?_
      refine wf_laload (y := 2) dc_Rdr_weigh_264 rfl (by assumption) (in3) ?_
      rw [c3, f3]
      refine wf_lor dc_Rdr_weigh_265 ?_
      refine wf_iv4 (M' := mt_Rdr_set) (c := 4) dc_Rdr_weigh_266 tg_Rdr_set ml_Rdr_152 im_Rdr_set se_Rdr_set ⟨_, rfl, rfl⟩ (by assumption) (Nat.le_of_ble_eq_true rfl) (Nat.le_refl _) (Nat.le_refl _) (c_Rdr_set hA' hk121) qVl_nt (qVl_go (fun i2 g2 hp => ?_))
      refine wf_goto 327 dc_Rdr_weigh_269 (by decide) ?_
      obtain ⟨rfl, rfl⟩ := hp
      exact wf_return rfl dc_Rdr_weigh_327 (hQ _ _ _ rfl)
    refine wf_aload_n dc_Rdr_weigh_212 rfl ?_
    refine wf_iload_n dc_Rdr_weigh_213 rfl ?_
    refine wf_aload_n dc_Rdr_weigh_214 rfl ?_
    refine wf_getr dc_Rdr_weigh_215 fl_Rdr_21 rfl (by assumption) (by assumption) ?_
    refine wf_iload_n dc_Rdr_weigh_218 rfl ?_
    refine wf_zaload (y := 1) dc_Rdr_weigh_219 rfl (by assumption) (in2) ?_
    rw [c2, e1]
    cases h1 : (wt_v W q2).1 with
    | true =>
      refine wf_if_ne 233 dc_Rdr_weigh_220 (by decide) (fun _ => ?_) (fun hc => absurd hc (by decide))
      refine wf_iconst 1 dc_Rdr_weigh_233 (by decide) ?_
      refine wf_goto 238 dc_Rdr_weigh_234 (by decide) ?_
      exact Wf.to (by exact ⟨rfl, rfl, rfl, rfl, rfl, trivial⟩) (c238 1 (by rw [h1]; rfl))
    | false =>
      refine wf_if_ne 233 dc_Rdr_weigh_220 (by decide) (fun hc => absurd rfl hc) (fun _ => ?_)
      refine wf_aload_n dc_Rdr_weigh_223 rfl ?_
      refine wf_getr dc_Rdr_weigh_224 fl_Rdr_21 rfl (by assumption) (by assumption) ?_
      refine wf_iload dc_Rdr_weigh_227 rfl ?_
      refine wf_zaload (y := 1) dc_Rdr_weigh_229 rfl (by assumption) (in3) ?_
      rw [c3, f1]
      cases h2 : (wt_v W q3).1 with
      | true =>
        refine wf_if_eq 237 dc_Rdr_weigh_230 (by decide) (fun hc => absurd hc (by decide)) (fun _ => ?_)
        refine wf_iconst 1 dc_Rdr_weigh_233 (by decide) ?_
        refine wf_goto 238 dc_Rdr_weigh_234 (by decide) ?_
        exact Wf.to (by exact ⟨rfl, rfl, rfl, rfl, rfl, trivial⟩) (c238 1 (by rw [h1, h2]; rfl))
      | false =>
        refine wf_if_eq 237 dc_Rdr_weigh_230 (by decide) (fun _ => ?_) (fun hc => absurd rfl hc)
        refine wf_iconst 0 dc_Rdr_weigh_237 (by decide) ?_
        exact Wf.to (by exact ⟨rfl, rfl, rfl, rfl, rfl, trivial⟩) (c238 0 (by rw [h1, h2]; rfl))
  all_goals (
    have hq2 : q2 < k := o3 (by omega)
    obtain ⟨e1, e2, e3⟩ := hW q2 (by omega)
    have in2 : vp_in (nI q2) 121 := vp_in_nI (by omega) (by omega)
    have c2 : (nI q2).toNatClampNeg = q2 := nI_clamp (by omega))
  · subst h
    refine wf_tableIn (off := 251) 272 dc_Rdr_weigh_21 (by decide) (by decide) rfl (by decide) ?_
    refine wf_aload_n dc_Rdr_weigh_272 rfl ?_
    refine wf_iload_n dc_Rdr_weigh_273 rfl ?_
    refine wf_iconst 1 dc_Rdr_weigh_274 (by decide) ?_
    refine wf_aload_n dc_Rdr_weigh_275 rfl ?_
    refine wf_getr dc_Rdr_weigh_276 fl_Rdr_25 rfl (by assumption) (by assumption) ?_
    refine wf_iload_n dc_Rdr_weigh_279 rfl ?_
    refine wf_laload (y := 2) dc_Rdr_weigh_280 rfl (by assumption) (in2) ?_
    rw [c2, e2]
    refine wf_aload_n dc_Rdr_weigh_281 rfl ?_
    refine wf_getr dc_Rdr_weigh_282 fl_Rdr_29 rfl (by assumption) (by assumption) ?_
    refine wf_iload_n dc_Rdr_weigh_285 rfl ?_
    refine wf_laload (y := 2) dc_Rdr_weigh_286 rfl (by assumption) (in2) ?_
    rw [c2, e3]
    refine wf_iv4 (M' := mt_Rdr_set) (c := 4) dc_Rdr_weigh_287 tg_Rdr_set ml_Rdr_152 im_Rdr_set se_Rdr_set ⟨_, rfl, rfl⟩ (by assumption) (Nat.le_of_ble_eq_true rfl) (Nat.le_refl _) (Nat.le_refl _) (c_Rdr_set (b := true) hA' hk121) qVl_nt (qVl_go (fun i2 g2 hp => ?_))
    refine wf_goto 327 dc_Rdr_weigh_290 (by decide) ?_
    obtain ⟨rfl, rfl⟩ := hp
    exact wf_return rfl dc_Rdr_weigh_327 (hQ _ _ _ rfl)
  · subst h
    refine wf_tableIn (off := 272) 293 dc_Rdr_weigh_21 (by decide) (by decide) rfl (by decide) ?_
    refine wf_aload_n dc_Rdr_weigh_293 rfl ?_
    refine wf_iload_n dc_Rdr_weigh_294 rfl ?_
    refine wf_aload_n dc_Rdr_weigh_295 rfl ?_
    refine wf_getr dc_Rdr_weigh_296 fl_Rdr_21 rfl (by assumption) (by assumption) ?_
    refine wf_iload_n dc_Rdr_weigh_299 rfl ?_
    refine wf_zaload (y := 1) dc_Rdr_weigh_300 rfl (by assumption) (in2) ?_
    rw [c2, e1]
    refine wf_aload_n dc_Rdr_weigh_301 rfl ?_
    refine wf_getr dc_Rdr_weigh_302 fl_Rdr_25 rfl (by assumption) (by assumption) ?_
    refine wf_iload_n dc_Rdr_weigh_305 rfl ?_
    refine wf_laload (y := 2) dc_Rdr_weigh_306 rfl (by assumption) (in2) ?_
    rw [c2, e2]
    refine wf_aload_n dc_Rdr_weigh_307 rfl ?_
    refine wf_getr dc_Rdr_weigh_308 fl_Rdr_29 rfl (by assumption) (by assumption) ?_
    refine wf_iload_n dc_Rdr_weigh_311 rfl ?_
    refine wf_laload (y := 2) dc_Rdr_weigh_312 rfl (by assumption) (in2) ?_
    rw [c2, e3]
    refine wf_iv4 (M' := mt_Rdr_set) (c := 4) dc_Rdr_weigh_313 tg_Rdr_set ml_Rdr_152 im_Rdr_set se_Rdr_set ⟨_, rfl, rfl⟩ (by assumption) (Nat.le_of_ble_eq_true rfl) (Nat.le_refl _) (Nat.le_refl _) (c_Rdr_set hA' hk121) qVl_nt (qVl_go (fun i2 g2 hp => ?_))
    refine wf_goto 327 dc_Rdr_weigh_316 (by decide) ?_
    obtain ⟨rfl, rfl⟩ := hp
    exact wf_return rfl dc_Rdr_weigh_327 (hQ _ _ _ rfl)
  · subst h
    refine wf_tableIn (off := 251) 272 dc_Rdr_weigh_21 (by decide) (by decide) rfl (by decide) ?_
    refine wf_aload_n dc_Rdr_weigh_272 rfl ?_
    refine wf_iload_n dc_Rdr_weigh_273 rfl ?_
    refine wf_iconst 1 dc_Rdr_weigh_274 (by decide) ?_
    refine wf_aload_n dc_Rdr_weigh_275 rfl ?_
    refine wf_getr dc_Rdr_weigh_276 fl_Rdr_25 rfl (by assumption) (by assumption) ?_
    refine wf_iload_n dc_Rdr_weigh_279 rfl ?_
    refine wf_laload (y := 2) dc_Rdr_weigh_280 rfl (by assumption) (in2) ?_
    rw [c2, e2]
    refine wf_aload_n dc_Rdr_weigh_281 rfl ?_
    refine wf_getr dc_Rdr_weigh_282 fl_Rdr_29 rfl (by assumption) (by assumption) ?_
    refine wf_iload_n dc_Rdr_weigh_285 rfl ?_
    refine wf_laload (y := 2) dc_Rdr_weigh_286 rfl (by assumption) (in2) ?_
    rw [c2, e3]
    refine wf_iv4 (M' := mt_Rdr_set) (c := 4) dc_Rdr_weigh_287 tg_Rdr_set ml_Rdr_152 im_Rdr_set se_Rdr_set ⟨_, rfl, rfl⟩ (by assumption) (Nat.le_of_ble_eq_true rfl) (Nat.le_refl _) (Nat.le_refl _) (c_Rdr_set (b := true) hA' hk121) qVl_nt (qVl_go (fun i2 g2 hp => ?_))
    refine wf_goto 327 dc_Rdr_weigh_290 (by decide) ?_
    obtain ⟨rfl, rfl⟩ := hp
    exact wf_return rfl dc_Rdr_weigh_327 (hQ _ _ _ rfl)
end
