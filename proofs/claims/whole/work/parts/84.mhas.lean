/-! the reference: has; what an action keeps -/
theorem da_lv {sx tx : Nat → List Int32} {sp : Int32} {lc : Nat} {p a c : Int32} {v : LnS} (htx : ∀ k, k < 6 → s1 (tx k)) (ho : ac_ok p a c = true) (hsp : ∃ c : Nat, 1 ≤ c ∧ c < 256 ∧ sp = nI c) (h : lv_ok v) : lv_ok (da_of sx tx sp lc p a c v) := by
  obtain ⟨h1, h2, h3, h4, h5⟩ := h
  obtain ⟨k1, k2⟩ := da_keep (sx := sx) (lc := lc) (p := p) (a := a) (c := c) (v := v) htx (ac_67 ho) hsp h1 h2
  refine ⟨k1, k2, ?_⟩
  clear k1 k2
  have keep : v.2.1.length ≤ 30 ∧ v.2.2.2.1.length ≤ 40 ∧ sK v.2.2.2.1 := ⟨h3, h4, h5⟩
  have setf : (bw a 1 30 = true) → ∀ w : List Int32, ((fl_fill v.2.1 a.toNatClampNeg).set (a.toNatClampNeg - 1) w).length ≤ 30 := fun hb w => by
    obtain ⟨a', a1, a2, rfl⟩ := bw_n (lo := 1) (hi := 30) hb
    rw [nI_clamp (by omega), List.length_set, ff_len]
    omega
  unfold da_of
  by_cases c0 : p = 0
  · rw [if_pos c0]; exact keep
  rw [if_neg c0]
  by_cases c1 : p = 1
  · rw [if_pos c1]; exact keep
  rw [if_neg c1]
  by_cases c2 : p = 2
  · rw [if_pos c2]; exact keep
  rw [if_neg c2]
  by_cases c3 : p = 3
  · rw [if_pos c3]; exact ⟨h3, kt_grow_40 h4, sK_grow h5 (s1_fld h2)⟩
  rw [if_neg c3]
  by_cases c4 : p = 4
  · rw [if_pos c4]
    subst c4
    have ho2 : (bw a 1 30 && bw c 1 30) = true := ho
    rw [Bool.and_eq_true] at ho2
    exact ⟨setf ho2.1 _, h4, h5⟩
  rw [if_neg c4]
  by_cases c5 : p = 5
  · rw [if_pos c5]
    subst c5
    have ho2 : (bw a 1 30 && bw c 0 7) = true := ho
    rw [Bool.and_eq_true] at ho2
    exact ⟨setf ho2.1 _, h4, h5⟩
  rw [if_neg c5]
  by_cases c6 : p = 6
  · rw [if_pos c6]; exact ⟨fl_cut_30 _ _, h4, h5⟩
  rw [if_neg c6]
  by_cases c7 : p = 7
  · rw [if_pos c7]; exact ⟨fl_cut_30 _ _, h4, h5⟩
  rw [if_neg c7]
  by_cases c8 : p = 8
  · rw [if_pos c8]; exact keep
  rw [if_neg c8]
  by_cases c9 : p = 9
  · rw [if_pos c9]; exact keep
  rw [if_neg c9]
  by_cases c11 : p = 11
  · rw [if_pos c11]; exact keep
  rw [if_neg c11]
  by_cases c12 : p = 12
  · rw [if_pos c12]; exact keep
  rw [if_neg c12]
  exact keep
theorem pt_cases {p a b : Int32} (ho : pt_ok p a b = true) : ∃ j, j ≤ 6 ∧ p = nI j := by
  rcases tw_in (x := p) (n := 6) (by omega) with h | h
  · exfalso
    have ne : ∀ j : Nat, j ≤ 6 → ¬ p = nI j := fun j hj z => by rw [z, nI_toInt (by omega)] at h; omega
    have m0 : ¬ p = 0 := ne 0 (by omega)
    have m1 : ¬ p = 1 := ne 1 (by omega)
    have m2 : ¬ p = 2 := ne 2 (by omega)
    have m3 : ¬ p = 3 := ne 3 (by omega)
    have m4 : ¬ p = 4 := ne 4 (by omega)
    have m5 : ¬ p = 5 := ne 5 (by omega)
    have m6 : ¬ p = 6 := ne 6 (by omega)
    rw [pt_ok, if_neg (fun z => z.elim m0 (fun z => z.elim m5 m6)), if_neg m1, if_neg m2, if_neg (fun z => z.elim m3 m4)] at ho
    cases ho
  · exact h
section
variable {l : Launch} {E : We} {n0 d nx : Nat} {t : Wt} {r : Wr} {i i1 i2 : Wi} {g : Wl} {m : Nat} {S : Ms}
theorem c_Mod_has {sx : Nat → List Int32} {lc : Nat} {v : LnS} {u : RuS} (hA : mo_at t r m) (hX : mp_exp i m sx) (hL : i (m + 0) 14 = nI lc) (hI : mn_is i m v) (hv : lv_ok v) (ho : pt_ok u.1 u.2.1 u.2.2.1 = true) : Ct l E n0 mt_Mod_has (d + 5) 0 0 [.ref (m + 0), .int u.1, .int u.2.1, .int u.2.2.1] nx t r i g (qI nx t r g (fun z i' => (mn_is i' m v ∧ mf m ac_S i i') ∧ ((z = 1 ∧ hp_of sx lc v.1 v.2.1 u) ∨ (z = 0 ∧ ¬ hp_of sx lc v.1 v.2.1 u)))) := by
  have t0 := hA.1.1
  obtain ⟨W, F, co, K, out⟩ := v
  obtain ⟨v1, v2, v3, v4, v5⟩ := hv
  simp only at v1 v2 v3 v4 v5
  have hW1 := v1.1
  have hI' := hI
  obtain ⟨hW, hF, hN, hK, hO⟩ := hI
  simp only at hW hF hN hK hO
  obtain ⟨p, a, c, A⟩ := u
  simp only at ho ⊢
  have nn : ∀ x y : Nat, x ≤ 6 → y ≤ 6 → x ≠ y → ¬ nI x = nI y := fun x y hx hy hxy z => hxy ((nI_eq (by omega) (by omega)).mp z)
  obtain ⟨j, hj, rfl⟩ := pt_cases ho
  refine Ct.of (by decide) (Nat.le_of_ble_eq_true rfl) ?_
  refine wf_iload_n dc_Mod_has_0 rfl ?_
  have hc : j = 0 ∨ j = 1 ∨ j = 2 ∨ j = 3 ∨ j = 4 ∨ j = 5 ∨ j = 6 := by omega
  rcases hc with z | z | z | z | z | z | z <;> subst z
  · refine wf_tableIn (off := 39) 40 dc_Mod_has_1 (by decide) (by decide) rfl (by decide) ?_
    refine wf_iconst 1 dc_Mod_has_40 (by decide) ?_
    exact wf_zreturn rfl rfl dc_Mod_has_41 ⟨1, rfl, rfl, rfl, rfl, rfl, ⟨hI', mf_rf⟩, .inl ⟨rfl, ⟨fun z => absurd z (nn 0 1 (by omega) (by omega) (by omega)), fun z => absurd z (nn 0 2 (by omega) (by omega) (by omega)), fun z => absurd z (nn 0 3 (by omega) (by omega) (by omega)), fun z => absurd z (nn 0 4 (by omega) (by omega) (by omega)), fun z => absurd z (nn 0 5 (by omega) (by omega) (by omega)), fun z => absurd z (nn 0 6 (by omega) (by omega) (by omega))⟩⟩⟩
  · refine wf_tableIn (off := 41) 42 dc_Mod_has_1 (by decide) (by decide) rfl (by decide) ?_
    obtain ⟨a', -, ha5, rfl⟩ := bw_n (lo := 0) (hi := 5) ho
    have hcl : (nI a').toNatClampNeg = a' := nI_clamp (by omega)
    obtain ⟨x1, x2, x3, x4⟩ := hX a' (by omega)
    refine wf_aload_n dc_Mod_has_42 rfl ?_
    refine wf_iload_n dc_Mod_has_43 rfl ?_
    refine wf_iconst 1 dc_Mod_has_44 (by decide) ?_
    refine wf_iconst 0 dc_Mod_has_45 (by decide) ?_
    refine wf_iv3 (M' := mt_Mod_seek) (c := 8) dc_Mod_has_46 tg_Mod_seek ml_Mod_212 im_Mod_seek se_Mod_seek ⟨_, rfl, rfl⟩ (by assumption) (Nat.le_of_ble_eq_true rfl) (Nat.le_refl _) (Nat.le_refl _) (c_Mod_seek (k := a') (a := 1) (b := 0) hA x1 (by omega) x3 x2 x4 (by omega) hW v1 (by omega)) qI_nt (qI_go (fun x2 i2 hp => ?_))
    obtain ⟨hsk, hfr⟩ := hp
    have hI2 := hI'.sk hW1 hfr
    rcases hsk with ⟨h1, rfl⟩ | ⟨q, e, h1, h2, rfl, -⟩
    · exact wf_zreturn rfl rfl dc_Mod_has_49 ⟨0, rfl, rfl, rfl, rfl, rfl, ⟨hI2, mf_mo hfr (ms_sub ac_sk)⟩, .inr ⟨rfl, fun z => z.1 rfl (by rw [hcl]; exact h1)⟩⟩
    · refine wf_zreturn rfl rfl dc_Mod_has_49 ⟨1, rfl, rfl, rfl, rfl, rfl, ⟨hI2, mf_mo hfr (ms_sub ac_sk)⟩, .inl ⟨rfl, ⟨fun _ => ?_, fun z => absurd z (nn 1 2 (by omega) (by omega) (by omega)), fun z => absurd z (nn 1 3 (by omega) (by omega) (by omega)), fun z => absurd z (nn 1 4 (by omega) (by omega) (by omega)), fun z => absurd z (nn 1 5 (by omega) (by omega) (by omega)), fun z => absurd z (nn 1 6 (by omega) (by omega) (by omega))⟩⟩⟩
      simp only
      rw [hcl, h1]
      exact fun z => by cases z
  · refine wf_tableIn (off := 49) 50 dc_Mod_has_1 (by decide) (by decide) rfl (by decide) ?_
    have ho2 : (bw a 0 5 && bw c 1 30) = true := ho
    rw [Bool.and_eq_true] at ho2
    obtain ⟨a', -, ha5, rfl⟩ := bw_n (lo := 0) (hi := 5) ho2.1
    obtain ⟨c', hc1, hc30, rfl⟩ := bw_n (lo := 1) (hi := 30) ho2.2
    have hcl : (nI a').toNatClampNeg = a' := nI_clamp (by omega)
    have hfd := fdn_s1 v2 c' hc1
    refine wf_aload_n dc_Mod_has_50 rfl ?_
    refine wf_iload_n dc_Mod_has_51 rfl ?_
    refine wf_iv1 (M' := mt_Mod_fieldToRow) (c := 8) dc_Mod_has_52 tg_Mod_fieldToRow ml_Mod_222 im_Mod_fieldToRow se_Mod_fieldToRow ⟨_, rfl, rfl⟩ (by assumption) (Nat.le_of_ble_eq_true rfl) (Nat.le_refl _) (Nat.le_refl _) (c_Mod_fieldToRow hA hF v3 hc1 hc30 hfd.1) qV_nt (qV_go (fun i2 hp => ?_))
    obtain ⟨e1, e2⟩ := hp
    have hI2 := hI'.r8 hW1 e2
    obtain ⟨x1, x2, x3, x4⟩ := hX.ac (mf_mo e2 (ms_sub ac_r8)) a' (by omega)
    refine wf_aload_n dc_Mod_has_55 rfl ?_
    refine wf_iload_n dc_Mod_has_56 rfl ?_
    refine wf_bipush 8 dc_Mod_has_57 (by decide) ?_
    refine wf_iconst 0 dc_Mod_has_59 (by decide) ?_
    refine wf_iv3 (M' := mt_Mod_seek) (c := 8) dc_Mod_has_60 tg_Mod_seek ml_Mod_212 im_Mod_seek se_Mod_seek ⟨_, rfl, rfl⟩ (by assumption) (Nat.le_of_ble_eq_true rfl) (Nat.le_refl _) (Nat.le_refl _) (c_Mod_seek (k := a') (a := 8) (b := 0) hA x1 (by omega) x3 x2 x4 (by omega) e1 hfd (by omega)) qI_nt (qI_go (fun x2 i2 hp => ?_))
    obtain ⟨hsk, hfr⟩ := hp
    have hI3 := hI2.sk hW1 hfr
    have f3 := mf_ss (mf_mo e2 (ms_sub ac_r8)) (mf_mo hfr (ms_sub ac_sk))
    rcases hsk with ⟨h1, rfl⟩ | ⟨q, e, h1, h2, rfl, -⟩
    · exact wf_zreturn rfl rfl dc_Mod_has_63 ⟨0, rfl, rfl, rfl, rfl, rfl, ⟨hI3, f3⟩, .inr ⟨rfl, fun z => z.2.1 rfl (by simp only; rw [hcl, fld_n hc1 (by omega)]; exact h1)⟩⟩
    · refine wf_zreturn rfl rfl dc_Mod_has_63 ⟨1, rfl, rfl, rfl, rfl, rfl, ⟨hI3, f3⟩, .inl ⟨rfl, ⟨fun z => absurd z (nn 2 1 (by omega) (by omega) (by omega)), fun _ => ?_, fun z => absurd z (nn 2 3 (by omega) (by omega) (by omega)), fun z => absurd z (nn 2 4 (by omega) (by omega) (by omega)), fun z => absurd z (nn 2 5 (by omega) (by omega) (by omega)), fun z => absurd z (nn 2 6 (by omega) (by omega) (by omega))⟩⟩⟩
      simp only
      rw [hcl, fld_n hc1 (by omega), h1]
      exact fun z => by cases z
  · refine wf_tableIn (off := 63) 64 dc_Mod_has_1 (by decide) (by decide) rfl (by decide) ?_
    obtain ⟨a', ha1, ha30, rfl⟩ := bw_n (lo := 1) (hi := 30) ho
    have hfd := fdn_s1 v2 a' ha1
    refine wf_aload_n dc_Mod_has_64 rfl ?_
    refine wf_iload_n dc_Mod_has_65 rfl ?_
    refine wf_iv1 (M' := mt_Mod_numberOf) (c := 8) dc_Mod_has_66 tg_Mod_numberOf ml_Mod_225 im_Mod_numberOf se_Mod_numberOf ⟨_, rfl, rfl⟩ (by assumption) (Nat.le_of_ble_eq_true rfl) (Nat.le_refl _) (Nat.le_refl _) (c_Mod_numberOf hA hF v3 ha1 ha30 hfd.1) qI_nt (qI_go (fun x2 i2 hp => ?_))
    obtain ⟨rfl, hq⟩ := hp
    subst i2
    refine wf_iload_n dc_Mod_has_69 rfl ?_
    refine wf_icmp_ge 77 dc_Mod_has_70 (by decide) (fun h1 => ?_) (fun h1 => ?_)
    · refine wf_iconst 0 dc_Mod_has_77 (by decide) ?_
      refine wf_zreturn rfl rfl dc_Mod_has_78 ⟨0, rfl, rfl, rfl, rfl, rfl, ⟨hI', mf_rf⟩, .inr ⟨rfl, fun z => ?_⟩⟩
      have := z.2.2.1 rfl
      simp only at this
      rw [fld_n ha1 (by omega)] at this
      exact Int32.not_lt.mpr h1 this
    · refine wf_iconst 1 dc_Mod_has_73 (by decide) ?_
      refine wf_goto 78 dc_Mod_has_74 (by decide) ?_
      exact wf_zreturn rfl rfl dc_Mod_has_78 ⟨1, rfl, rfl, rfl, rfl, rfl, ⟨hI', mf_rf⟩, .inl ⟨rfl, ⟨fun z => absurd z (nn 3 1 (by omega) (by omega) (by omega)), fun z => absurd z (nn 3 2 (by omega) (by omega) (by omega)), fun _ => (by simp only; rw [fld_n ha1 (by omega)]; exact Int32.not_le.mp h1), fun z => absurd z (nn 3 4 (by omega) (by omega) (by omega)), fun z => absurd z (nn 3 5 (by omega) (by omega) (by omega)), fun z => absurd z (nn 3 6 (by omega) (by omega) (by omega))⟩⟩⟩
  · refine wf_tableIn (off := 78) 79 dc_Mod_has_1 (by decide) (by decide) rfl (by decide) ?_
    obtain ⟨a', ha1, ha30, rfl⟩ := bw_n (lo := 1) (hi := 30) ho
    have hfd := fdn_s1 v2 a' ha1
    refine wf_aload_n dc_Mod_has_79 rfl ?_
    refine wf_iload_n dc_Mod_has_80 rfl ?_
    refine wf_iv1 (M' := mt_Mod_numberOf) (c := 8) dc_Mod_has_81 tg_Mod_numberOf ml_Mod_225 im_Mod_numberOf se_Mod_numberOf ⟨_, rfl, rfl⟩ (by assumption) (Nat.le_of_ble_eq_true rfl) (Nat.le_refl _) (Nat.le_refl _) (c_Mod_numberOf hA hF v3 ha1 ha30 hfd.1) qI_nt (qI_go (fun x2 i2 hp => ?_))
    obtain ⟨rfl, hq⟩ := hp
    subst i2
    refine wf_iload_n dc_Mod_has_84 rfl ?_
    refine wf_icmp_ne 92 dc_Mod_has_85 (by decide) (fun h1 => ?_) (fun h1 => ?_)
    · refine wf_iconst 0 dc_Mod_has_92 (by decide) ?_
      refine wf_zreturn rfl rfl dc_Mod_has_93 ⟨0, rfl, rfl, rfl, rfl, rfl, ⟨hI', mf_rf⟩, .inr ⟨rfl, fun z => ?_⟩⟩
      have := z.2.2.2.1 rfl
      simp only at this
      rw [fld_n ha1 (by omega)] at this
      exact h1 this
    · refine wf_iconst 1 dc_Mod_has_88 (by decide) ?_
      refine wf_goto 93 dc_Mod_has_89 (by decide) ?_
      exact wf_zreturn rfl rfl dc_Mod_has_93 ⟨1, rfl, rfl, rfl, rfl, rfl, ⟨hI', mf_rf⟩, .inl ⟨rfl, ⟨fun z => absurd z (nn 4 1 (by omega) (by omega) (by omega)), fun z => absurd z (nn 4 2 (by omega) (by omega) (by omega)), fun z => absurd z (nn 4 3 (by omega) (by omega) (by omega)), fun _ => (by simp only; rw [fld_n ha1 (by omega)]; exact h1), fun z => absurd z (nn 4 5 (by omega) (by omega) (by omega)), fun z => absurd z (nn 4 6 (by omega) (by omega) (by omega))⟩⟩⟩
  · refine wf_tableIn (off := 93) 94 dc_Mod_has_1 (by decide) (by decide) rfl (by decide) ?_
    refine wf_aload_n dc_Mod_has_94 rfl ?_
    refine wf_geti dc_Mod_has_95 fl_Mod_241 rfl (by assumption) ?_
    rw [hL]
    refine wf_iload_n dc_Mod_has_98 rfl ?_
    refine wf_icmp_lt 114 dc_Mod_has_99 (by decide) (fun h1 => ?_) (fun h1 => ?_)
    · refine wf_iconst 0 dc_Mod_has_114 (by decide) ?_
      exact wf_zreturn rfl rfl dc_Mod_has_115 ⟨0, rfl, rfl, rfl, rfl, rfl, ⟨hI', mf_rf⟩, .inr ⟨rfl, fun z => Int32.not_lt.mpr (z.2.2.2.2.1 rfl).1 h1⟩⟩
    · refine wf_aload_n dc_Mod_has_102 rfl ?_
      refine wf_geti dc_Mod_has_103 fl_Mod_241 rfl (by assumption) ?_
      rw [hL]
      refine wf_iload_n dc_Mod_has_106 rfl ?_
      refine wf_icmp_gt 114 dc_Mod_has_107 (by decide) (fun h2 => ?_) (fun h2 => ?_)
      · refine wf_iconst 0 dc_Mod_has_114 (by decide) ?_
        exact wf_zreturn rfl rfl dc_Mod_has_115 ⟨0, rfl, rfl, rfl, rfl, rfl, ⟨hI', mf_rf⟩, .inr ⟨rfl, fun z => Int32.not_lt.mpr (z.2.2.2.2.1 rfl).2 h2⟩⟩
      · refine wf_iconst 1 dc_Mod_has_110 (by decide) ?_
        refine wf_goto 115 dc_Mod_has_111 (by decide) ?_
        exact wf_zreturn rfl rfl dc_Mod_has_115 ⟨1, rfl, rfl, rfl, rfl, rfl, ⟨hI', mf_rf⟩, .inl ⟨rfl, ⟨fun z => absurd z (nn 5 1 (by omega) (by omega) (by omega)), fun z => absurd z (nn 5 2 (by omega) (by omega) (by omega)), fun z => absurd z (nn 5 3 (by omega) (by omega) (by omega)), fun z => absurd z (nn 5 4 (by omega) (by omega) (by omega)), fun _ => ⟨Int32.not_lt.mp h1, Int32.not_lt.mp h2⟩, fun z => absurd z (nn 5 6 (by omega) (by omega) (by omega))⟩⟩⟩
  · refine wf_tableOut 116 dc_Mod_has_1 (Or.inr (by decide)) (by decide) ?_
    refine wf_aload_n dc_Mod_has_116 rfl ?_
    refine wf_geti dc_Mod_has_117 fl_Mod_178 rfl (by assumption) ?_
    rw [hF.1]
    refine wf_iload_n dc_Mod_has_120 rfl ?_
    refine wf_icmp_le 128 dc_Mod_has_121 (by decide) (fun h1 => ?_) (fun h1 => ?_)
    · refine wf_iconst 0 dc_Mod_has_128 (by decide) ?_
      exact wf_zreturn rfl rfl dc_Mod_has_129 ⟨0, rfl, rfl, rfl, rfl, rfl, ⟨hI', mf_rf⟩, .inr ⟨rfl, fun z => Int32.not_le.mpr (z.2.2.2.2.2 rfl) h1⟩⟩
    · refine wf_iconst 1 dc_Mod_has_124 (by decide) ?_
      refine wf_goto 129 dc_Mod_has_125 (by decide) ?_
      exact wf_zreturn rfl rfl dc_Mod_has_129 ⟨1, rfl, rfl, rfl, rfl, rfl, ⟨hI', mf_rf⟩, .inl ⟨rfl, ⟨fun z => absurd z (nn 6 1 (by omega) (by omega) (by omega)), fun z => absurd z (nn 6 2 (by omega) (by omega) (by omega)), fun z => absurd z (nn 6 3 (by omega) (by omega) (by omega)), fun z => absurd z (nn 6 4 (by omega) (by omega) (by omega)), fun z => absurd z (nn 6 5 (by omega) (by omega) (by omega)), fun _ => Int32.not_le.mp h1⟩⟩⟩
end
