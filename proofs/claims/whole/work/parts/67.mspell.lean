/-! the reference: spell -/
theorem nm_ds_get (v : Nat) : ∀ k q : Nat, q ≤ k → (nm_ds v k).getD q 0 = nI (48 + v / 10 ^ (k - q) % 10) := by
  intro k
  induction k with
  | zero =>
    intro q hq
    rw [Nat.le_zero.mp hq]
    show nI (48 + v % 10) = nI (48 + v / 10 ^ 0 % 10)
    rw [Nat.pow_zero, Nat.div_one]
  | succ k ih =>
    intro q hq
    cases q with
    | zero => rfl
    | succ q =>
      rw [nm_ds, List.getD_cons_succ, ih q (by omega), Nat.add_sub_add_right]
section
variable {l : Launch} {E : We} {n0 d nx : Nat} {t : Wt} {r : Wr} {i i' : Wi} {g : Wl} {m : Nat} {S : Ms}
theorem c_Mod_spell {x : Int32} (hA : mo_at t r m) : Ct l E n0 mt_Mod_spell d 0 0 [.ref (m + 0), .int x] nx t r i g (qV nx t r g (fun i' => mr i' m 8 (nm_of x) ∧ mf m (mr_S 8) i i')) := by
  have t0 := hA.1.1
  have r1 : r (m + 0) 1 = some (m + 1) := hA.2 (0, 1, 1) (by decide +kernel)
  have r2 : r (m + 0) 2 = some (m + 2) := hA.2 (0, 2, 2) (by decide +kernel)
  have t1 := hA.1.2 1 (1, .inr (0, 1080)) (by decide +kernel)
  have t2 := hA.1.2 2 (2, .inr (0, 9)) (by decide +kernel)
  have hnm : nm_of x = (if x < 0 then [45] else []) ++ nm_ds x.toInt.natAbs (nm_k x.toInt.natAbs) := rfl
  have hneg : x < 0 → -(x.toInt64) = lN x.toInt.natAbs := nm_neg
  have hpos : ¬ x < 0 → x.toInt64 = lN x.toInt.natAbs := nm_pos
  generalize hv : x.toInt.natAbs = v at hnm hneg hpos
  have hvb : v ≤ 2147483648 := by rw [← hv]; exact nm_abs x
  have hkb := nm_k_le v
  have hhi := nm_k_hi (v := v) (by omega)
  generalize hk : nm_k v = k at hkb hhi hnm
  have hlo : 0 < k → 10 ^ k ≤ v := fun h => by rw [← hk] at h ⊢; exact nm_k_lo h
  refine Ct.of (by decide) (Nat.le_of_ble_eq_true rfl) ?_
  -- the sign and the length
  have fin : ∀ (i1 : Wi) (s : Nat) (y : Int32), (x < 0 ∧ s = 1 ∨ ¬ x < 0 ∧ s = 0) → (∀ q, q ≤ k → i1 (m + 1) (960 + s + q) = (nm_ds v k).getD q 0) → mf m (mr_S 8) i i1 → Wf l E n0 mt_Mod_spell d 0 0 (qV nx t r g (fun i' => mr i' m 8 (nm_of x) ∧ mf m (mr_S 8) i i')) 0 0 106 [(0, .ref (m + 0)), (1, .int x), (5, .int (nI (s + (k + 1)))), (6, .int y)] [] nx t r i1 g := by
    intro i1 s y hs hd hf
    have hlen : (nm_of x).length = s + (k + 1) := by
      rw [hnm, List.length_append, nm_ds_len]
      rcases hs with ⟨h1, rfl⟩ | ⟨h1, rfl⟩
      · rw [if_pos h1]; rfl
      · rw [if_neg h1]; rfl
    refine wf_iload_n dc_Mod_spell_106 rfl ?_
    rcases hs with ⟨hx, rfl⟩ | ⟨hx, rfl⟩
    · refine wf_if_ge 120 dc_Mod_spell_107 (by decide) (fun hc => absurd hx (Int32.not_lt.mpr hc)) (fun hc => ?_)
      refine wf_aload_n dc_Mod_spell_110 rfl ?_
      refine wf_getr dc_Mod_spell_111 fl_Mod_7 rfl (by assumption) (by assumption) ?_
      refine wf_sipush 960 dc_Mod_spell_114 (by decide) ?_
      refine wf_bipush 45 dc_Mod_spell_117 (by decide) ?_
      refine wf_iastore (y := 0) dc_Mod_spell_119 rfl (by decide) (by assumption) (vp_in_nI (n := 960) (by omega) (by omega)) ?_
      refine wf_aload_n dc_Mod_spell_120 rfl ?_
      refine wf_getr dc_Mod_spell_121 fl_Mod_13 rfl (by assumption) (by assumption) ?_
      refine wf_bipush 8 dc_Mod_spell_124 (by decide) ?_
      refine wf_iload dc_Mod_spell_126 rfl ?_
      refine wf_iastore (y := 0) dc_Mod_spell_128 rfl (by decide) (by assumption) (vp_in_nI (n := 8) (by omega) (by omega)) ?_
      refine wf_return rfl dc_Mod_spell_129 ⟨rfl, rfl, rfl, rfl, rfl, ⟨?_, fun j hj => ?_⟩, mf_up (mf_up hf (mr_in1 (j := 0) (by omega))) mr_in2⟩
      · rw [hlen]; exact wf_up_s
      · rw [hlen] at hj
        rw [hnm, if_pos hx, wf_up_a (by omega)]
        cases j with
        | zero => exact wf_up_s
        | succ j =>
          rw [show (([45] : List Int32) ++ nm_ds v k).getD (j + 1) 0 = (nm_ds v k).getD j 0 from rfl, ← hd j (by omega), show 960 + 1 + j = 120 * 8 + (j + 1) by omega]
          exact wf_up_k (show 120 * 8 + (j + 1) ≠ 960 by omega)
    · refine wf_if_ge 120 dc_Mod_spell_107 (by decide) (fun hc => ?_) (fun hc => absurd (Int32.not_lt.mp hx) hc)
      refine wf_aload_n dc_Mod_spell_120 rfl ?_
      refine wf_getr dc_Mod_spell_121 fl_Mod_13 rfl (by assumption) (by assumption) ?_
      refine wf_bipush 8 dc_Mod_spell_124 (by decide) ?_
      refine wf_iload dc_Mod_spell_126 rfl ?_
      refine wf_iastore (y := 0) dc_Mod_spell_128 rfl (by decide) (by assumption) (vp_in_nI (n := 8) (by omega) (by omega)) ?_
      refine wf_return rfl dc_Mod_spell_129 ⟨rfl, rfl, rfl, rfl, rfl, ⟨?_, fun j hj => ?_⟩, mf_up hf mr_in2⟩
      · rw [hlen]; exact wf_up_s
      · rw [hlen] at hj
        rw [hnm, if_neg hx, wf_up_a (by omega), List.nil_append, ← hd j (by omega)]
  -- the digits
  have dig : ∀ (e : Nat) (i1 : Wi) (s : Nat) (y : Int32), (x < 0 ∧ s = 1 ∨ ¬ x < 0 ∧ s = 0) → e ≤ k + 1 → y = (if e = 0 then nI s + (-1) else nI (s + (e - 1))) → (∀ q, e ≤ q → q ≤ k → i1 (m + 1) (960 + s + q) = (nm_ds v k).getD q 0) → mf m (mr_S 8) i i1 → Wf l E n0 mt_Mod_spell d 0 0 (qV nx t r g (fun i' => mr i' m 8 (nm_of x) ∧ mf m (mr_S 8) i i')) 0 0 64 [(0, .ref (m + 0)), (1, .int x), (2, .long (lN (v / 10 ^ (k + 1 - e)))), (4, .int (nI (k + 1))), (5, .int (nI (s + (k + 1)))), (6, .int y)] [] nx t r i1 g := by
    intro e
    induction e with
    | zero =>
      intro i1 s y hs he hy hd hf
      rw [if_pos rfl] at hy
      subst hy
      refine wf_iload dc_Mod_spell_64 rfl ?_
      refine wf_iload dc_Mod_spell_66 rfl ?_
      refine wf_iload dc_Mod_spell_68 rfl ?_
      refine wf_isub dc_Mod_spell_70 ?_
      rw [pk_sub (show k + 1 ≤ s + (k + 1) by omega), Nat.add_sub_cancel]
      have hlt : nI s + (-1) < nI s := by
        rcases hs with ⟨-, rfl⟩ | ⟨-, rfl⟩ <;> decide
      refine wf_icmp_lt 106 dc_Mod_spell_71 (by decide) (fun hc => ?_) (fun hc => absurd hlt hc)
      exact Wf.to (by exact ⟨rfl, rfl, rfl, rfl, trivial⟩) (fin i1 s _ hs (fun q hq => hd q (Nat.zero_le _) hq) hf)
    | succ e ih =>
      intro i1 s y hs he hy hd hf
      have hs1 : s ≤ 1 := by rcases hs with ⟨-, rfl⟩ | ⟨-, rfl⟩ <;> omega
      rw [if_neg (by omega), Nat.add_sub_cancel] at hy
      subst hy
      refine wf_iload dc_Mod_spell_64 rfl ?_
      refine wf_iload dc_Mod_spell_66 rfl ?_
      refine wf_iload dc_Mod_spell_68 rfl ?_
      refine wf_isub dc_Mod_spell_70 ?_
      rw [pk_sub (show k + 1 ≤ s + (k + 1) by omega), Nat.add_sub_cancel]
      refine wf_icmp_lt 106 dc_Mod_spell_71 (by decide) (fun hc => absurd ((nI_ltI (by omega) (by omega)).mp hc) (by omega)) (fun hc => ?_)
      refine wf_aload_n dc_Mod_spell_74 rfl ?_
      refine wf_getr dc_Mod_spell_75 fl_Mod_7 rfl (by assumption) (by assumption) ?_
      refine wf_sipush 960 dc_Mod_spell_78 (by decide) ?_
      refine wf_iload dc_Mod_spell_81 rfl ?_
      refine wf_iadd dc_Mod_spell_83 ?_
      rw [show (960 : Int32) + nI (s + e) = nI (960 + (s + e)) from nI_add 960 (s + e)]
      have hdv : v / 10 ^ (k + 1 - (e + 1)) ≤ v := Nat.div_le_self _ _
      refine wf_lload_n dc_Mod_spell_84 rfl ?_
      refine wf_ldc2 10 dc_Mod_spell_85 kl_Mod_195 ?_
      refine wf_lrem dc_Mod_spell_88 (by decide) ?_
      rw [show (10 : Int64) = lN 10 from rfl, pk_lRem (by omega) (by omega) (by omega)]
      refine wf_l2i dc_Mod_spell_89 ?_
      refine wf_bipush 48 dc_Mod_spell_90 (by decide) ?_
      refine wf_iadd dc_Mod_spell_92 ?_
      rw [lN_i, show (48 : Int32) = nI 48 from rfl, nI_add]
      refine wf_iastore (y := 0) dc_Mod_spell_93 rfl (by decide) (by assumption) (vp_in_nI (by omega) (by omega)) ?_
      refine wf_lload_n dc_Mod_spell_94 rfl ?_
      refine wf_ldc2 10 dc_Mod_spell_95 kl_Mod_195 ?_
      refine wf_ldiv dc_Mod_spell_98 (by decide) ?_
      rw [show (10 : Int64) = lN 10 from rfl, pk_lDiv (by omega) (by omega) (by omega), nI_clamp (show 960 + (s + e) < 2 ^ 31 by omega)]
      have e1 : v / 10 ^ (k + 1 - (e + 1)) / 10 = v / 10 ^ (k + 1 - e) := by
        rw [Nat.div_div_eq_div_mul, ← Nat.pow_succ, show (k + 1 - (e + 1)).succ = k + 1 - e by omega]
      rw [e1]
      have hy : nI (s + e) + (-1) = if e = 0 then nI s + (-1) else nI (s + (e - 1)) := by
        by_cases h0 : e = 0
        · rw [if_pos h0, h0]; rfl
        · rw [if_neg h0, show s + e = s + (e - 1) + 1 by omega, pk_m1]
      refine wf_lstore_n dc_Mod_spell_99 (by decide) ?_
      refine wf_iinc _ dc_Mod_spell_100 rfl (rfl) (by decide) ?_
      refine wf_goto 64 dc_Mod_spell_103 (by decide) ?_
      refine Wf.to (by exact ⟨rfl, rfl, rfl, rfl, rfl, rfl, trivial⟩) (ih _ s _ hs (by omega) hy (fun q h1 h2 => ?_) (mf_up hf (show ms_in (mr_S 8) 1 (960 + (s + e)) (960 + (s + e) + 1) from mr_in1 (b := 8) (j := s + e) (by omega))))
      by_cases hqe : q = e
      · subst hqe
        rw [show 960 + s + q = 960 + (s + q) by omega, wf_up_s, nm_ds_get v k q h2, show k + 1 - (q + 1) = k - q by omega, Nat.add_comm]
      · rw [wf_up_k (by omega)]
        exact hd q (by omega) h2
  -- how many digits
  have len : ∀ (c e : Nat), e + c = k → Wf l E n0 mt_Mod_spell d 0 0 (qV nx t r g (fun i' => mr i' m 8 (nm_of x) ∧ mf m (mr_S 8) i i')) 0 0 20 [(0, .ref (m + 0)), (1, .int x), (2, .long (lN v)), (4, .int (nI (e + 1))), (5, .long (lN (v / 10 ^ e)))] [] nx t r i g := by
    intro c
    induction c with
    | zero =>
      intro e he
      have hek : e = k := by omega
      subst hek
      have h9 : v / 10 ^ e ≤ 9 := by
        have : v / 10 ^ e < 10 := (Nat.div_lt_iff_lt_mul (Nat.pow_pos (by omega))).mpr (by rw [← Nat.pow_succ']; exact hhi)
        omega
      refine wf_lload dc_Mod_spell_20 rfl ?_
      refine wf_ldc2 9 dc_Mod_spell_22 kl_Mod_193 ?_
      refine wf_lcmp dc_Mod_spell_25 ?_
      refine wf_if_le 43 dc_Mod_spell_26 (by decide) (fun hc => ?_) (fun hc => absurd ((lg_cmp_le _ _).mpr ((pk_lLE (b := 9) (by omega) (by omega)).mpr h9)) hc)
      refine wf_iload_n dc_Mod_spell_43 rfl ?_
      by_cases hx : x < 0
      · refine wf_if_ge 54 dc_Mod_spell_44 (by decide) (fun hc => absurd hx (Int32.not_lt.mpr hc)) (fun hc => ?_)
        refine wf_iload dc_Mod_spell_47 rfl ?_
        refine wf_iconst 1 dc_Mod_spell_49 (by decide) ?_
        refine wf_iadd dc_Mod_spell_50 ?_
        rw [nI_1, show e + 1 + 1 = 1 + (e + 1) by omega]
        refine wf_goto 56 dc_Mod_spell_51 (by decide) ?_
        refine wf_istore dc_Mod_spell_56 (by decide) ?_
        refine wf_iload dc_Mod_spell_58 rfl ?_
        refine wf_iconst 1 dc_Mod_spell_60 (by decide) ?_
        refine wf_isub dc_Mod_spell_61 ?_
        rw [show 1 + (e + 1) = (1 + e) + 1 by omega, nI_pred]
        refine wf_istore dc_Mod_spell_62 (by decide) ?_
        refine Wf.to (L' := [(0, .ref (m + 0)), (1, .int x), (2, .long (lN (v / 10 ^ (e + 1 - (e + 1))))), (4, .int (nI (e + 1))), (5, .int (nI (1 + (e + 1)))), (6, .int (nI (1 + e)))]) (by rw [Nat.sub_self, Nat.pow_zero, Nat.div_one]; exact ⟨rfl, rfl, rfl, rfl, rfl, rfl, trivial⟩) (dig (e + 1) i 1 _ (Or.inl ⟨hx, rfl⟩) (Nat.le_refl _) (by rw [if_neg (by omega), Nat.add_sub_cancel]) (fun q h1 h2 => by omega) mf_rf)
      · refine wf_if_ge 54 dc_Mod_spell_44 (by decide) (fun hc => ?_) (fun hc => absurd (Int32.not_lt.mp hx) hc)
        refine wf_iload dc_Mod_spell_54 rfl ?_
        refine wf_istore dc_Mod_spell_56 (by decide) ?_
        refine wf_iload dc_Mod_spell_58 rfl ?_
        refine wf_iconst 1 dc_Mod_spell_60 (by decide) ?_
        refine wf_isub dc_Mod_spell_61 ?_
        rw [nI_pred]
        refine wf_istore dc_Mod_spell_62 (by decide) ?_
        refine Wf.to (L' := [(0, .ref (m + 0)), (1, .int x), (2, .long (lN (v / 10 ^ (e + 1 - (e + 1))))), (4, .int (nI (e + 1))), (5, .int (nI (0 + (e + 1)))), (6, .int (nI (0 + e)))]) (by rw [Nat.sub_self, Nat.pow_zero, Nat.div_one, Nat.zero_add, Nat.zero_add]; exact ⟨rfl, rfl, rfl, rfl, rfl, rfl, trivial⟩) (dig (e + 1) i 0 _ (Or.inr ⟨hx, rfl⟩) (Nat.le_refl _) (by rw [if_neg (by omega), Nat.add_sub_cancel]) (fun q h1 h2 => by omega) mf_rf)
    | succ c ih =>
      intro e he
      have hdv : v / 10 ^ e ≤ v := Nat.div_le_self _ _
      have h10 : 10 ≤ v / 10 ^ e := by
        rw [Nat.le_div_iff_mul_le (Nat.pow_pos (by omega)), ← Nat.pow_succ']
        exact Nat.le_trans (Nat.pow_le_pow_right (by omega) (by omega)) (hlo (by omega))
      refine wf_lload dc_Mod_spell_20 rfl ?_
      refine wf_ldc2 9 dc_Mod_spell_22 kl_Mod_193 ?_
      refine wf_lcmp dc_Mod_spell_25 ?_
      refine wf_if_le 43 dc_Mod_spell_26 (by decide) (fun hc => absurd ((pk_lLE (b := 9) (by omega) (by omega)).mp ((lg_cmp_le _ _).mp hc)) (by omega)) (fun hc => ?_)
      refine wf_iinc _ dc_Mod_spell_29 rfl (nI_1 (e + 1)) (by decide) ?_
      refine wf_lload dc_Mod_spell_32 rfl ?_
      refine wf_ldc2 10 dc_Mod_spell_34 kl_Mod_195 ?_
      refine wf_ldiv dc_Mod_spell_37 (by decide) ?_
      rw [show (10 : Int64) = lN 10 from rfl, pk_lDiv (by omega) (by omega) (by omega), Nat.div_div_eq_div_mul, ← Nat.pow_succ]
      refine wf_lstore dc_Mod_spell_38 (by decide) ?_
      refine wf_goto 20 dc_Mod_spell_40 (by decide) ?_
      exact Wf.to (by exact ⟨rfl, rfl, rfl, rfl, rfl, trivial⟩) (ih (e + 1) (by omega))
  have go : Wf l E n0 mt_Mod_spell d 0 0 (qV nx t r g (fun i' => mr i' m 8 (nm_of x) ∧ mf m (mr_S 8) i i')) 0 0 13 [(0, .ref (m + 0)), (1, .int x)] [.long (lN v)] nx t r i g := by
    refine wf_lstore_n dc_Mod_spell_13 (by decide) ?_
    refine wf_iconst 1 dc_Mod_spell_14 (by decide) ?_
    refine wf_istore dc_Mod_spell_15 (by decide) ?_
    refine wf_lload_n dc_Mod_spell_17 rfl ?_
    refine wf_lstore dc_Mod_spell_18 (by decide) ?_
    refine Wf.to (L' := [(0, .ref (m + 0)), (1, .int x), (2, .long (lN v)), (4, .int (nI (0 + 1))), (5, .long (lN (v / 10 ^ 0)))]) (by rw [Nat.pow_zero, Nat.div_one]; exact ⟨rfl, rfl, rfl, rfl, rfl, trivial⟩) (len k 0 (Nat.zero_add _))
  refine wf_iload_n dc_Mod_spell_0 rfl ?_
  by_cases hx : x < 0
  · refine wf_if_ge 11 dc_Mod_spell_1 (by decide) (fun hc => absurd hx (Int32.not_lt.mpr hc)) (fun hc => ?_)
    refine wf_lconst 0 dc_Mod_spell_4 (by decide) ?_
    refine wf_iload_n dc_Mod_spell_5 rfl ?_
    refine wf_i2l dc_Mod_spell_6 ?_
    refine wf_lsub dc_Mod_spell_7 ?_
    rw [Int64.zero_sub, hneg hx]
    refine wf_goto 13 dc_Mod_spell_8 (by decide) ?_
    exact Wf.to (by exact ⟨rfl, rfl, trivial⟩) go
  · refine wf_if_ge 11 dc_Mod_spell_1 (by decide) (fun hc => ?_) (fun hc => absurd (Int32.not_lt.mp hx) hc)
    refine wf_iload_n dc_Mod_spell_11 rfl ?_
    refine wf_i2l dc_Mod_spell_12 ?_
    rw [hpos hx]
    exact Wf.to (by exact ⟨rfl, rfl, trivial⟩) go
end
