/-! class Row: the row of a number -/
/-- how many digits there are, less one -/
def nm_k (v : Nat) : Nat := if v < 10 then 0 else if v < 100 then 1 else if v < 1000 then 2 else if v < 10000 then 3 else if v < 100000 then 4 else if v < 1000000 then 5 else if v < 10000000 then 6 else if v < 100000000 then 7 else if v < 1000000000 then 8 else 9
/-- the digits of v from place k down to 0 -/
def nm_ds (v : Nat) : Nat → List Int32
  | 0 => [nI (48 + v % 10)]
  | k + 1 => nI (48 + v / 10 ^ (k + 1) % 10) :: nm_ds v k
/-- the text of a number -/
def nm_of (x : Int32) : List Int32 := (if x < 0 then [45] else []) ++ nm_ds x.toInt.natAbs (nm_k x.toInt.natAbs)
theorem nm_k_le (v : Nat) : nm_k v ≤ 9 := by
  unfold nm_k
  repeat' split
  all_goals omega
theorem nm_k_hi {v : Nat} (h : v < 10000000000) : v < 10 ^ (nm_k v + 1) := by
  unfold nm_k
  repeat' split
  all_goals (simp only [Nat.reduceAdd, Nat.reducePow]; omega)
theorem nm_k_lo {v : Nat} (h : 0 < nm_k v) : 10 ^ nm_k v ≤ v := by
  unfold nm_k at h ⊢
  repeat' split
  all_goals (simp only [Nat.reducePow]; (try simp_all); (try omega))
theorem nm_ds_len (v k : Nat) : (nm_ds v k).length = k + 1 := by
  induction k with
  | zero => rfl
  | succ k ih => rw [nm_ds, List.length_cons, ih]
theorem nm_abs (x : Int32) : x.toInt.natAbs ≤ 2147483648 := by
  have h1 : -2 ^ 31 ≤ x.toInt := BitVec.le_toInt x.toBitVec
  have h2 : x.toInt < 2 ^ 31 := BitVec.toInt_lt
  omega
theorem nm_pos {x : Int32} (h : ¬ x < 0) : x.toInt64 = lN x.toInt.natAbs := by
  obtain ⟨j, hj, rfl⟩ := nI_of h
  rw [nI_l hj, nI_toInt hj]
  rfl
theorem nm_neg {x : Int32} (h : x < 0) : -(x.toInt64) = lN x.toInt.natAbs := by
  have h1 := nm_abs x
  have h2 : x.toInt < 0 := by simpa using Int32.lt_iff_toInt_lt.mp h
  apply Int64.toInt_inj.mp
  rw [pk_lT (by omega), Int64.toInt_neg, Int32.toInt_toInt64, Jvm.Kit.bmod64 (by omega) (by omega)]
  omega
theorem nm_lt (x : Int32) : x.toInt64 < 0 ↔ x < 0 := by
  rw [Int64.lt_iff_toInt_lt, Int32.lt_iff_toInt_lt, Int32.toInt_toInt64]
  simp
theorem nm_p10 {k : Nat} (h : k ≤ 10) : 10 ^ k ≤ 10000000000 := Nat.le_trans (Nat.pow_le_pow_right (by omega) h) (by decide)
section
variable {l : Launch} {E : We} {n0 d nx : Nat} {t : Wt} {r : Wr} {i : Wi} {g : Wl}
theorem c_Row_becomeNumber {a s n : Nat} {x : Int32} (hA : rw_at t r a s n) (hn11 : 11 ≤ n) : Ct l E n0 mt_Row_becomeNumber (d + 1) 0 0 [.ref a, .int x] nx t r i g (qV nx t r g (fun i' => rw_is i' a s (nm_of x) ∧ fr_is [a, s] i i')) := by
  have ha := hA.1
  have hn := hA.2.2.2
  generalize hv : x.toInt.natAbs = v
  have hvb : v ≤ 2147483648 := by rw [← hv]; exact nm_abs x
  have hkb := nm_k_le v
  have hhi := nm_k_hi (v := v) (by omega)
  generalize hk : nm_k v = k at hkb hhi
  have hlo : 0 < k → 10 ^ k ≤ v := fun h => by rw [← hk] at h ⊢; exact nm_k_lo h
  refine Ct.of (by decide) (Nat.le_of_ble_eq_true rfl) ?_
  -- the digits
  have dig : ∀ (m e : Nat) (i1 : Wi) (w : List Int32), m + e = k + 1 → e ≤ k + 1 → rw_is i1 a s w → w.length + e ≤ 11 → fr_is [a, s] i i1 → w ++ (if e = 0 then [] else nm_ds v (e - 1)) = nm_of x →
      Wf l E n0 mt_Row_becomeNumber (d + 1) 0 0 (qV nx t r g (fun i' => rw_is i' a s (nm_of x) ∧ fr_is [a, s] i i')) 0 0 63 [(0, .ref a), (1, .int x), (2, .long (lN v)), (4, .long (lN (if e = 0 then 0 else 10 ^ (e - 1)))), (6, .int (nI m))] [] nx t r i1 g := by
    intro m e
    induction e generalizing m with
    | zero =>
      intro i1 w hm he hw hwl hf hx
      rw [if_pos rfl, List.append_nil] at hx
      refine wf_iload dc_Row_becomeNumber_63 rfl ?_
      refine wf_bipush 11 dc_Row_becomeNumber_65 (by decide) ?_
      refine wf_icmp_ge 107 dc_Row_becomeNumber_67 (by decide) (fun hc => ?_) (fun hc => ?_)
      · exact wf_return rfl dc_Row_becomeNumber_107 ⟨rfl, rfl, rfl, rfl, rfl, by rw [← hx]; exact hw, hf⟩
      · refine wf_lload dc_Row_becomeNumber_70 rfl ?_
        refine wf_lconst 0 dc_Row_becomeNumber_72 (by decide) ?_
        refine wf_lcmp dc_Row_becomeNumber_73 ?_
        refine wf_if_le 107 dc_Row_becomeNumber_74 (by decide) (fun hc => ?_) (fun hc => absurd ((lg_cmp_le _ _).mpr (by rw [if_pos rfl]; decide)) hc)
        exact wf_return rfl dc_Row_becomeNumber_107 ⟨rfl, rfl, rfl, rfl, rfl, by rw [← hx]; exact hw, hf⟩
    | succ e ih =>
      intro i1 w hm he hw hwl hf hx
      rw [if_neg (by omega), Nat.add_sub_cancel] at hx ⊢
      have hp := nm_p10 (k := e) (by omega)
      have hp0 : 0 < 10 ^ e := Nat.pow_pos (by omega)
      refine wf_iload dc_Row_becomeNumber_63 rfl ?_
      refine wf_bipush 11 dc_Row_becomeNumber_65 (by decide) ?_
      refine wf_icmp_ge 107 dc_Row_becomeNumber_67 (by decide) (fun hc => absurd ((nI_leI (a := 11) (b := m) (by omega) (by omega)).mp hc) (by omega)) (fun hc => ?_)
      refine wf_lload dc_Row_becomeNumber_70 rfl ?_
      refine wf_lconst 0 dc_Row_becomeNumber_72 (by decide) ?_
      refine wf_lcmp dc_Row_becomeNumber_73 ?_
      refine wf_if_le 107 dc_Row_becomeNumber_74 (by decide) (fun hc => absurd ((pk_lLE (a := 10 ^ e) (b := 0) (by omega) (by omega)).mp ((lg_cmp_le _ _).mp hc)) (by omega)) (fun hc => ?_)
      have hne : ¬ lN (10 ^ e) = 0 := fun q => by
        have := (pk_lEQ (a := 10 ^ e) (b := 0) (by omega) (by omega)).mp q
        omega
      have hdv : v / 10 ^ e ≤ v := Nat.div_le_self _ _
      refine wf_aload_n dc_Row_becomeNumber_77 rfl ?_
      refine wf_bipush 48 dc_Row_becomeNumber_78 (by decide) ?_
      refine wf_lload_n dc_Row_becomeNumber_80 rfl ?_
      refine wf_lload dc_Row_becomeNumber_81 rfl ?_
      refine wf_ldiv dc_Row_becomeNumber_83 (hne) ?_
      rw [pk_lDiv (by omega) hp0 (by omega)]
      refine wf_ldc2 10 dc_Row_becomeNumber_84 kl_Row_42 ?_
      refine wf_lrem dc_Row_becomeNumber_87 (by decide) ?_
      rw [show (10 : Int64) = lN 10 from rfl, pk_lRem (by omega) (by omega) (by omega)]
      refine wf_l2i dc_Row_becomeNumber_88 ?_
      refine wf_iadd dc_Row_becomeNumber_89 ?_
      rw [lN_i, show (48 : Int32) = nI 48 from rfl, nI_add]
      refine wf_iv1 (M' := mt_Row_add) (c := 5) dc_Row_becomeNumber_90 tg_Row_add ml_Row_38 im_Row_add se_Row_add ⟨_, rfl, rfl⟩ (by assumption) (Nat.le_of_ble_eq_true rfl) (Nat.le_refl _) (Nat.le_refl _) (c_Row_add hA hw (by omega)) qV_nt (qV_go (fun i2 hp => ?_))
      obtain ⟨hw2, hf2⟩ := hp
      rw [if_pos (by omega)] at hw2
      refine wf_lload dc_Row_becomeNumber_93 rfl ?_
      refine wf_ldc2 10 dc_Row_becomeNumber_95 kl_Row_42 ?_
      refine wf_ldiv dc_Row_becomeNumber_98 (by decide) ?_
      rw [show (10 : Int64) = lN 10 from rfl, pk_lDiv (by omega) (by omega) (by omega)]
      refine wf_lstore dc_Row_becomeNumber_99 (by decide) ?_
      refine wf_iinc _ dc_Row_becomeNumber_101 rfl (nI_1 m) (by decide) ?_
      refine wf_goto 63 dc_Row_becomeNumber_104 (by decide) ?_
      have e1 : 10 ^ e / 10 = if e = 0 then 0 else 10 ^ (e - 1) := by
        by_cases h0 : e = 0
        · rw [h0]; decide
        · rw [if_neg h0, show e = (e - 1) + 1 by omega, Nat.pow_succ, Nat.mul_div_cancel _ (by omega), Nat.add_sub_cancel]
      rw [e1]
      refine Wf.to (by exact ⟨rfl, rfl, rfl, rfl, rfl, trivial⟩) (ih (m + 1) i2 _ (by omega) (by omega) hw2 (by rw [List.length_append]; show w.length + 1 + e ≤ 11; omega) (fr_ss hf hf2) ?_)
      rw [← hx, List.append_assoc]
      congr 1
      by_cases h0 : e = 0
      · subst h0
        rw [if_pos rfl, nm_ds, Nat.pow_zero, Nat.div_one]
        rfl
      · rw [if_neg h0]
        obtain ⟨e', rfl⟩ := Nat.exists_eq_succ_of_ne_zero h0
        rfl
  -- the unit
  have unit : ∀ (m e : Nat) (i1 : Wi) (w : List Int32), m + e = k → rw_is i1 a s w → w.length ≤ 1 → fr_is [a, s] i i1 → w ++ nm_ds v k = nm_of x →
      Wf l E n0 mt_Row_becomeNumber (d + 1) 0 0 (qV nx t r g (fun i' => rw_is i' a s (nm_of x) ∧ fr_is [a, s] i i')) 0 0 28 [(0, .ref a), (1, .int x), (2, .long (lN v)), (4, .long (lN (10 ^ e))), (6, .int (nI (e + 1)))] [] nx t r i1 g := by
    intro m
    induction m with
    | zero =>
      intro e i1 w hm hw hwl hf hx
      have hek : e = k := by omega
      subst hek
      have hp := nm_p10 (k := e) (by omega)
      have hps : 10 ^ (e + 1) = 10 ^ e * 10 := Nat.pow_succ _ _
      refine wf_iload dc_Row_becomeNumber_28 rfl ?_
      refine wf_bipush 11 dc_Row_becomeNumber_30 (by decide) ?_
      have go : Wf l E n0 mt_Row_becomeNumber (d + 1) 0 0 (qV nx t r g (fun i' => rw_is i' a s (nm_of x) ∧ fr_is [a, s] i i')) 0 0 60 [(0, .ref a), (1, .int x), (2, .long (lN v)), (4, .long (lN (10 ^ e))), (6, .int (nI (e + 1)))] [] nx t r i1 g := by
        refine wf_iconst 0 dc_Row_becomeNumber_60 (by decide) ?_
        refine wf_istore dc_Row_becomeNumber_61 (by decide) ?_
        refine Wf.to (L' := [(0, .ref a), (1, .int x), (2, .long (lN v)), (4, .long (lN (if e + 1 = 0 then 0 else 10 ^ (e + 1 - 1)))), (6, .int (nI 0))]) (by exact ⟨rfl, rfl, rfl, rfl, rfl, trivial⟩) (dig 0 (e + 1) i1 w (by omega) (by omega) hw (by omega) hf ?_)
        rw [if_neg (by omega), Nat.add_sub_cancel]
        exact hx
      refine wf_icmp_ge 60 dc_Row_becomeNumber_32 (by decide) (fun hc => go) (fun hc => ?_)
      refine wf_lload dc_Row_becomeNumber_35 rfl ?_
      refine wf_ldc2 10 dc_Row_becomeNumber_37 kl_Row_42 ?_
      refine wf_lmul dc_Row_becomeNumber_40 ?_
      refine wf_lload_n dc_Row_becomeNumber_41 rfl ?_
      refine wf_lcmp dc_Row_becomeNumber_42 ?_
      refine wf_if_gt 60 dc_Row_becomeNumber_43 (by decide) (fun hc => go) (fun hc => absurd ((lg_cmp_gt _ _).mpr ?_) hc)
      rw [show (10 : Int64) = lN 10 from rfl, lN_mul]
      exact (pk_lLT (by omega) (by omega)).mpr (by omega)
    | succ m ih =>
      intro e i1 w hm hw hwl hf hx
      have hp := nm_p10 (k := e + 1) (by omega)
      have hps : 10 ^ (e + 1) = 10 ^ e * 10 := Nat.pow_succ _ _
      have hle : 10 ^ (e + 1) ≤ 10 ^ k := Nat.pow_le_pow_right (by omega) (by omega)
      have hlo := hlo (by omega)
      refine wf_iload dc_Row_becomeNumber_28 rfl ?_
      refine wf_bipush 11 dc_Row_becomeNumber_30 (by decide) ?_
      refine wf_icmp_ge 60 dc_Row_becomeNumber_32 (by decide) (fun hc => absurd ((nI_leI (a := 11) (b := e + 1) (by omega) (by omega)).mp hc) (by omega)) (fun hc => ?_)
      refine wf_lload dc_Row_becomeNumber_35 rfl ?_
      refine wf_ldc2 10 dc_Row_becomeNumber_37 kl_Row_42 ?_
      refine wf_lmul dc_Row_becomeNumber_40 ?_
      refine wf_lload_n dc_Row_becomeNumber_41 rfl ?_
      refine wf_lcmp dc_Row_becomeNumber_42 ?_
      rw [show (10 : Int64) = lN 10 from rfl, lN_mul]
      refine wf_if_gt 60 dc_Row_becomeNumber_43 (by decide) (fun hc => absurd ((pk_lLT (by omega) (by omega)).mp ((lg_cmp_gt _ _).mp hc)) (by omega)) (fun hc => ?_)
      refine wf_lload dc_Row_becomeNumber_46 rfl ?_
      refine wf_ldc2 10 dc_Row_becomeNumber_48 kl_Row_42 ?_
      refine wf_lmul dc_Row_becomeNumber_51 ?_
      rw [show (10 : Int64) = lN 10 from rfl, lN_mul]
      refine wf_lstore dc_Row_becomeNumber_52 (by decide) ?_
      refine wf_iinc _ dc_Row_becomeNumber_54 rfl (nI_1 (e + 1)) (by decide) ?_
      refine wf_goto 28 dc_Row_becomeNumber_57 (by decide) ?_
      rw [← hps]
      exact Wf.to (by exact ⟨rfl, rfl, rfl, rfl, rfl, trivial⟩) (ih (e + 1) i1 w (by omega) hw hwl hf hx)
  refine wf_aload_n dc_Row_becomeNumber_0 rfl ?_
  refine wf_iv0 (M' := mt_Row_drop) (c := 5) dc_Row_becomeNumber_1 tg_Row_drop ml_Row_35 im_Row_drop se_Row_drop ⟨_, rfl, rfl⟩ (by assumption) (Nat.le_of_ble_eq_true rfl) (Nat.le_refl _) (Nat.le_refl _) (c_Row_drop hA) qV_nt (qV_go (fun i2 hp => ?_))
  obtain ⟨hw1, hf1⟩ := hp
  have hf1 : fr_is [a, s] i i2 := fr_mo hf1 (by simp)
  refine wf_iload_n dc_Row_becomeNumber_4 rfl ?_
  refine wf_i2l dc_Row_becomeNumber_5 ?_
  refine wf_lstore_n dc_Row_becomeNumber_6 (by decide) ?_
  refine wf_lload_n dc_Row_becomeNumber_7 rfl ?_
  refine wf_lconst 0 dc_Row_becomeNumber_8 (by decide) ?_
  refine wf_lcmp dc_Row_becomeNumber_9 ?_
  refine wf_if_ge 22 dc_Row_becomeNumber_10 (by decide) (fun hc => ?_) (fun hc => ?_)
  · have hx0 : ¬ x < 0 := fun q => Int64.not_lt.mpr ((lg_cmp_ge _ _).mp hc) ((nm_lt x).mpr q)
    rw [nm_pos hx0, hv]
    refine wf_lconst 1 dc_Row_becomeNumber_22 (by decide) ?_
    refine wf_lstore dc_Row_becomeNumber_23 (by decide) ?_
    refine wf_iconst 1 dc_Row_becomeNumber_25 (by decide) ?_
    refine wf_istore dc_Row_becomeNumber_26 (by decide) ?_
    refine Wf.to (by exact ⟨rfl, rfl, rfl, rfl, rfl, trivial⟩) (unit k 0 i2 [] (by omega) hw1 (by decide) hf1 ?_)
    rw [nm_of, if_neg hx0, hv, hk]
  · have hx0 : x < 0 := (nm_lt x).mp (Int64.not_le.mp fun q => hc ((lg_cmp_ge _ _).mpr q))
    refine wf_aload_n dc_Row_becomeNumber_13 rfl ?_
    refine wf_bipush 45 dc_Row_becomeNumber_14 (by decide) ?_
    refine wf_iv1 (M' := mt_Row_add) (c := 5) dc_Row_becomeNumber_16 tg_Row_add ml_Row_38 im_Row_add se_Row_add ⟨_, rfl, rfl⟩ (by assumption) (Nat.le_of_ble_eq_true rfl) (Nat.le_refl _) (Nat.le_refl _) (c_Row_add hA hw1 (by simp)) qV_nt (qV_go (fun i2 hp => ?_))
    obtain ⟨hw2, hf2⟩ := hp
    rw [if_pos (by simp; omega)] at hw2
    refine wf_lload_n dc_Row_becomeNumber_19 rfl ?_
    refine wf_lneg dc_Row_becomeNumber_20 ?_
    rw [nm_neg hx0, hv]
    refine wf_lstore_n dc_Row_becomeNumber_21 (by decide) ?_
    refine wf_lconst 1 dc_Row_becomeNumber_22 (by decide) ?_
    refine wf_lstore dc_Row_becomeNumber_23 (by decide) ?_
    refine wf_iconst 1 dc_Row_becomeNumber_25 (by decide) ?_
    refine wf_istore dc_Row_becomeNumber_26 (by decide) ?_
    refine Wf.to (by exact ⟨rfl, rfl, rfl, rfl, rfl, trivial⟩) (unit k 0 i2 ([] ++ [45]) (by omega) hw2 (by decide) (fr_ss hf1 hf2) ?_)
    rw [nm_of, if_pos hx0, hv, hk]
    rfl
end
