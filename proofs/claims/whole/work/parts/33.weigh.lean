/-! class Reader: set, follow, link, weigh, weighAll -/
abbrev WtV : Type := Bool × Int64 × Int64
def wt_v (W : List WtV) (k : Nat) : WtV := W.getD k (false, 0, 0)
def wt_1 (k : Nat) : Int64 := (1 : Int64) <<< ((nI k).toInt64 &&& 63)
def wt_b (b : Bool) : Int32 := if b = true then 1 else 0
/-- what a node weighs at a kind of place -/
def wt_st (q : Nat) (W : List WtV) (N : Nat × Nat × Nat) : WtV :=
  if N.1 = 3 then (false, wt_1 N.2.1, wt_1 N.2.1)
  else if N.1 = 1 then (decide (q % 2 = 1), 0, 0)
  else if N.1 = 2 then (decide (2 ≤ q), 0, 0)
  else if N.1 = 4 then ((wt_v W N.2.1).1 && (wt_v W N.2.2).1, (wt_v W N.2.1).2.1 ||| (if (wt_v W N.2.1).1 = true then (wt_v W N.2.2).2.1 else 0), (wt_v W N.2.2).2.2 ||| (if (wt_v W N.2.2).1 = true then (wt_v W N.2.1).2.2 else 0))
  else if N.1 = 5 then ((wt_v W N.2.1).1 || (wt_v W N.2.2).1, (wt_v W N.2.1).2.1 ||| (wt_v W N.2.2).2.1, (wt_v W N.2.1).2.2 ||| (wt_v W N.2.2).2.2)
  else if N.1 = 6 ∨ N.1 = 8 then (true, (wt_v W N.2.1).2.1, (wt_v W N.2.1).2.2)
  else if N.1 = 7 then ((wt_v W N.2.1).1, (wt_v W N.2.1).2.1, (wt_v W N.2.1).2.2)
  else (true, 0, 0)
def we_is (i : Wi) (g : Wl) (V : Nat → Nat) (W : List WtV) : Prop := ∀ k, k < W.length → i (V 3) k = wt_b (wt_v W k).1 ∧ g (V 4) k = (wt_v W k).2.1 ∧ g (V 5) k = (wt_v W k).2.2
/-- nodes whose parts stand ahead of them -/
def nd_q (m k : Nat) (N : Nat × Nat × Nat) : Prop := N.1 ≤ 8 ∧ (N.1 = 3 → N.2.1 < m) ∧ (4 ≤ N.1 → N.2.1 < k) ∧ (N.1 = 4 ∨ N.1 = 5 → N.2.2 < k)
def nd_ok (N : RdN) (m : Nat) : Prop := ∀ k, k < N.length → nd_q m k (rd_n N k)
/-- the reader's nodes in the heap -/
def rn_is (i : Wi) (V : Nat → Nat) (N : RdN) : Prop := N.length ≤ 121 ∧ ∀ k, k < N.length → i (V 0) k = nI (rd_n N k).1 ∧ i (V 1) k = nI (rd_n N k).2.1 ∧ i (V 2) k = nI (rd_n N k).2.2
section
variable {l : Launch} {E : We} {n0 d nx : Nat} {t : Wt} {r : Wr} {i : Wi} {g : Wl}
theorem wt_bn (b : Bool) : (if wt_b b = 0 then (0 : Int32) else 1) = wt_b b := by cases b <;> rfl
theorem c_Rdr_set {a n k : Nat} {V : Nat → Nat} {b : Bool} {F L : Int64} (hA : rd_at t r a V n) (hk : k < 121) : Ct l E n0 mt_Rdr_set d 0 0 [.ref a, .int (nI k), .int (wt_b b), .long F, .long L] nx t r i g (qVl nx t r (fun i' g' => i' = wf_up i (V 3) k (wt_b b) ∧ g' = wf_up (wf_up g (V 4) k F) (V 5) k L)) := by
  obtain ⟨ha, hr, r7, -, -, t3, t4, t5, -⟩ := hA
  have r3 := hr 3 (by omega) (by omega) (by omega) (by omega)
  have r4 := hr 4 (by omega) (by omega) (by omega) (by omega)
  have r5 := hr 5 (by omega) (by omega) (by omega) (by omega)
  refine Ct.of (by decide) (Nat.le_of_ble_eq_true rfl) ?_
  refine wf_aload_n dc_Rdr_set_0 rfl ?_
  refine wf_getr dc_Rdr_set_1 fl_Rdr_21 rfl (by assumption) (by assumption) ?_
  refine wf_iload_n dc_Rdr_set_4 rfl ?_
  refine wf_iload_n dc_Rdr_set_5 rfl ?_
  refine wf_zastore (y := 1) dc_Rdr_set_6 rfl (by decide) (by cases b <;> rfl) (by assumption) (vp_in_nI hk (by omega)) ?_
  refine wf_aload_n dc_Rdr_set_7 rfl ?_
  refine wf_getr dc_Rdr_set_8 fl_Rdr_25 rfl (by assumption) (by assumption) ?_
  refine wf_iload_n dc_Rdr_set_11 rfl ?_
  refine wf_lload_n dc_Rdr_set_12 rfl ?_
  refine wf_lastore (y := 2) dc_Rdr_set_13 rfl (by decide) (by assumption) (vp_in_nI hk (by omega)) ?_
  refine wf_aload_n dc_Rdr_set_14 rfl ?_
  refine wf_getr dc_Rdr_set_15 fl_Rdr_29 rfl (by assumption) (by assumption) ?_
  refine wf_iload_n dc_Rdr_set_18 rfl ?_
  refine wf_lload dc_Rdr_set_19 rfl ?_
  refine wf_lastore (y := 2) dc_Rdr_set_21 rfl (by decide) (by assumption) (vp_in_nI hk (by omega)) ?_
  rw [nI_clamp (by omega)]
  exact wf_return rfl dc_Rdr_set_22 ⟨rfl, rfl, rfl, rfl, rfl, rfl⟩
theorem lb_ushr {k : Nat} (hk : k < 64) (x : Int64) (j : Nat) : lb ((x.toUInt64 >>> ((nI k).toInt64.toUInt64 &&& Int64.toUInt64 63)).toInt64) j = lb x (k + j) := by
  have key : ∀ k : Fin 64, ((nI k.val).toInt64.toUInt64 &&& Int64.toUInt64 63) = UInt64.ofNat k.val := by decide +kernel
  rw [key ⟨k, hk⟩]
  unfold lb
  have e2 : ((x.toUInt64 >>> (UInt64.ofNat k)).toInt64).toBitVec = x.toBitVec >>> k := by
    show (x.toUInt64 >>> (UInt64.ofNat k)).toBitVec = _
    rw [UInt64.toBitVec_shiftRight]
    show x.toBitVec >>> ((UInt64.ofNat k).toBitVec % 64#64) = _
    have : (UInt64.ofNat k).toBitVec % 64#64 = BitVec.ofNat 64 k := by
      apply BitVec.eq_of_toNat_eq
      simp
      omega
    rw [this]
    show x.toBitVec >>> (BitVec.ofNat 64 k).toNat = _
    rw [BitVec.toNat_ofNat, Nat.mod_eq_of_lt (by omega)]
  rw [e2, BitVec.getLsbD_ushiftRight]
theorem c_Rdr_follow {a n m : Nat} {V : Nat → Nat} {B H : Int64} (hA : rd_at t r a V n) (hm : i (V 6) 5 = nI m) (hm60 : m ≤ 60) : Ct l E n0 mt_Rdr_follow d 0 0 [.ref a, .long B, .long H] nx t r i g (qVl nx t r (fun i' g' => i' = i ∧ fr_is [V 8] g g' ∧ ∀ j, j < m → g' (V 8) j = if lb B j = true then g (V 8) j ||| H else g (V 8) j)) := by
  obtain ⟨ha, -, r7, -, -, -, -, -, ⟨e1, -, ⟨er, et⟩, -⟩, -⟩ := hA
  refine Ct.of (by decide) (Nat.le_of_ble_eq_true rfl) ?_
  have loop : ∀ (k j : Nat) (g1 : Wl), j + k = m → fr_is [V 8] g g1 → (∀ q, g1 (V 8) q = if q < j ∧ lb B q = true then g (V 8) q ||| H else g (V 8) q) → Wf l E n0 mt_Rdr_follow d 0 0 (qVl nx t r (fun i' g' => i' = i ∧ fr_is [V 8] g g' ∧ ∀ j, j < m → g' (V 8) j = if lb B j = true then g (V 8) j ||| H else g (V 8) j)) 0 0 3 [(0, .ref a), (1, .long B), (3, .long H), (5, .int (nI j))] [] nx t r i g1 := by
    intro k
    induction k with
    | zero =>
      intro j g1 hj h1 h2
      refine wf_iload dc_Rdr_follow_3 rfl ?_
      refine wf_aload_n dc_Rdr_follow_5 rfl ?_
      refine wf_getr dc_Rdr_follow_6 fl_Rdr_35 rfl (by assumption) (by assumption) ?_
      refine wf_geti dc_Rdr_follow_9 fl_Rdr_126 rfl (by assumption) ?_
      rw [hm]
      refine wf_icmp_ge 46 dc_Rdr_follow_12 (by decide) (fun hc => ?_) (fun hc => absurd ((nI_leI (by omega) (by omega)).mpr (by omega)) hc)
      refine wf_return rfl dc_Rdr_follow_46 ⟨rfl, rfl, rfl, rfl, rfl, h1, fun q hq => ?_⟩
      rw [h2 q]
      by_cases hb : lb B q = true
      · rw [if_pos ⟨by omega, hb⟩, if_pos hb]
      · rw [if_neg (fun z => hb z.2), if_neg hb]
    | succ k ih =>
      intro j g1 hj h1 h2
      refine wf_iload dc_Rdr_follow_3 rfl ?_
      refine wf_aload_n dc_Rdr_follow_5 rfl ?_
      refine wf_getr dc_Rdr_follow_6 fl_Rdr_35 rfl (by assumption) (by assumption) ?_
      refine wf_geti dc_Rdr_follow_9 fl_Rdr_126 rfl (by assumption) ?_
      rw [hm]
      refine wf_icmp_ge 46 dc_Rdr_follow_12 (by decide) (fun hc => absurd ((nI_leI (by omega) (by omega)).mp hc) (by omega)) (fun hc => ?_)
      refine wf_lload_n dc_Rdr_follow_15 rfl ?_
      refine wf_iload dc_Rdr_follow_16 rfl ?_
      refine wf_lushr dc_Rdr_follow_18 ?_
      refine wf_lconst 1 dc_Rdr_follow_19 (by decide) ?_
      refine wf_land dc_Rdr_follow_20 ?_
      refine wf_lconst 0 dc_Rdr_follow_21 (by decide) ?_
      refine wf_lcmp dc_Rdr_follow_22 ?_
      have go : ∀ g2 : Wl, fr_is [V 8] g g2 → (∀ q, g2 (V 8) q = if q < j + 1 ∧ lb B q = true then g (V 8) q ||| H else g (V 8) q) → Wf l E n0 mt_Rdr_follow d 0 0 (qVl nx t r (fun i' g' => i' = i ∧ fr_is [V 8] g g' ∧ ∀ j, j < m → g' (V 8) j = if lb B j = true then g (V 8) j ||| H else g (V 8) j)) 0 0 40 [(0, .ref a), (1, .long B), (3, .long H), (5, .int (nI j))] [] nx t r i g2 := by
        intro g2 q1 q2
        refine wf_iinc _ dc_Rdr_follow_40 rfl (nI_1 j) (by decide) ?_
        refine wf_goto 3 dc_Rdr_follow_43 (by decide) ?_
        exact Wf.to (by exact ⟨rfl, rfl, rfl, rfl, trivial⟩) (ih (j + 1) g2 (by omega) q1 q2)
      refine wf_if_eq 40 dc_Rdr_follow_23 (by decide) (fun h3 => ?_) (fun h3 => ?_)
      · have h4 := (lb_and1 _).mp ((lg_cmp_eq _ _).mp h3)
        rw [lb_ushr (by omega), Nat.add_zero] at h4
        refine Wf.to (by exact ⟨rfl, rfl, rfl, rfl, trivial⟩) (go g1 h1 (fun q => ?_))
        rw [h2 q]
        by_cases hb : q < j ∧ lb B q = true
        · rw [if_pos hb, if_pos ⟨by omega, hb.2⟩]
        · rw [if_neg hb, if_neg]
          rintro ⟨z1, z2⟩
          by_cases hq : q = j
          · rw [hq, h4] at z2; cases z2
          · exact hb ⟨by omega, z2⟩
      · have h4 : lb B j = true := by
          cases hb : lb B j with
          | true => rfl
          | false =>
            exfalso
            apply h3
            rw [lg_cmp_eq, lb_and1, lb_ushr (by omega), Nat.add_zero, hb]
        refine wf_aload_n dc_Rdr_follow_26 rfl ?_
        refine wf_getr dc_Rdr_follow_27 fl_Rdr_35 rfl (by assumption) (by assumption) ?_
        refine wf_getr dc_Rdr_follow_30 fl_Rdr_160 rfl (by assumption) (by assumption) ?_
        refine wf_iload dc_Rdr_follow_33 rfl ?_
        refine wf_dup2 dc_Rdr_follow_35 rfl rfl ?_
        refine wf_laload (y := 2) dc_Rdr_follow_36 rfl (by assumption) (vp_in_nI (by omega) (by omega)) ?_
        refine wf_lload_n dc_Rdr_follow_37 rfl ?_
        refine wf_lor dc_Rdr_follow_38 ?_
        refine wf_lastore (y := 2) dc_Rdr_follow_39 rfl (by decide) (by assumption) (vp_in_nI (by omega) (by omega)) ?_
        rw [nI_clamp (by omega)]
        refine Wf.to (by exact ⟨rfl, rfl, rfl, rfl, trivial⟩) (go _ (fr_up h1 (by simp)) (fun q => ?_))
        by_cases hq : q = j
        · subst hq
          rw [wf_up_s, h2, if_neg (fun z => absurd z.1 (Nat.lt_irrefl _)), if_pos ⟨by omega, h4⟩]
        · rw [wf_up_k hq, h2 q]
          by_cases hb : q < j ∧ lb B q = true
          · rw [if_pos hb, if_pos ⟨by omega, hb.2⟩]
          · rw [if_neg hb, if_neg (fun z => hb ⟨by omega, z.2⟩)]
  refine wf_iconst 0 dc_Rdr_follow_0 (by decide) ?_
  refine wf_istore dc_Rdr_follow_1 (by decide) ?_
  exact Wf.to (by exact ⟨rfl, rfl, rfl, rfl, trivial⟩) (loop m 0 g (by omega) fr_rf (fun q => by rw [if_neg (fun z => absurd z.1 (Nat.not_lt_zero _))]))
/-- which followers a node links -/
def fo_l (W : List WtV) (N : Nat × Nat × Nat) : Int64 := if N.1 = 4 ∨ N.1 = 6 ∨ N.1 = 7 then (wt_v W N.2.1).2.2 else 0
def fo_f (W : List WtV) (N : Nat × Nat × Nat) : Int64 := if N.1 = 4 then (wt_v W N.2.2).2.1 else (wt_v W N.2.1).2.1
theorem c_Rdr_link {a n m k : Nat} {V : Nat → Nat} {N : RdN} {W : List WtV} (hA : rd_at t r a V n) (hm : i (V 6) 5 = nI m) (hm60 : m ≤ 60) (hN : rn_is i V N) (hok : nd_ok N m) (hW : we_is i g V W) (hWl : W.length ≤ N.length) (hk : k < W.length) : Ct l E n0 mt_Rdr_link (d + 1) 0 0 [.ref a, .int (nI k)] nx t r i g (qVl nx t r (fun i' g' => i' = i ∧ fr_is [V 8] g g' ∧ ∀ j, j < m → g' (V 8) j = if lb (fo_l W (rd_n N k)) j = true then g (V 8) j ||| fo_f W (rd_n N k) else g (V 8) j)) := by
  have hA' := hA
  obtain ⟨ha, hr, r7, -, hT3, t3, t4, t5, -⟩ := hA
  have r0 := hr 0 (by omega) (by omega) (by omega) (by omega)
  have r1 := hr 1 (by omega) (by omega) (by omega) (by omega)
  have r2 := hr 2 (by omega) (by omega) (by omega) (by omega)
  have r3 := hr 3 (by omega) (by omega) (by omega) (by omega)
  have r4 := hr 4 (by omega) (by omega) (by omega) (by omega)
  have r5 := hr 5 (by omega) (by omega) (by omega) (by omega)
  have t0 := hT3 0 (by omega)
  have t1 := hT3 1 (by omega)
  have t2 := hT3 2 (by omega)
  obtain ⟨hl, hN⟩ := hN
  obtain ⟨k0, k1, k2⟩ := hN k (by omega)
  obtain ⟨o1, o2, o3, o4⟩ := hok k (by omega)
  revert k0 k1 k2 o1 o2 o3 o4
  generalize rd_n N k = q
  obtain ⟨q1, q2, q3⟩ := q
  intro k0 k1 k2 o1 o2 o3 o4
  simp only at k0 k1 k2 o1 o2 o3 o4
  have hkc : (nI k).toNatClampNeg = k := nI_clamp (by omega)
  have hkin : vp_in (nI k) 121 := vp_in_nI (by omega) (by omega)
  refine Ct.of (by decide) (Nat.le_of_ble_eq_true rfl) ?_
  refine wf_aload_n dc_Rdr_link_0 rfl ?_
  refine wf_getr dc_Rdr_link_1 fl_Rdr_11 rfl (by assumption) (by assumption) ?_
  refine wf_iload_n dc_Rdr_link_4 rfl ?_
  refine wf_iaload (y := 0) dc_Rdr_link_5 rfl (by assumption) (hkin) ?_
  rw [hkc, k0]
  refine wf_iconst 4 dc_Rdr_link_6 (by decide) ?_
  refine wf_icmp_ne 39 dc_Rdr_link_7 (by decide) (fun h4 => ?_) (fun h4 => ?_)
  · have h4' : ¬ q1 = 4 := fun z => h4 (by rw [z]; rfl)
    have lk : q1 = 6 ∨ q1 = 7 → Wf l E n0 mt_Rdr_link (d + 1) 0 0 (qVl nx t r (fun i' g' => i' = i ∧ fr_is [V 8] g g' ∧ ∀ j, j < m → g' (V 8) j = if lb (fo_l W (q1, q2, q3)) j = true then g (V 8) j ||| fo_f W (q1, q2, q3) else g (V 8) j)) 0 0 61 [(0, .ref a), (1, .int (nI k))] [] nx t r i g := by
      intro h67
      have hq2 : q2 < k := o3 (by omega)
      obtain ⟨e1, e2, e3⟩ := hW q2 (by omega)
      refine wf_aload_n dc_Rdr_link_61 rfl ?_
      refine wf_aload_n dc_Rdr_link_62 rfl ?_
      refine wf_getr dc_Rdr_link_63 fl_Rdr_29 rfl (by assumption) (by assumption) ?_
      refine wf_aload_n dc_Rdr_link_66 rfl ?_
      refine wf_getr dc_Rdr_link_67 fl_Rdr_15 rfl (by assumption) (by assumption) ?_
      refine wf_iload_n dc_Rdr_link_70 rfl ?_
      refine wf_iaload (y := 0) dc_Rdr_link_71 rfl (by assumption) (hkin) ?_
      rw [hkc, k1]
      refine wf_laload (y := 2) dc_Rdr_link_72 rfl (by assumption) (vp_in_nI (by omega) (by omega)) ?_
      rw [nI_clamp (by omega), e3]
      refine wf_aload_n dc_Rdr_link_73 rfl ?_
      refine wf_getr dc_Rdr_link_74 fl_Rdr_25 rfl (by assumption) (by assumption) ?_
      refine wf_aload_n dc_Rdr_link_77 rfl ?_
      refine wf_getr dc_Rdr_link_78 fl_Rdr_15 rfl (by assumption) (by assumption) ?_
      refine wf_iload_n dc_Rdr_link_81 rfl ?_
      refine wf_iaload (y := 0) dc_Rdr_link_82 rfl (by assumption) (hkin) ?_
      rw [hkc, k1]
      refine wf_laload (y := 2) dc_Rdr_link_83 rfl (by assumption) (vp_in_nI (by omega) (by omega)) ?_
      rw [nI_clamp (by omega), e2]
      refine wf_iv2 (M' := mt_Rdr_follow) (c := 4) dc_Rdr_link_84 tg_Rdr_follow ml_Rdr_156 im_Rdr_follow se_Rdr_follow ⟨_, rfl, rfl⟩ (by assumption) (Nat.le_of_ble_eq_true rfl) (Nat.le_refl _) (Nat.le_refl _) (c_Rdr_follow hA' hm hm60) qVl_nt (qVl_go (fun i2 g2 hp => ?_))
      obtain ⟨rfl, u1, u2⟩ := hp
      refine wf_return rfl dc_Rdr_link_87 ⟨rfl, rfl, rfl, rfl, rfl, u1, fun j hj => ?_⟩
      rw [u2 j hj, show fo_l W (q1, q2, q3) = (wt_v W q2).2.2 from if_pos (.inr h67), show fo_f W (q1, q2, q3) = (wt_v W q2).2.1 from if_neg h4']
    refine wf_aload_n dc_Rdr_link_39 rfl ?_
    refine wf_getr dc_Rdr_link_40 fl_Rdr_11 rfl (by assumption) (by assumption) ?_
    refine wf_iload_n dc_Rdr_link_43 rfl ?_
    refine wf_iaload (y := 0) dc_Rdr_link_44 rfl (by assumption) (hkin) ?_
    rw [hkc, k0]
    refine wf_bipush 6 dc_Rdr_link_45 (by decide) ?_
    refine wf_icmp_eq 61 dc_Rdr_link_47 (by decide) (fun h6 => ?_) (fun h6 => ?_)
    · exact Wf.to (by exact ⟨rfl, rfl, trivial⟩) (lk (.inl ((nI_eq (b := 6) (by omega) (by omega)).mp h6)))
    have h6' : ¬ q1 = 6 := fun z => h6 (by rw [z]; rfl)
    refine wf_aload_n dc_Rdr_link_50 rfl ?_
    refine wf_getr dc_Rdr_link_51 fl_Rdr_11 rfl (by assumption) (by assumption) ?_
    refine wf_iload_n dc_Rdr_link_54 rfl ?_
    refine wf_iaload (y := 0) dc_Rdr_link_55 rfl (by assumption) (hkin) ?_
    rw [hkc, k0]
    refine wf_bipush 7 dc_Rdr_link_56 (by decide) ?_
    refine wf_icmp_ne 87 dc_Rdr_link_58 (by decide) (fun h7 => ?_) (fun h7 => ?_)
    · have h7' : ¬ q1 = 7 := fun z => h7 (by rw [z]; rfl)
      refine wf_return rfl dc_Rdr_link_87 ⟨rfl, rfl, rfl, rfl, rfl, fr_rf, fun j hj => ?_⟩
      rw [show fo_l W (q1, q2, q3) = 0 from if_neg (fun z => z.elim h4' (fun z => z.elim h6' h7')), lb_0]
      rfl
    · exact Wf.to (by exact ⟨rfl, rfl, trivial⟩) (lk (.inr ((nI_eq (b := 7) (by omega) (by omega)).mp h7)))
  · have h4' : q1 = 4 := (nI_eq (b := 4) (by omega) (by omega)).mp h4
    have hq2 : q2 < k := o3 (by omega)
    have hq3 : q3 < k := o4 (.inl h4')
    obtain ⟨e1, e2, e3⟩ := hW q2 (by omega)
    obtain ⟨f1, f2, f3⟩ := hW q3 (by omega)
    refine wf_aload_n dc_Rdr_link_10 rfl ?_
    refine wf_aload_n dc_Rdr_link_11 rfl ?_
    refine wf_getr dc_Rdr_link_12 fl_Rdr_29 rfl (by assumption) (by assumption) ?_
    refine wf_aload_n dc_Rdr_link_15 rfl ?_
    refine wf_getr dc_Rdr_link_16 fl_Rdr_15 rfl (by assumption) (by assumption) ?_
    refine wf_iload_n dc_Rdr_link_19 rfl ?_
    refine wf_iaload (y := 0) dc_Rdr_link_20 rfl (by assumption) (hkin) ?_
    rw [hkc, k1]
    refine wf_laload (y := 2) dc_Rdr_link_21 rfl (by assumption) (vp_in_nI (by omega) (by omega)) ?_
    rw [nI_clamp (by omega), e3]
    refine wf_aload_n dc_Rdr_link_22 rfl ?_
    refine wf_getr dc_Rdr_link_23 fl_Rdr_25 rfl (by assumption) (by assumption) ?_
    refine wf_aload_n dc_Rdr_link_26 rfl ?_
    refine wf_getr dc_Rdr_link_27 fl_Rdr_18 rfl (by assumption) (by assumption) ?_
    refine wf_iload_n dc_Rdr_link_30 rfl ?_
    refine wf_iaload (y := 0) dc_Rdr_link_31 rfl (by assumption) (hkin) ?_
    rw [hkc, k2]
    refine wf_laload (y := 2) dc_Rdr_link_32 rfl (by assumption) (vp_in_nI (by omega) (by omega)) ?_
    rw [nI_clamp (by omega), f2]
    refine wf_iv2 (M' := mt_Rdr_follow) (c := 4) dc_Rdr_link_33 tg_Rdr_follow ml_Rdr_156 im_Rdr_follow se_Rdr_follow ⟨_, rfl, rfl⟩ (by assumption) (Nat.le_of_ble_eq_true rfl) (Nat.le_refl _) (Nat.le_refl _) (c_Rdr_follow hA' hm hm60) qVl_nt (qVl_go (fun i2 g2 hp => ?_))
    refine wf_goto 87 dc_Rdr_link_36 (by decide) ?_
    obtain ⟨rfl, u1, u2⟩ := hp
    refine wf_return rfl dc_Rdr_link_87 ⟨rfl, rfl, rfl, rfl, rfl, u1, fun j hj => ?_⟩
    rw [u2 j hj, show fo_l W (q1, q2, q3) = (wt_v W q2).2.2 from if_pos (.inl h4'), show fo_f W (q1, q2, q3) = (wt_v W q3).2.1 from if_pos h4']
end
