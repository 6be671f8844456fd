/-! the reference: end, counter, printed, count, sign, key -/
def mq (nx : Nat) (t : Wt) (r : Wr) (g : Wl) (m : Nat) (i : Wi) (o : Option Int32) : Wq := qI nx t r g (fun z i' => match o with
  | some y => z = y ∧ i' = wf_up i (m + 0) 0 0
  | none => i' = wf_up i (m + 0) 0 1)
theorem i32_m1 {j : Int32} (h1 : ¬ j < -1) (h2 : ¬ j = -1) : ¬ j < 0 := by
  rw [Int32.lt_iff_toInt_lt] at h1 ⊢
  have e1 : (-1 : Int32).toInt = -1 := rfl
  have e0 : (0 : Int32).toInt = 0 := rfl
  have h3 : j.toInt ≠ -1 := fun z => h2 (Int32.toInt_inj.mp (z.trans e1.symm))
  omega
section
variable {l : Launch} {E : We} {n0 d nx : Nat} {t : Wt} {r : Wr} {i i1 i2 : Wi} {g : Wl} {m : Nat} {S : Ms}
theorem th_f (c : Bool) : th_of false c = 1 := rfl
theorem up_b {v : Int32} {i : Wi} {c k : Nat} (hc : ¬ (c = 0 ∧ k = 0)) : wf_up i (m + 0) 0 v (m + c) k = i (m + c) k := by
  unfold wf_up
  rw [if_neg (fun z => hc ⟨by omega, z.2⟩)]
theorem c_Mod_end {z : Int32} (hA : mo_at t r m) (hE : i (m + 0) 25 = z) : Ct l E n0 mt_Mod_end d 0 0 [.ref (m + 0)] nx t r i g (qI nx t r g (fun y i' => y = z ∧ i' = wf_up i (m + 0) 0 0)) := by
  have t0 := hA.1.1
  refine Ct.of (by decide) (Nat.le_of_ble_eq_true rfl) ?_
  refine wf_aload_n dc_Mod_end_0 rfl ?_
  refine wf_iconst 0 dc_Mod_end_1 (by decide) ?_
  refine wf_puti dc_Mod_end_2 fl_Mod_99 (Or.inl nf_Mod_0) rfl rfl rfl (by assumption) ?_
  refine wf_aload_n dc_Mod_end_5 rfl ?_
  refine wf_geti dc_Mod_end_6 fl_Mod_68 rfl (by assumption) ?_
  rw [up_b (by omega), hE]
  exact wf_ireturn rfl dc_Mod_end_9 ⟨_, rfl, rfl, rfl, rfl, rfl, rfl, rfl⟩
theorem c_Mod_counter {co : Nat → Int32} {x : Int32} (hA : mo_at t r m) (hN : mp_cnt i m co) : Ct l E n0 mt_Mod_counter (d + 1) 0 0 [.ref (m + 0), .int x] nx t r i g (mq nx t r g m i (an_counter co x)) := by
  have t0 := hA.1.1
  have r18 : r (m + 0) 18 = some (m + 14) := hA.2 (0, 18, 14) (by decide +kernel)
  have t14 := hA.1.2 14 (14, .inr (0, 8)) (by decide +kernel)
  refine Ct.of (by decide) (Nat.le_of_ble_eq_true rfl) ?_
  refine wf_aload_n dc_Mod_counter_0 rfl ?_
  refine wf_iload_n dc_Mod_counter_1 rfl ?_
  refine wf_iconst 0 dc_Mod_counter_2 (by decide) ?_
  refine wf_bipush 7 dc_Mod_counter_3 (by decide) ?_
  refine wf_is3 (M' := mt_Mod_within) dc_Mod_counter_5 tg_Mod_within ml_Mod_142 sm_Mod_within (Nat.le_of_ble_eq_true rfl) (Nat.le_refl _) (Nat.le_refl _) (c_Mod_within) qI_nt (qI_go (fun x2 i2 hp => ?_))
  obtain ⟨rfl, hq⟩ := hp; subst i2
  refine wf_iconst 1 dc_Mod_counter_8 (by decide) ?_
  refine wf_iv2 (M' := mt_Mod_goes) (c := 8) dc_Mod_counter_9 tg_Mod_goes ml_Mod_106 im_Mod_goes se_Mod_goes ⟨_, rfl, rfl⟩ (by assumption) (Nat.le_of_ble_eq_true rfl) (Nat.le_refl _) (Nat.le_refl _) (c_Mod_goes (a := bw x 0 7) (c := true) hA) qI_nt (qI_go (fun x2 i2 hp => ?_))
  obtain ⟨rfl, rfl⟩ := hp
  unfold an_counter mq
  cases hb : bw x 0 7 with
  | false =>
    refine wf_if_eq 24 dc_Mod_counter_12 (by decide) (fun hc => ?_) (fun hc => absurd rfl hc)
    refine wf_iconst 0 dc_Mod_counter_24 (by decide) ?_
    refine wf_ireturn rfl dc_Mod_counter_25 ⟨_, rfl, rfl, rfl, rfl, rfl, ?_⟩
    rw [if_neg (by decide)]
    rfl
  | true =>
    refine wf_if_eq 24 dc_Mod_counter_12 (by decide) (fun hc => absurd hc (by decide)) (fun hc => ?_)
    obtain ⟨k, -, hk, rfl⟩ := bw_n (lo := 0) (hi := 7) hb
    have hcl : (nI k).toNatClampNeg = k := nI_clamp (by omega)
    refine wf_aload_n dc_Mod_counter_15 rfl ?_
    refine wf_getr dc_Mod_counter_16 fl_Mod_53 rfl (by assumption) (by assumption) ?_
    refine wf_iload_n dc_Mod_counter_19 rfl ?_
    refine wf_iaload (y := 0) dc_Mod_counter_20 rfl (by assumption) (vp_in_nI (by omega) (by omega)) ?_
    rw [hcl, up_b (by omega), hN k (by omega)]
    refine wf_goto 25 dc_Mod_counter_21 (by decide) ?_
    refine wf_ireturn rfl dc_Mod_counter_25 ⟨_, rfl, rfl, rfl, rfl, rfl, ?_⟩
    rw [if_pos rfl]
    exact ⟨rfl, rfl⟩
theorem c_Mod_printed {out : List Int32} {x : Int32} (hA : mo_at t r m) (hO : mp_out i m out) (hlo : out.length < 2000000000) : Ct l E n0 mt_Mod_printed (d + 1) 0 0 [.ref (m + 0), .int x] nx t r i g (mq nx t r g m i (an_printed out x)) := by
  have t0 := hA.1.1
  have r24 : r (m + 0) 24 = some (m + 18) := hA.2 (0, 24, 18) (by decide +kernel)
  have t18 := hA.1.2 18 (18, .inr (0, 1500)) (by decide +kernel)
  have e1 : (nI out.length - 1500).toInt = (out.length : Int) - 1500 := by
    rw [Int32.toInt_sub, nI_toInt (by omega), show (1500 : Int32).toInt = 1500 from rfl]
    exact Int.bmod_eq_of_le (by omega) (by omega)
  unfold an_printed
  refine Ct.of (by decide) (Nat.le_of_ble_eq_true rfl) ?_
  have go : ∀ f : Bool, (f = true ↔ (bw x 0 ((out.length : Int) - 1) = true ∧ (out.length : Int) - 1500 ≤ x.toInt)) → Wf l E n0 mt_Mod_printed (d + 1) 0 0 (mq nx t r g m i (if bw x 0 ((out.length : Int) - 1) = true ∧ (out.length : Int) - 1500 ≤ x.toInt then some (out.getD x.toNatClampNeg 0) else none)) 0 0 30 [(0, .ref (m + 0)), (1, .int x)] [.int (wt_b f), .ref (m + 0)] nx t r i g := fun f hf => by
    refine wf_iconst 1 dc_Mod_printed_30 (by decide) ?_
    refine wf_iv2 (M' := mt_Mod_goes) (c := 8) dc_Mod_printed_31 tg_Mod_goes ml_Mod_106 im_Mod_goes se_Mod_goes ⟨_, rfl, rfl⟩ (by assumption) (Nat.le_of_ble_eq_true rfl) (Nat.le_refl _) (Nat.le_refl _) (c_Mod_goes (a := f) (c := true) hA) qI_nt (qI_go (fun x2 i2 hp => ?_))
    obtain ⟨rfl, rfl⟩ := hp
    unfold mq
    cases f with
    | false =>
      rw [if_neg (fun z => absurd (hf.mpr z) (by decide))]
      refine wf_if_eq 50 dc_Mod_printed_34 (by decide) (fun hc => ?_) (fun hc => absurd rfl hc)
      refine wf_iconst 0 dc_Mod_printed_50 (by decide) ?_
      exact wf_ireturn rfl dc_Mod_printed_51 ⟨_, rfl, rfl, rfl, rfl, rfl, rfl⟩
    | true =>
      have hb := hf.mp rfl
      rw [if_pos hb]
      refine wf_if_eq 50 dc_Mod_printed_34 (by decide) (fun hc => absurd hc (by decide)) (fun hc => ?_)
      obtain ⟨k, hk, rfl⟩ := bw_k (by omega) hb.1
      have h2 := hb.2
      rw [nI_toInt (by omega)] at h2
      have hcl : (nI k).toNatClampNeg = k := nI_clamp (by omega)
      have hm : k % 1500 < 1500 := Nat.mod_lt _ (by omega)
      refine wf_aload_n dc_Mod_printed_37 rfl ?_
      refine wf_getr dc_Mod_printed_38 fl_Mod_65 rfl (by assumption) (by assumption) ?_
      refine wf_iload_n dc_Mod_printed_41 rfl ?_
      refine wf_sipush 1500 dc_Mod_printed_42 (by decide) ?_
      refine wf_irem dc_Mod_printed_45 (nI_ne0 (n := 1500) (by omega) (by omega)) ?_
      rw [show nI k - nI k / 1500 * 1500 = nI (k % 1500) from pk_rem (d := 1500) (by omega) (by omega) (by omega)]
      refine wf_iaload (y := 0) dc_Mod_printed_46 rfl (by assumption) (vp_in_nI hm (by omega)) ?_
      rw [nI_clamp (show k % 1500 < 2 ^ 31 by omega), up_b (by omega), hO.2 k hk (by omega)]
      refine wf_goto 51 dc_Mod_printed_47 (by decide) ?_
      exact wf_ireturn rfl dc_Mod_printed_51 ⟨_, rfl, rfl, rfl, rfl, rfl, by rw [hcl], rfl⟩
  have no : ¬ (bw x 0 ((out.length : Int) - 1) = true ∧ (out.length : Int) - 1500 ≤ x.toInt) → Wf l E n0 mt_Mod_printed (d + 1) 0 0 (mq nx t r g m i (if bw x 0 ((out.length : Int) - 1) = true ∧ (out.length : Int) - 1500 ≤ x.toInt then some (out.getD x.toNatClampNeg 0) else none)) 0 0 29 [(0, .ref (m + 0)), (1, .int x)] [.ref (m + 0)] nx t r i g := fun h => by
    refine wf_iconst 0 dc_Mod_printed_29 (by decide) ?_
    exact Wf.to (by exact ⟨rfl, rfl, trivial⟩) (go false ⟨fun z => (by cases z), fun z => absurd z h⟩)
  refine wf_aload_n dc_Mod_printed_0 rfl ?_
  refine wf_iload_n dc_Mod_printed_1 rfl ?_
  refine wf_if_lt 29 dc_Mod_printed_2 (by decide) (fun h1 => ?_) (fun h1 => ?_)
  · exact Wf.to (by exact ⟨rfl, rfl, trivial⟩) (no (fun z => ((bw_row (by omega)).mpr z.1).1 h1))
  refine wf_iload_n dc_Mod_printed_5 rfl ?_
  refine wf_aload_n dc_Mod_printed_6 rfl ?_
  refine wf_geti dc_Mod_printed_7 fl_Mod_190 rfl (by assumption) ?_
  rw [hO.1]
  refine wf_icmp_ge 29 dc_Mod_printed_10 (by decide) (fun hc => ?_) (fun hc => ?_)
  · exact Wf.to (by exact ⟨rfl, rfl, trivial⟩) (no (fun z => Int32.not_lt.mpr hc ((bw_row (by omega)).mpr z.1).2))
  have hb : bw x 0 ((out.length : Int) - 1) = true := (bw_row (by omega)).mp ⟨h1, Int32.not_le.mp hc⟩
  refine wf_iload_n dc_Mod_printed_13 rfl ?_
  refine wf_aload_n dc_Mod_printed_14 rfl ?_
  refine wf_geti dc_Mod_printed_15 fl_Mod_190 rfl (by assumption) ?_
  rw [hO.1]
  refine wf_sipush 1500 dc_Mod_printed_18 (by decide) ?_
  refine wf_isub dc_Mod_printed_21 ?_
  refine wf_icmp_lt 29 dc_Mod_printed_22 (by decide) (fun hc => ?_) (fun hc => ?_)
  · refine Wf.to (by exact ⟨rfl, rfl, trivial⟩) (no (fun z => ?_))
    rw [Int32.lt_iff_toInt_lt, e1] at hc
    omega
  · rw [Int32.lt_iff_toInt_lt, e1] at hc
    refine wf_iconst 1 dc_Mod_printed_25 (by decide) ?_
    refine wf_goto 30 dc_Mod_printed_26 (by decide) ?_
    exact Wf.to (by exact ⟨rfl, rfl, trivial⟩) (go true ⟨fun _ => ⟨hb, by omega⟩, fun _ => rfl⟩)
theorem c_Mod_count {w : List Int32} {F : List (List Int32)} {ru : List RuS} {K : KtS} {out : List Int32} {lc : Nat} {x : Int32} (hA : mo_at t r m) (hP : mr i m 0 w) (hR : mp_rul i m ru) (hL : i (m + 0) 14 = nI lc) (hF : mp_fld i m F) (hO : mp_out i m out) (hK : mp_tab i m K) : Ct l E n0 mt_Mod_count (d + 1) 0 0 [.ref (m + 0), .int x] nx t r i g (mq nx t r g m i (an_count w.length ru.length lc F.length out.length K.length x)) := by
  have t0 := hA.1.1
  have r2 : r (m + 0) 2 = some (m + 2) := hA.2 (0, 2, 2) (by decide +kernel)
  have t2 := hA.1.2 2 (2, .inr (0, 9)) (by decide +kernel)
  refine Ct.of (by decide) (Nat.le_of_ble_eq_true rfl) ?_
  refine wf_aload_n dc_Mod_count_0 rfl ?_
  refine wf_iload_n dc_Mod_count_1 rfl ?_
  refine wf_iconst 0 dc_Mod_count_2 (by decide) ?_
  refine wf_iconst 5 dc_Mod_count_3 (by decide) ?_
  refine wf_is3 (M' := mt_Mod_within) dc_Mod_count_4 tg_Mod_within ml_Mod_142 sm_Mod_within (Nat.le_of_ble_eq_true rfl) (Nat.le_refl _) (Nat.le_refl _) (c_Mod_within) qI_nt (qI_go (fun x2 i2 hp => ?_))
  obtain ⟨rfl, hq⟩ := hp; subst i2
  refine wf_iconst 1 dc_Mod_count_7 (by decide) ?_
  refine wf_iv2 (M' := mt_Mod_goes) (c := 8) dc_Mod_count_8 tg_Mod_goes ml_Mod_106 im_Mod_goes se_Mod_goes ⟨_, rfl, rfl⟩ (by assumption) (Nat.le_of_ble_eq_true rfl) (Nat.le_refl _) (Nat.le_refl _) (c_Mod_goes (a := bw x 0 5) (c := true) hA) qI_nt (qI_go (fun x2 i2 hp => ?_))
  obtain ⟨rfl, rfl⟩ := hp
  unfold an_count mq
  cases hb : bw x 0 5 with
  | false =>
    refine wf_if_ne 16 dc_Mod_count_11 (by decide) (fun hc => absurd rfl hc) (fun hc => ?_)
    refine wf_iconst 0 dc_Mod_count_14 (by decide) ?_
    have ne : ∀ k : Nat, k ≤ 5 → ¬ x = nI k := fun k hk z => by
      have : bw x 0 5 = true := bw_t.mpr (by rw [z, nI_toInt (by omega)]; omega)
      rw [hb] at this
      cases this
    refine wf_ireturn rfl dc_Mod_count_15 ⟨_, rfl, rfl, rfl, rfl, rfl, ?_⟩
    rw [if_neg (show ¬ x = 0 from ne 0 (by omega)), if_neg (show ¬ x = 1 from ne 1 (by omega)), if_neg (show ¬ x = 2 from ne 2 (by omega)), if_neg (show ¬ x = 3 from ne 3 (by omega)), if_neg (show ¬ x = 4 from ne 4 (by omega)), if_neg (show ¬ x = 5 from ne 5 (by omega))]
    rfl
  | true =>
    refine wf_if_ne 16 dc_Mod_count_11 (by decide) (fun hc => ?_) (fun hc => absurd hc (by decide))
    obtain ⟨k, -, hk, rfl⟩ := bw_n (lo := 0) (hi := 5) hb
    refine wf_iload_n dc_Mod_count_16 rfl ?_
    have hc : k = 0 ∨ k = 1 ∨ k = 2 ∨ k = 3 ∨ k = 4 ∨ k = 5 := by omega
    rcases hc with z | z | z | z | z | z <;> subst z
    · refine wf_tableIn (off := 35) 52 dc_Mod_count_17 (by decide) (by decide) rfl (by decide) ?_
      refine wf_aload_n dc_Mod_count_52 rfl ?_
      refine wf_getr dc_Mod_count_53 fl_Mod_13 rfl (by assumption) (by assumption) ?_
      refine wf_iconst 0 dc_Mod_count_56 (by decide) ?_
      refine wf_iaload (y := 0) dc_Mod_count_57 rfl (by assumption) (vp_in_nI (n := 0) (by omega) (by omega)) ?_
      exact wf_ireturn rfl dc_Mod_count_58 ⟨_, rfl, rfl, rfl, rfl, rfl, (up_b (c := 2) (k := 0) (by omega)).trans hP.1, rfl⟩
    · refine wf_tableIn (off := 42) 59 dc_Mod_count_17 (by decide) (by decide) rfl (by decide) ?_
      refine wf_aload_n dc_Mod_count_59 rfl ?_
      refine wf_geti dc_Mod_count_60 fl_Mod_172 rfl (by assumption) ?_
      exact wf_ireturn rfl dc_Mod_count_63 ⟨_, rfl, rfl, rfl, rfl, rfl, (up_b (by omega)).trans hR.1, rfl⟩
    · refine wf_tableIn (off := 47) 64 dc_Mod_count_17 (by decide) (by decide) rfl (by decide) ?_
      refine wf_aload_n dc_Mod_count_64 rfl ?_
      refine wf_geti dc_Mod_count_65 fl_Mod_241 rfl (by assumption) ?_
      exact wf_ireturn rfl dc_Mod_count_68 ⟨_, rfl, rfl, rfl, rfl, rfl, (up_b (by omega)).trans hL, rfl⟩
    · refine wf_tableIn (off := 52) 69 dc_Mod_count_17 (by decide) (by decide) rfl (by decide) ?_
      refine wf_aload_n dc_Mod_count_69 rfl ?_
      refine wf_geti dc_Mod_count_70 fl_Mod_178 rfl (by assumption) ?_
      exact wf_ireturn rfl dc_Mod_count_73 ⟨_, rfl, rfl, rfl, rfl, rfl, (up_b (by omega)).trans hF.1, rfl⟩
    · refine wf_tableIn (off := 57) 74 dc_Mod_count_17 (by decide) (by decide) rfl (by decide) ?_
      refine wf_aload_n dc_Mod_count_74 rfl ?_
      refine wf_geti dc_Mod_count_75 fl_Mod_190 rfl (by assumption) ?_
      exact wf_ireturn rfl dc_Mod_count_78 ⟨_, rfl, rfl, rfl, rfl, rfl, (up_b (by omega)).trans hO.1, rfl⟩
    · refine wf_tableOut 79 dc_Mod_count_17 (Or.inr (by decide)) (by decide) ?_
      refine wf_aload_n dc_Mod_count_79 rfl ?_
      refine wf_geti dc_Mod_count_80 fl_Mod_200 rfl (by assumption) ?_
      exact wf_ireturn rfl dc_Mod_count_83 ⟨_, rfl, rfl, rfl, rfl, rfl, (up_b (by omega)).trans hK.1, rfl⟩
theorem mp_fld.z {F : List (List Int32)} {v : Int32} (h : mp_fld i m F) : mp_fld (wf_up i (m + 0) 0 v) m F := ⟨(up_b (by omega)).trans h.1, fun k hk => ⟨(up_b (by omega)).trans (h.2 k hk).1, fun j hj => (up_b (by omega)).trans ((h.2 k hk).2 j hj)⟩⟩
theorem c_Mod_sign {W : List Int32} {F : List (List Int32)} {f j : Int32} (hA : mo_at t r m) (hW : mr i m 1 W) (hl : W.length ≤ 120) (hF : mp_fld i m F) (h30 : F.length ≤ 30) (h120 : ∀ k, k < F.length → (F.getD k []).length ≤ 120) : Ct l E n0 mt_Mod_sign (d + 1) 0 0 [.ref (m + 0), .int f, .int j] nx t r i g (mq nx t r g m i (an_sign W F f j)) := by
  have t0 := hA.1.1
  have r1 : r (m + 0) 1 = some (m + 1) := hA.2 (0, 1, 1) (by decide +kernel)
  have r2 : r (m + 0) 2 = some (m + 2) := hA.2 (0, 2, 2) (by decide +kernel)
  have t1 := hA.1.2 1 (1, .inr (0, 1080)) (by decide +kernel)
  have t2 := hA.1.2 2 (2, .inr (0, 9)) (by decide +kernel)
  refine Ct.of (by decide) (Nat.le_of_ble_eq_true rfl) ?_
  have no : ∀ (z : Int32) (o : Option Int32), o = none → Wf l E n0 mt_Mod_sign (d + 1) 0 0 (mq nx t r g m i o) 0 0 56 [(0, .ref (m + 0)), (1, .int f), (2, .int j), (3, .int z)] [.ref (m + 0)] nx t r i g := fun z o ho => by
    subst ho
    refine wf_iconst 0 dc_Mod_sign_56 (by decide) ?_
    refine wf_iconst 1 dc_Mod_sign_57 (by decide) ?_
    refine wf_iv2 (M' := mt_Mod_goes) (c := 8) dc_Mod_sign_58 tg_Mod_goes ml_Mod_106 im_Mod_goes se_Mod_goes ⟨_, rfl, rfl⟩ (by assumption) (Nat.le_of_ble_eq_true rfl) (Nat.le_refl _) (Nat.le_refl _) (c_Mod_goes (a := false) (c := true) hA) qI_nt (qI_go (fun x2 i2 hp => ?_))
    obtain ⟨rfl, rfl⟩ := hp
    refine wf_if_ne 66 dc_Mod_sign_61 (by decide) (fun hc => absurd rfl hc) (fun hc => ?_)
    refine wf_iconst 0 dc_Mod_sign_64 (by decide) ?_
    exact wf_ireturn rfl dc_Mod_sign_65 ⟨_, rfl, rfl, rfl, rfl, rfl, rfl⟩
  have tail : ∀ (w : List Int32), w.length ≤ 120 → (∀ k, k < w.length → j = nI k → Wf l E n0 mt_Mod_sign (d + 1) 0 0 (mq nx t r g m i (some (w.getD k 0))) 0 0 75 [(0, .ref (m + 0)), (1, .int f), (2, .int j), (3, .int (nI w.length))] [] nx t r (wf_up i (m + 0) 0 0) g) → Wf l E n0 mt_Mod_sign (d + 1) 0 0 (mq nx t r g m i (an_row w j)) 0 0 35 [(0, .ref (m + 0)), (1, .int f), (2, .int j)] [.int (nI w.length)] nx t r i g := by
    intro w hwl rd
    unfold an_row
    have yes : ∀ o, ((j = -1 ∧ o = some (nI w.length)) ∨ ∃ k, k < w.length ∧ j = nI k ∧ o = some (w.getD k 0)) → Wf l E n0 mt_Mod_sign (d + 1) 0 0 (mq nx t r g m i o) 0 0 52 [(0, .ref (m + 0)), (1, .int f), (2, .int j), (3, .int (nI w.length))] [.ref (m + 0)] nx t r i g := fun o ho => by
      refine wf_iconst 1 dc_Mod_sign_52 (by decide) ?_
      refine wf_goto 57 dc_Mod_sign_53 (by decide) ?_
      refine wf_iconst 1 dc_Mod_sign_57 (by decide) ?_
      refine wf_iv2 (M' := mt_Mod_goes) (c := 8) dc_Mod_sign_58 tg_Mod_goes ml_Mod_106 im_Mod_goes se_Mod_goes ⟨_, rfl, rfl⟩ (by assumption) (Nat.le_of_ble_eq_true rfl) (Nat.le_refl _) (Nat.le_refl _) (c_Mod_goes (a := true) (c := true) hA) qI_nt (qI_go (fun x2 i2 hp => ?_))
      obtain ⟨rfl, rfl⟩ := hp
      refine wf_if_ne 66 dc_Mod_sign_61 (by decide) (fun hc => ?_) (fun hc => absurd hc (by decide))
      refine wf_iload_n dc_Mod_sign_66 rfl ?_
      refine wf_iconst (-1) dc_Mod_sign_67 (by decide) ?_
      rcases ho with ⟨hj, rfl⟩ | ⟨k, hk, hj, rfl⟩
      · refine wf_icmp_ne 75 dc_Mod_sign_68 (by decide) (fun hc => absurd hj hc) (fun hc => ?_)
        refine wf_iload_n dc_Mod_sign_71 rfl ?_
        refine wf_goto 97 dc_Mod_sign_72 (by decide) ?_
        exact wf_ireturn rfl dc_Mod_sign_97 ⟨_, rfl, rfl, rfl, rfl, rfl, rfl, rfl⟩
      · refine wf_icmp_ne 75 dc_Mod_sign_68 (by decide) (fun hc => ?_) (fun hc => absurd (hc.symm.trans hj) (mx_m1 (by omega)))
        exact Wf.to (by exact ⟨rfl, rfl, rfl, rfl, trivial⟩) (rd k hk hj)
    refine wf_istore_n dc_Mod_sign_35 (by decide) ?_
    refine wf_aload_n dc_Mod_sign_36 rfl ?_
    refine wf_iload_n dc_Mod_sign_37 rfl ?_
    refine wf_iconst (-1) dc_Mod_sign_38 (by decide) ?_
    refine wf_icmp_eq 56 dc_Mod_sign_39 (by decide) (fun hc => absurd hc.symm (mx_m1 (by omega))) (fun hc => ?_)
    refine wf_iload_n dc_Mod_sign_42 rfl ?_
    refine wf_iconst (-1) dc_Mod_sign_43 (by decide) ?_
    by_cases hj : j = -1
    · rw [if_pos hj]
      refine wf_icmp_lt 56 dc_Mod_sign_44 (by decide) (fun hc => absurd hc (by rw [hj]; decide)) (fun hc => ?_)
      refine wf_iload_n dc_Mod_sign_47 rfl ?_
      refine wf_iload_n dc_Mod_sign_48 rfl ?_
      refine wf_icmp_ge 56 dc_Mod_sign_49 (by decide) (fun hc => ?_) (fun hc => ?_)
      · rw [Int32.le_iff_toInt_le, nI_toInt (by omega), hj] at hc
        have : (-1 : Int32).toInt = -1 := rfl
        omega
      · exact Wf.to (by exact ⟨rfl, rfl, rfl, rfl, trivial⟩) (yes _ (Or.inl ⟨hj, rfl⟩))
    rw [if_neg hj]
    by_cases hb : bw j 0 ((w.length : Int) - 1) = true
    · rw [if_pos hb]
      obtain ⟨k, hk, hjk⟩ := bw_k (by omega) hb
      obtain ⟨b1, b2⟩ := (bw_row (by omega)).mpr hb
      refine wf_icmp_lt 56 dc_Mod_sign_44 (by decide) (fun hc => ?_) (fun hc => ?_)
      · rw [Int32.lt_iff_toInt_lt] at hc b1
        have e1 : (-1 : Int32).toInt = -1 := rfl
        have e0 : (0 : Int32).toInt = 0 := rfl
        omega
      refine wf_iload_n dc_Mod_sign_47 rfl ?_
      refine wf_iload_n dc_Mod_sign_48 rfl ?_
      refine wf_icmp_ge 56 dc_Mod_sign_49 (by decide) (fun hc => absurd b2 (Int32.not_lt.mpr hc)) (fun hc => ?_)
      exact Wf.to (by exact ⟨rfl, rfl, rfl, rfl, trivial⟩) (yes _ (Or.inr ⟨k, hk, hjk, by rw [hjk, nI_clamp (by omega)]⟩))
    · rw [if_neg hb]
      refine wf_icmp_lt 56 dc_Mod_sign_44 (by decide) (fun hc => ?_) (fun hc => ?_)
      · exact Wf.to (by exact ⟨rfl, rfl, rfl, rfl, trivial⟩) (no _ none rfl)
      refine wf_iload_n dc_Mod_sign_47 rfl ?_
      refine wf_iload_n dc_Mod_sign_48 rfl ?_
      refine wf_icmp_ge 56 dc_Mod_sign_49 (by decide) (fun hc => ?_) (fun hc2 => ?_)
      · exact Wf.to (by exact ⟨rfl, rfl, rfl, rfl, trivial⟩) (no _ none rfl)
      · exact absurd ((bw_row (by omega)).mp ⟨i32_m1 hc hj, Int32.not_le.mp hc2⟩) hb
  refine wf_iload_n dc_Mod_sign_0 rfl ?_
  by_cases hf0 : f = 0
  · refine wf_if_ne 13 dc_Mod_sign_1 (by decide) (fun hc => absurd hf0 hc) (fun hc => ?_)
    unfold an_sign
    rw [if_pos hf0]
    refine wf_aload_n dc_Mod_sign_4 rfl ?_
    refine wf_getr dc_Mod_sign_5 fl_Mod_13 rfl (by assumption) (by assumption) ?_
    refine wf_iconst 1 dc_Mod_sign_8 (by decide) ?_
    refine wf_iaload (y := 0) dc_Mod_sign_9 rfl (by assumption) (vp_in_nI (n := 1) (by omega) (by omega)) ?_
    rw [show i (m + 2) (Int32.toNatClampNeg 1) = nI W.length from hW.1]
    refine wf_goto 35 dc_Mod_sign_10 (by decide) ?_
    refine Wf.to (by exact ⟨rfl, rfl, rfl, trivial⟩) (tail W hl (fun k hk hjk => ?_))
    subst hjk
    refine wf_iload_n dc_Mod_sign_75 rfl ?_
    refine wf_if_ne 91 dc_Mod_sign_76 (by decide) (fun hc => absurd hf0 hc) (fun hc => ?_)
    refine wf_aload_n dc_Mod_sign_79 rfl ?_
    refine wf_getr dc_Mod_sign_80 fl_Mod_7 rfl (by assumption) (by assumption) ?_
    refine wf_bipush 120 dc_Mod_sign_83 (by decide) ?_
    refine wf_iload_n dc_Mod_sign_85 rfl ?_
    refine wf_iadd dc_Mod_sign_86 ?_
    rw [show (120 : Int32) + nI k = nI (120 + k) from nI_add 120 k]
    refine wf_iaload (y := 0) dc_Mod_sign_87 rfl (by assumption) (vp_in_nI (by omega) (by omega)) ?_
    rw [nI_clamp (show 120 + k < 2 ^ 31 by omega), up_b (by omega), show i (m + 1) (120 + k) = W.getD k 0 from hW.2 k hk]
    refine wf_goto 97 dc_Mod_sign_88 (by decide) ?_
    exact wf_ireturn rfl dc_Mod_sign_97 ⟨_, rfl, rfl, rfl, rfl, rfl, rfl, rfl⟩
  refine wf_if_ne 13 dc_Mod_sign_1 (by decide) (fun hc => ?_) (fun hc => absurd hc hf0)
  have non : bw f 1 F.length = false → Wf l E n0 mt_Mod_sign (d + 1) 0 0 (mq nx t r g m i (an_sign W F f j)) 0 0 34 [(0, .ref (m + 0)), (1, .int f), (2, .int j)] [] nx t r i g := fun h => by
    unfold an_sign
    rw [if_neg hf0, if_neg (by rw [h]; decide)]
    refine wf_iconst (-1) dc_Mod_sign_34 (by decide) ?_
    refine wf_istore_n dc_Mod_sign_35 (by decide) ?_
    refine wf_aload_n dc_Mod_sign_36 rfl ?_
    refine wf_iload_n dc_Mod_sign_37 rfl ?_
    refine wf_iconst (-1) dc_Mod_sign_38 (by decide) ?_
    refine wf_icmp_eq 56 dc_Mod_sign_39 (by decide) (fun hc => ?_) (fun hc => absurd rfl hc)
    exact Wf.to (by exact ⟨rfl, rfl, rfl, rfl, trivial⟩) (no _ none rfl)
  refine wf_iload_n dc_Mod_sign_13 rfl ?_
  refine wf_iconst 1 dc_Mod_sign_14 (by decide) ?_
  refine wf_icmp_lt 34 dc_Mod_sign_15 (by decide) (fun hc => ?_) (fun hc1 => ?_)
  · refine Wf.to (by exact ⟨rfl, rfl, rfl, trivial⟩) (non (bw_f ?_))
    rw [Int32.lt_iff_toInt_lt] at hc
    have e1 : (1 : Int32).toInt = 1 := rfl
    omega
  rw [Int32.lt_iff_toInt_lt, show (1 : Int32).toInt = 1 from rfl] at hc1
  refine wf_iload_n dc_Mod_sign_18 rfl ?_
  refine wf_aload_n dc_Mod_sign_19 rfl ?_
  refine wf_geti dc_Mod_sign_20 fl_Mod_178 rfl (by assumption) ?_
  rw [hF.1]
  refine wf_icmp_gt 34 dc_Mod_sign_23 (by decide) (fun hc => ?_) (fun hc2 => ?_)
  · refine Wf.to (by exact ⟨rfl, rfl, rfl, trivial⟩) (non (bw_f ?_))
    rw [Int32.lt_iff_toInt_lt, nI_toInt (by omega)] at hc
    omega
  rw [Int32.lt_iff_toInt_lt, nI_toInt (by omega)] at hc2
  have hb : bw f 1 F.length = true := bw_t.mpr (by omega)
  obtain ⟨k, k1, k2, rfl⟩ := bw_n (lo := 1) (hi := F.length) hb
  have hcl : (nI k).toNatClampNeg = k := nI_clamp (by omega)
  have hfd : fdn F k = F.getD (k - 1) [] := by unfold fdn; rw [if_pos k2]
  have hfl : (fdn F k).length ≤ 120 := by rw [hfd]; exact h120 _ (by omega)
  refine wf_aload_n dc_Mod_sign_26 rfl ?_
  refine wf_iload_n dc_Mod_sign_27 rfl ?_
  refine wf_iv1 (M' := mt_Mod_sizeOf) (c := 8) dc_Mod_sign_28 tg_Mod_sizeOf ml_Mod_184 im_Mod_sizeOf se_Mod_sizeOf ⟨_, rfl, rfl⟩ (by assumption) (Nat.le_of_ble_eq_true rfl) (Nat.le_refl _) (Nat.le_refl _) (c_Mod_sizeOf hA hF h30 k1 (by omega)) qI_nt (qI_go (fun x2 i2 hp => ?_))
  obtain ⟨rfl, hq⟩ := hp; subst i2
  unfold an_sign
  rw [if_neg hf0, if_pos hb, hcl, ← hfd]
  refine wf_goto 35 dc_Mod_sign_31 (by decide) ?_
  refine Wf.to (by exact ⟨rfl, rfl, rfl, trivial⟩) (tail (fdn F k) hfl (fun q hq hjk => ?_))
  subst hjk
  refine wf_iload_n dc_Mod_sign_75 rfl ?_
  refine wf_if_ne 91 dc_Mod_sign_76 (by decide) (fun hc => ?_) (fun hc => absurd hc hf0)
  refine wf_aload_n dc_Mod_sign_91 rfl ?_
  refine wf_iload_n dc_Mod_sign_92 rfl ?_
  refine wf_iload_n dc_Mod_sign_93 rfl ?_
  refine wf_iv2 (M' := mt_Mod_signOf) (c := 8) dc_Mod_sign_94 tg_Mod_signOf ml_Mod_187 im_Mod_signOf se_Mod_signOf ⟨_, rfl, rfl⟩ (by assumption) (Nat.le_of_ble_eq_true rfl) (Nat.le_refl _) (Nat.le_refl _) (c_Mod_signOf hA hF.z h30 k1 hq hfl) qI_nt (qI_go (fun x2 i2 hp => ?_))
  obtain ⟨rfl, hq⟩ := hp; subst hq
  exact wf_ireturn rfl dc_Mod_sign_97 ⟨_, rfl, rfl, rfl, rfl, rfl, rfl, rfl⟩
theorem c_Mod_key {K : KtS} {x j : Int32} (hA : mo_at t r m) (hK : mp_tab i m K) (h40 : K.length ≤ 40) (h120 : ∀ k, k < K.length → (kt_at K k).1.length ≤ 120) : Ct l E n0 mt_Mod_key (d + 1) 0 0 [.ref (m + 0), .int x, .int j] nx t r i g (mq nx t r g m i (an_key K x j)) := by
  have t0 := hA.1.1
  have r20 : r (m + 0) 20 = some (m + 15) := hA.2 (0, 20, 15) (by decide +kernel)
  have r21 : r (m + 0) 21 = some (m + 16) := hA.2 (0, 21, 16) (by decide +kernel)
  have r22 : r (m + 0) 22 = some (m + 17) := hA.2 (0, 22, 17) (by decide +kernel)
  have t15 := hA.1.2 15 (15, .inr (0, 4800)) (by decide +kernel)
  have t16 := hA.1.2 16 (16, .inr (0, 40)) (by decide +kernel)
  have t17 := hA.1.2 17 (17, .inr (0, 40)) (by decide +kernel)
  refine Ct.of (by decide) (Nat.le_of_ble_eq_true rfl) ?_
  have no : ∀ (z : Int32) (o : Option Int32), o = none → Wf l E n0 mt_Mod_key (d + 1) 0 0 (mq nx t r g m i o) 0 0 43 [(0, .ref (m + 0)), (1, .int x), (2, .int j), (3, .int z)] [.ref (m + 0)] nx t r i g := fun z o ho => by
    subst ho
    refine wf_iconst 0 dc_Mod_key_43 (by decide) ?_
    refine wf_iconst 1 dc_Mod_key_44 (by decide) ?_
    refine wf_iv2 (M' := mt_Mod_goes) (c := 8) dc_Mod_key_45 tg_Mod_goes ml_Mod_106 im_Mod_goes se_Mod_goes ⟨_, rfl, rfl⟩ (by assumption) (Nat.le_of_ble_eq_true rfl) (Nat.le_refl _) (Nat.le_refl _) (c_Mod_goes (a := false) (c := true) hA) qI_nt (qI_go (fun x2 i2 hp => ?_))
    obtain ⟨rfl, rfl⟩ := hp
    refine wf_if_ne 53 dc_Mod_key_48 (by decide) (fun hc => absurd rfl hc) (fun hc => ?_)
    refine wf_iconst 0 dc_Mod_key_51 (by decide) ?_
    exact wf_ireturn rfl dc_Mod_key_52 ⟨_, rfl, rfl, rfl, rfl, rfl, rfl⟩
  have no22 : ∀ (o : Option Int32), o = none → Wf l E n0 mt_Mod_key (d + 1) 0 0 (mq nx t r g m i o) 0 0 22 [(0, .ref (m + 0)), (1, .int x), (2, .int j)] [] nx t r i g := fun o ho => by
    refine wf_iconst 0 dc_Mod_key_22 (by decide) ?_
    refine wf_istore_n dc_Mod_key_23 (by decide) ?_
    refine wf_aload_n dc_Mod_key_24 rfl ?_
    refine wf_iload_n dc_Mod_key_25 rfl ?_
    refine wf_if_eq 43 dc_Mod_key_26 (by decide) (fun hc => ?_) (fun hc => absurd rfl hc)
    exact Wf.to (by exact ⟨rfl, rfl, rfl, rfl, trivial⟩) (no _ o ho)
  unfold an_key
  refine wf_iload_n dc_Mod_key_0 rfl ?_
  refine wf_if_lt 22 dc_Mod_key_1 (by decide) (fun h1 => ?_) (fun h1 => ?_)
  · refine Wf.to (by exact ⟨rfl, rfl, rfl, trivial⟩) (no22 _ (if_neg (fun z => ((bw_row (by omega)).mpr z).1 h1)))
  refine wf_iload_n dc_Mod_key_4 rfl ?_
  refine wf_aload_n dc_Mod_key_5 rfl ?_
  refine wf_geti dc_Mod_key_6 fl_Mod_200 rfl (by assumption) ?_
  rw [hK.1]
  refine wf_icmp_ge 22 dc_Mod_key_9 (by decide) (fun hc => ?_) (fun hc => ?_)
  · refine Wf.to (by exact ⟨rfl, rfl, rfl, trivial⟩) (no22 _ (if_neg (fun z => Int32.not_lt.mpr hc ((bw_row (by omega)).mpr z).2)))
  have hb : bw x 0 ((K.length : Int) - 1) = true := (bw_row (by omega)).mp ⟨h1, Int32.not_le.mp hc⟩
  rw [if_pos hb]
  obtain ⟨k, hk, rfl⟩ := bw_k (by omega) hb
  have hcl : (nI k).toNatClampNeg = k := nI_clamp (by omega)
  rw [hcl]
  obtain ⟨q1, q2, q3⟩ := hK.2 k hk
  have hl := h120 k hk
  generalize kt_at K k = y at q1 q2 q3 hl
  have e2 : (-2 : Int32).toInt = -2 := rfl
  have e1 : (-1 : Int32).toInt = -1 := rfl
  have e0 : (0 : Int32).toInt = 0 := rfl
  refine wf_iload_n dc_Mod_key_12 rfl ?_
  refine wf_bipush (-2) dc_Mod_key_13 (by decide) ?_
  refine wf_icmp_lt 22 dc_Mod_key_15 (by decide) (fun hc => ?_) (fun hc2 => ?_)
  · refine Wf.to (by exact ⟨rfl, rfl, rfl, trivial⟩) (no22 _ ?_)
    rw [Int32.lt_iff_toInt_lt] at hc
    rw [if_neg (fun z => by rw [z] at hc; omega), an_row, if_neg (fun z => by rw [z] at hc; omega), if_neg (fun z => by have := bw_t.mp z; omega)]
  have yes : ∀ o : Option Int32, ((j = -2 ∧ o = some y.2) ∨ (j = -1 ∧ o = some (nI y.1.length)) ∨ ∃ q, q < y.1.length ∧ j = nI q ∧ o = some (y.1.getD q 0)) → Wf l E n0 mt_Mod_key (d + 1) 0 0 (mq nx t r g m i o) 0 0 39 [(0, .ref (m + 0)), (1, .int (nI k)), (2, .int j)] [.ref (m + 0)] nx t r i g := fun o ho => by
    refine wf_iconst 1 dc_Mod_key_39 (by decide) ?_
    refine wf_goto 44 dc_Mod_key_40 (by decide) ?_
    refine wf_iconst 1 dc_Mod_key_44 (by decide) ?_
    refine wf_iv2 (M' := mt_Mod_goes) (c := 8) dc_Mod_key_45 tg_Mod_goes ml_Mod_106 im_Mod_goes se_Mod_goes ⟨_, rfl, rfl⟩ (by assumption) (Nat.le_of_ble_eq_true rfl) (Nat.le_refl _) (Nat.le_refl _) (c_Mod_goes (a := true) (c := true) hA) qI_nt (qI_go (fun x2 i2 hp => ?_))
    obtain ⟨rfl, rfl⟩ := hp
    refine wf_if_ne 53 dc_Mod_key_48 (by decide) (fun hc => ?_) (fun hc => absurd hc (by decide))
    refine wf_iload_n dc_Mod_key_53 rfl ?_
    refine wf_bipush (-2) dc_Mod_key_54 (by decide) ?_
    rcases ho with ⟨hj, rfl⟩ | ho
    · refine wf_icmp_ne 68 dc_Mod_key_56 (by decide) (fun hc => absurd hj hc) (fun hc => ?_)
      refine wf_aload_n dc_Mod_key_59 rfl ?_
      refine wf_getr dc_Mod_key_60 fl_Mod_62 rfl (by assumption) (by assumption) ?_
      refine wf_iload_n dc_Mod_key_63 rfl ?_
      refine wf_iaload (y := 0) dc_Mod_key_64 rfl (by assumption) (vp_in_nI (by omega) (by omega)) ?_
      rw [hcl, up_b (by omega), q2]
      refine wf_goto 93 dc_Mod_key_65 (by decide) ?_
      exact wf_ireturn rfl dc_Mod_key_93 ⟨_, rfl, rfl, rfl, rfl, rfl, rfl, rfl⟩
    have hj2 : ¬ j = -2 := fun z => by
      rcases ho with ⟨hj, -⟩ | ⟨q, hq, hj, -⟩
      · rw [hj] at z; exact absurd z (by decide)
      · have : (nI q).toInt = -2 := by rw [← hj, z]; rfl
        rw [nI_toInt (by omega)] at this
        omega
    refine wf_icmp_ne 68 dc_Mod_key_56 (by decide) (fun hc => ?_) (fun hc => absurd hc hj2)
    refine wf_iload_n dc_Mod_key_68 rfl ?_
    refine wf_iconst (-1) dc_Mod_key_69 (by decide) ?_
    rcases ho with ⟨hj, rfl⟩ | ⟨q, hq, rfl, rfl⟩
    · refine wf_icmp_ne 82 dc_Mod_key_70 (by decide) (fun hc => absurd hj hc) (fun hc => ?_)
      refine wf_aload_n dc_Mod_key_73 rfl ?_
      refine wf_getr dc_Mod_key_74 fl_Mod_59 rfl (by assumption) (by assumption) ?_
      refine wf_iload_n dc_Mod_key_77 rfl ?_
      refine wf_iaload (y := 0) dc_Mod_key_78 rfl (by assumption) (vp_in_nI (by omega) (by omega)) ?_
      rw [hcl, up_b (by omega), q1]
      refine wf_goto 93 dc_Mod_key_79 (by decide) ?_
      exact wf_ireturn rfl dc_Mod_key_93 ⟨_, rfl, rfl, rfl, rfl, rfl, rfl, rfl⟩
    · refine wf_icmp_ne 82 dc_Mod_key_70 (by decide) (fun hc => ?_) (fun hc => absurd hc.symm (mx_m1 (by omega)))
      refine wf_aload_n dc_Mod_key_82 rfl ?_
      refine wf_getr dc_Mod_key_83 fl_Mod_56 rfl (by assumption) (by assumption) ?_
      refine wf_bipush 120 dc_Mod_key_86 (by decide) ?_
      refine wf_iload_n dc_Mod_key_88 rfl ?_
      refine wf_imul dc_Mod_key_89 ?_
      rw [n120]
      refine wf_iload_n dc_Mod_key_90 rfl ?_
      refine wf_iadd dc_Mod_key_91 ?_
      rw [nI_add]
      refine wf_iaload (y := 0) dc_Mod_key_92 rfl (by assumption) (vp_in_nI (by omega) (by omega)) ?_
      rw [nI_clamp (show 120 * k + q < 2 ^ 31 by omega), up_b (by omega), q3 q hq]
      exact wf_ireturn rfl dc_Mod_key_93 ⟨_, rfl, rfl, rfl, rfl, rfl, rfl, rfl⟩
  rw [Int32.lt_iff_toInt_lt] at hc2
  refine wf_iconst 1 dc_Mod_key_18 (by decide) ?_
  refine wf_goto 23 dc_Mod_key_19 (by decide) ?_
  refine wf_istore_n dc_Mod_key_23 (by decide) ?_
  refine wf_aload_n dc_Mod_key_24 rfl ?_
  refine wf_iload_n dc_Mod_key_25 rfl ?_
  refine wf_if_eq 43 dc_Mod_key_26 (by decide) (fun hc => absurd hc (by decide)) (fun hc => ?_)
  refine wf_iload_n dc_Mod_key_29 rfl ?_
  refine wf_aload_n dc_Mod_key_30 rfl ?_
  refine wf_getr dc_Mod_key_31 fl_Mod_59 rfl (by assumption) (by assumption) ?_
  refine wf_iload_n dc_Mod_key_34 rfl ?_
  refine wf_iaload (y := 0) dc_Mod_key_35 rfl (by assumption) (vp_in_nI (by omega) (by omega)) ?_
  rw [hcl, q1]
  refine wf_icmp_ge 43 dc_Mod_key_36 (by decide) (fun hc => ?_) (fun hc => ?_)
  · refine Wf.to (by exact ⟨rfl, rfl, rfl, rfl, trivial⟩) (no _ _ ?_)
    rw [Int32.le_iff_toInt_le, nI_toInt (by omega)] at hc
    rw [if_neg (fun z => by rw [z] at hc; omega), an_row, if_neg (fun z => by rw [z] at hc; omega), if_neg (fun z => by have := bw_t.mp z; omega)]
  · rw [Int32.le_iff_toInt_le, nI_toInt (by omega)] at hc
    refine Wf.to (by exact ⟨rfl, rfl, rfl, trivial⟩) (yes _ ?_)
    by_cases hj2 : j = -2
    · exact Or.inl ⟨hj2, if_pos hj2⟩
    rw [if_neg hj2, an_row]
    by_cases hj1 : j = -1
    · exact Or.inr (Or.inl ⟨hj1, if_pos hj1⟩)
    rw [if_neg hj1]
    have n2 : j.toInt ≠ -2 := fun z => hj2 (Int32.toInt_inj.mp (z.trans e2.symm))
    have n1 : j.toInt ≠ -1 := fun z => hj1 (Int32.toInt_inj.mp (z.trans e1.symm))
    have hbj : bw j 0 ((y.1.length : Int) - 1) = true := bw_t.mpr (by omega)
    obtain ⟨q, hq, rfl⟩ := bw_k (by omega) hbj
    rw [if_pos hbj, nI_clamp (by omega)]
    exact Or.inr (Or.inr ⟨q, hq, rfl, rfl⟩)
end
