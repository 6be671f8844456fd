/-! the reference: copyRow, text, separator, isField, forget, sizeOf, signOf, numberOf, put, printRow -/
section
variable {l : Launch} {E : We} {n0 d nx : Nat} {t : Wt} {r : Wr} {i i' : Wi} {g : Wl} {m : Nat} {S : Ms}
theorem mr_no {a b : Nat} (h : a ≠ b) : ms_no (mr_S b) 2 a (a + 1) ∧ ms_no (mr_S b) 1 (120 * a) (120 * a + 120) := by
  constructor <;> intro q hq z <;> simp only [mr_S, List.mem_cons, List.not_mem_nil, or_false] at hq <;> rcases hq with rfl | rfl <;> simp only at z ⊢ <;> omega
theorem mr_in2 {b : Nat} : ms_in (mr_S b) 2 b (b + 1) := ⟨(2, b, b + 1), List.mem_cons_self, rfl, Nat.le_refl _, Nat.le_refl _⟩
theorem mr_in1 {b j : Nat} (hj : j < 120) : ms_in (mr_S b) 1 (120 * b + j) (120 * b + j + 1) := ⟨(1, 120 * b, 120 * b + 120), List.mem_cons_of_mem _ List.mem_cons_self, rfl, by simp only; omega, by simp only; omega⟩
theorem n120 (b : Nat) : (120 : Int32) * nI b = nI (120 * b) := nI_mul 120 b
theorem c_Mod_copyRow {a b : Nat} {w : List Int32} (hA : mo_at t r m) (ha : a < 9) (hb : b < 9) (hab : a ≠ b) (hw : mr i m a w) (hl : w.length ≤ 120) : Ct l E n0 mt_Mod_copyRow d 0 0 [.ref (m + 0), .int (nI a), .int (nI b)] nx t r i g (qV nx t r g (fun i' => mr i' m b w ∧ mf m (mr_S b) i i')) := by
  have t0 := hA.1.1
  have r1 : r (m + 0) 1 = some (m + 1) := hA.2 (0, 1, 1) (by decide +kernel)
  have r2 : r (m + 0) 2 = some (m + 2) := hA.2 (0, 2, 2) (by decide +kernel)
  have t1 := hA.1.2 1 (1, .inr (0, 1080)) (by decide +kernel)
  have t2 := hA.1.2 2 (2, .inr (0, 9)) (by decide +kernel)
  have ca : (nI a).toNatClampNeg = a := nI_clamp (by omega)
  have cb : (nI b).toNatClampNeg = b := nI_clamp (by omega)
  obtain ⟨no2, no1⟩ := mr_no hab
  refine Ct.of (by decide) (Nat.le_of_ble_eq_true rfl) ?_
  refine wf_aload_n dc_Mod_copyRow_0 rfl ?_
  refine wf_getr dc_Mod_copyRow_1 fl_Mod_13 rfl (by assumption) (by assumption) ?_
  refine wf_iload_n dc_Mod_copyRow_4 rfl ?_
  refine wf_aload_n dc_Mod_copyRow_5 rfl ?_
  refine wf_getr dc_Mod_copyRow_6 fl_Mod_13 rfl (by assumption) (by assumption) ?_
  refine wf_iload_n dc_Mod_copyRow_9 rfl ?_
  refine wf_iaload (y := 0) dc_Mod_copyRow_10 rfl (by assumption) (vp_in_nI (by omega) (by omega)) ?_
  rw [ca, hw.1]
  refine wf_iastore (y := 0) dc_Mod_copyRow_11 rfl (by decide) (by assumption) (vp_in_nI (by omega) (by omega)) ?_
  refine wf_iconst 0 dc_Mod_copyRow_12 (by decide) ?_
  refine wf_istore_n dc_Mod_copyRow_13 (by decide) ?_
  rw [cb]
  have loop : ∀ (c j : Nat) (i1 : Wi), j + c = w.length → i1 (m + 2) b = nI w.length → mz i1 (m + 1) (120 * b) (w.take j) → mf m (mr_S b) i i1 → Wf l E n0 mt_Mod_copyRow d 0 0 (qV nx t r g (fun i' => mr i' m b w ∧ mf m (mr_S b) i i')) 0 0 14 [(0, .ref (m + 0)), (1, .int (nI a)), (2, .int (nI b)), (3, .int (nI j))] [] nx t r i1 g := by
    intro c
    induction c with
    | zero =>
      intro j i1 hj h1 h2 h3
      have hw1 := hw.fr h3 hl no2 no1
      refine wf_iload_n dc_Mod_copyRow_14 rfl ?_
      refine wf_aload_n dc_Mod_copyRow_15 rfl ?_
      refine wf_getr dc_Mod_copyRow_16 fl_Mod_13 rfl (by assumption) (by assumption) ?_
      refine wf_iload_n dc_Mod_copyRow_19 rfl ?_
      refine wf_iaload (y := 0) dc_Mod_copyRow_20 rfl (by assumption) (vp_in_nI (by omega) (by omega)) ?_
      rw [ca, hw1.1]
      refine wf_icmp_ge 52 dc_Mod_copyRow_21 (by decide) (fun hc => ?_) (fun hc => absurd ((nI_leI (by omega) (by omega)).mpr (by omega)) hc)
      rw [List.take_of_length_le (by omega)] at h2
      exact wf_return rfl dc_Mod_copyRow_52 ⟨rfl, rfl, rfl, rfl, rfl, ⟨h1, h2⟩, h3⟩
    | succ c ih =>
      intro j i1 hj h1 h2 h3
      have hw1 := hw.fr h3 hl no2 no1
      refine wf_iload_n dc_Mod_copyRow_14 rfl ?_
      refine wf_aload_n dc_Mod_copyRow_15 rfl ?_
      refine wf_getr dc_Mod_copyRow_16 fl_Mod_13 rfl (by assumption) (by assumption) ?_
      refine wf_iload_n dc_Mod_copyRow_19 rfl ?_
      refine wf_iaload (y := 0) dc_Mod_copyRow_20 rfl (by assumption) (vp_in_nI (by omega) (by omega)) ?_
      rw [ca, hw1.1]
      refine wf_icmp_ge 52 dc_Mod_copyRow_21 (by decide) (fun hc => absurd ((nI_leI (by omega) (by omega)).mp hc) (by omega)) (fun hc => ?_)
      refine wf_aload_n dc_Mod_copyRow_24 rfl ?_
      refine wf_getr dc_Mod_copyRow_25 fl_Mod_7 rfl (by assumption) (by assumption) ?_
      refine wf_bipush 120 dc_Mod_copyRow_28 (by decide) ?_
      refine wf_iload_n dc_Mod_copyRow_30 rfl ?_
      refine wf_imul dc_Mod_copyRow_31 ?_
      rw [n120]
      refine wf_iload_n dc_Mod_copyRow_32 rfl ?_
      refine wf_iadd dc_Mod_copyRow_33 ?_
      rw [nI_add]
      refine wf_aload_n dc_Mod_copyRow_34 rfl ?_
      refine wf_getr dc_Mod_copyRow_35 fl_Mod_7 rfl (by assumption) (by assumption) ?_
      refine wf_bipush 120 dc_Mod_copyRow_38 (by decide) ?_
      refine wf_iload_n dc_Mod_copyRow_40 rfl ?_
      refine wf_imul dc_Mod_copyRow_41 ?_
      rw [n120]
      refine wf_iload_n dc_Mod_copyRow_42 rfl ?_
      refine wf_iadd dc_Mod_copyRow_43 ?_
      rw [nI_add]
      refine wf_iaload (y := 0) dc_Mod_copyRow_44 rfl (by assumption) (vp_in_nI (by omega) (by omega)) ?_
      refine wf_iastore (y := 0) dc_Mod_copyRow_45 rfl (by decide) (by assumption) (vp_in_nI (by omega) (by omega)) ?_
      refine wf_iinc _ dc_Mod_copyRow_46 rfl (nI_1 j) (by decide) ?_
      refine wf_goto 14 dc_Mod_copyRow_49 (by decide) ?_
      rw [nI_clamp (show 120 * a + j < 2 ^ 31 by omega), nI_clamp (show 120 * b + j < 2 ^ 31 by omega), hw1.2 j (by omega)]
      refine Wf.to (by exact ⟨rfl, rfl, rfl, rfl, trivial⟩) (ih (j + 1) _ (by omega) ((wf_up_a (by omega)).trans h1) ?_ (mf_up h3 (mr_in1 (by omega))))
      rw [tk_s (by omega)]
      have h4 : mz (wf_up i1 (m + 1) (120 * b + j) (w.getD j 0)) (m + 1) (120 * b) (w.take j) := fun q hq => by
        rw [List.length_take] at hq
        rw [wf_up_k (by omega)]
        exact h2 q (by rw [List.length_take]; exact hq)
      refine h4.snoc ?_
      rw [List.length_take, Nat.min_eq_left (by omega)]
      exact wf_up_s
  refine Wf.to (by exact ⟨rfl, rfl, rfl, rfl, trivial⟩) (loop w.length 0 _ (Nat.zero_add _) wf_up_s mz_nil (mf_up mf_rf mr_in2))
theorem c_Mod_text {x : Int32} {w : List Int32} (hA : mo_at t r m) (hw : mr i m 0 w) (hl : w.length ≤ 120) : Ct l E n0 mt_Mod_text (d + 1) 0 0 [.ref (m + 0), .int x] nx t r i g (qI nx t r g (fun z i' => if bw x 0 5 = true then z = nI w.length ∧ i' (m + 0) 0 = 0 ∧ mr i' m 0 [] ∧ mr i' m (2 + x.toNatClampNeg) w ∧ mf m ([(0, 0, 1)] ++ mr_S (2 + x.toNatClampNeg) ++ [(2, 0, 1)]) i i' else i' = wf_up i (m + 0) 0 1)) := by
  have t0 := hA.1.1
  have r2 : r (m + 0) 2 = some (m + 2) := hA.2 (0, 2, 2) (by decide +kernel)
  have t2 := hA.1.2 2 (2, .inr (0, 9)) (by decide +kernel)
  refine Ct.of (by decide) (Nat.le_of_ble_eq_true rfl) ?_
  refine wf_aload_n dc_Mod_text_0 rfl ?_
  refine wf_iload_n dc_Mod_text_1 rfl ?_
  refine wf_iconst 0 dc_Mod_text_2 (by decide) ?_
  refine wf_iconst 5 dc_Mod_text_3 (by decide) ?_
  refine wf_is3 (M' := mt_Mod_within) dc_Mod_text_4 tg_Mod_within ml_Mod_142 sm_Mod_within (Nat.le_of_ble_eq_true rfl) (Nat.le_refl _) (Nat.le_refl _) (c_Mod_within) qI_nt (qI_go (fun x2 i2 hp => ?_))
  obtain ⟨rfl, hq⟩ := hp; subst i2
  refine wf_iconst 1 dc_Mod_text_7 (by decide) ?_
  refine wf_iv2 (M' := mt_Mod_goes) (c := 8) dc_Mod_text_8 tg_Mod_goes ml_Mod_106 im_Mod_goes se_Mod_goes ⟨_, rfl, rfl⟩ (by assumption) (Nat.le_of_ble_eq_true rfl) (Nat.le_refl _) (Nat.le_refl _) (c_Mod_goes (a := bw x 0 5) (c := true) hA) qI_nt (qI_go (fun x2 i2 hp => ?_))
  obtain ⟨rfl, rfl⟩ := hp
  have f0 : ∀ v, mf m [(0, 0, 1)] i (wf_up i (m + 0) 0 v) := fun v => mf_up mf_rf ⟨(0, 0, 1), by simp, rfl, by decide, by decide⟩
  cases hb : bw x 0 5 with
  | false =>
    refine wf_if_ne 16 dc_Mod_text_11 (by decide) (fun hc => absurd rfl hc) (fun hc => ?_)
    refine wf_iconst 0 dc_Mod_text_14 (by decide) ?_
    refine wf_ireturn rfl dc_Mod_text_15 ⟨_, rfl, rfl, rfl, rfl, rfl, ?_⟩
    dsimp only
    rw [if_neg (by decide)]
    rfl
  | true =>
    refine wf_if_ne 16 dc_Mod_text_11 (by decide) (fun hc => ?_) (fun hc => absurd hc (by decide))
    obtain ⟨k, -, hk, rfl⟩ := bw_n (lo := 0) (hi := 5) hb
    have hcl : (nI k).toNatClampNeg = k := nI_clamp (by omega)
    have hw0 := hw.fr (f0 (th_of true true)) hl (by simp [ms_no]) (by simp [ms_no])
    refine wf_aload_n dc_Mod_text_16 rfl ?_
    refine wf_iconst 0 dc_Mod_text_17 (by decide) ?_
    refine wf_iconst 2 dc_Mod_text_18 (by decide) ?_
    refine wf_iload_n dc_Mod_text_19 rfl ?_
    refine wf_iadd dc_Mod_text_20 ?_
    rw [show (2 : Int32) + nI k = nI (2 + k) from nI_add 2 k]
    refine wf_iv2 (M' := mt_Mod_copyRow) (c := 8) dc_Mod_text_21 tg_Mod_copyRow ml_Mod_166 im_Mod_copyRow se_Mod_copyRow ⟨_, rfl, rfl⟩ (by assumption) (Nat.le_of_ble_eq_true rfl) (Nat.le_refl _) (Nat.le_refl _) (c_Mod_copyRow (a := 0) (b := 2 + k) hA (by omega) (by omega) (by omega) hw0 hl) qV_nt (qV_go (fun i2 hp => ?_))
    obtain ⟨m1, f1⟩ := hp
    refine wf_aload_n dc_Mod_text_24 rfl ?_
    refine wf_getr dc_Mod_text_25 fl_Mod_13 rfl (by assumption) (by assumption) ?_
    refine wf_iconst 0 dc_Mod_text_28 (by decide) ?_
    refine wf_iconst 0 dc_Mod_text_29 (by decide) ?_
    refine wf_iastore (y := 0) dc_Mod_text_30 rfl (by decide) (by assumption) (vp_in_nI (n := 0) (by omega) (by omega)) ?_
    refine wf_aload_n dc_Mod_text_31 rfl ?_
    refine wf_getr dc_Mod_text_32 fl_Mod_13 rfl (by assumption) (by assumption) ?_
    refine wf_iconst 2 dc_Mod_text_35 (by decide) ?_
    refine wf_iload_n dc_Mod_text_36 rfl ?_
    refine wf_iadd dc_Mod_text_37 ?_
    rw [show (2 : Int32) + nI k = nI (2 + k) from nI_add 2 k]
    refine wf_iaload (y := 0) dc_Mod_text_38 rfl (by assumption) (vp_in_nI (by omega) (by omega)) ?_
    rw [nI_clamp (show 2 + k < 2 ^ 31 by omega)]
    have f2 : mf m [(2, 0, 1)] i2 (wf_up i2 (m + 2) (Int32.toNatClampNeg 0) 0) := mf_up mf_rf ⟨(2, 0, 1), by simp, rfl, by decide, by decide⟩
    have m2 := m1.fr f2 hl (by simp [ms_no]; omega) (by simp [ms_no])
    rw [m2.1]
    refine wf_ireturn rfl dc_Mod_text_39 ⟨_, rfl, rfl, rfl, rfl, rfl, ?_⟩
    dsimp only
    rw [if_pos rfl, hcl]
    exact ⟨rfl, (f2.at (by simp [ms_no])).trans ((f1.at (by simp [ms_no, mr_S])).trans wf_up_s), ⟨wf_up_s, mz_nil⟩, m2, mf_tr (mf_tr (f0 _) f1) f2⟩
theorem c_Mod_separator {x sp : Int32} (hA : mo_at t r m) (hs : i (m + 0) 5 = sp) : Ct l E n0 mt_Mod_separator (d + 1) 0 0 [.ref (m + 0), .int x] nx t r i g (qI nx t r g (fun z i' => if bw x 1 255 = true then z = sp ∧ i' = wf_up (wf_up i (m + 0) 0 0) (m + 0) 5 x else i' = wf_up i (m + 0) 0 1)) := by
  have t0 := hA.1.1
  refine Ct.of (by decide) (Nat.le_of_ble_eq_true rfl) ?_
  refine wf_aload_n dc_Mod_separator_0 rfl ?_
  refine wf_iload_n dc_Mod_separator_1 rfl ?_
  refine wf_iconst 1 dc_Mod_separator_2 (by decide) ?_
  refine wf_sipush 255 dc_Mod_separator_3 (by decide) ?_
  refine wf_is3 (M' := mt_Mod_within) dc_Mod_separator_6 tg_Mod_within ml_Mod_142 sm_Mod_within (Nat.le_of_ble_eq_true rfl) (Nat.le_refl _) (Nat.le_refl _) (c_Mod_within) qI_nt (qI_go (fun x2 i2 hp => ?_))
  obtain ⟨rfl, hq⟩ := hp; subst i2
  refine wf_iconst 1 dc_Mod_separator_9 (by decide) ?_
  refine wf_iv2 (M' := mt_Mod_goes) (c := 8) dc_Mod_separator_10 tg_Mod_goes ml_Mod_106 im_Mod_goes se_Mod_goes ⟨_, rfl, rfl⟩ (by assumption) (Nat.le_of_ble_eq_true rfl) (Nat.le_refl _) (Nat.le_refl _) (c_Mod_goes (a := bw x 1 255) (c := true) hA) qI_nt (qI_go (fun x2 i2 hp => ?_))
  obtain ⟨rfl, rfl⟩ := hp
  cases hb : bw x 1 255 with
  | false =>
    refine wf_if_ne 18 dc_Mod_separator_13 (by decide) (fun hc => absurd rfl hc) (fun hc => ?_)
    refine wf_iconst 0 dc_Mod_separator_16 (by decide) ?_
    refine wf_ireturn rfl dc_Mod_separator_17 ⟨_, rfl, rfl, rfl, rfl, rfl, ?_⟩
    dsimp only
    rw [if_neg (by decide)]
    rfl
  | true =>
    refine wf_if_ne 18 dc_Mod_separator_13 (by decide) (fun hc => ?_) (fun hc => absurd hc (by decide))
    refine wf_aload_n dc_Mod_separator_18 rfl ?_
    refine wf_geti dc_Mod_separator_19 fl_Mod_22 rfl (by assumption) ?_
    rw [wf_up_k (by decide), hs]
    refine wf_istore_n dc_Mod_separator_22 (by decide) ?_
    refine wf_aload_n dc_Mod_separator_23 rfl ?_
    refine wf_iload_n dc_Mod_separator_24 rfl ?_
    refine wf_puti dc_Mod_separator_25 fl_Mod_22 (Or.inl nf_Mod_5) rfl rfl rfl (by assumption) ?_
    refine wf_iload_n dc_Mod_separator_28 rfl ?_
    refine wf_ireturn rfl dc_Mod_separator_29 ⟨_, rfl, rfl, rfl, rfl, rfl, ?_⟩
    dsimp only
    rw [if_pos rfl]
    exact ⟨rfl, rfl⟩
theorem c_Mod_isField {x : Int32} : Ct l E n0 mt_Mod_isField (d + 1) 0 0 [.int x] nx t r i g (qI nx t r g (fun z i' => z = wt_b (bw x 1 30) ∧ i' = i)) := by
  refine Ct.of (by decide) (Nat.le_of_ble_eq_true rfl) ?_
  refine wf_iload_n dc_Mod_isField_0 rfl ?_
  refine wf_iconst 1 dc_Mod_isField_1 (by decide) ?_
  refine wf_bipush 30 dc_Mod_isField_2 (by decide) ?_
  refine wf_is3 (M' := mt_Mod_within) dc_Mod_isField_4 tg_Mod_within ml_Mod_142 sm_Mod_within (Nat.le_of_ble_eq_true rfl) (Nat.le_refl _) (Nat.le_refl _) (c_Mod_within) qI_nt (qI_go (fun x2 i2 hp => ?_))
  obtain ⟨rfl, hq⟩ := hp; subst i2
  exact wf_zreturn rfl (wt_bn2 _) dc_Mod_isField_7 ⟨_, rfl, rfl, rfl, rfl, rfl, rfl, rfl⟩
theorem c_Mod_forget (hA : mo_at t r m) : Ct l E n0 mt_Mod_forget d 0 0 [.ref (m + 0)] nx t r i g (qI nx t r g (fun z i' => z = i (m + 0) 6 ∧ i' = wf_up (wf_up i (m + 0) 0 0) (m + 0) 6 0)) := by
  have t0 := hA.1.1
  refine Ct.of (by decide) (Nat.le_of_ble_eq_true rfl) ?_
  refine wf_aload_n dc_Mod_forget_0 rfl ?_
  refine wf_iconst 0 dc_Mod_forget_1 (by decide) ?_
  refine wf_puti dc_Mod_forget_2 fl_Mod_99 (Or.inl nf_Mod_0) rfl rfl rfl (by assumption) ?_
  refine wf_aload_n dc_Mod_forget_5 rfl ?_
  refine wf_geti dc_Mod_forget_6 fl_Mod_172 rfl (by assumption) ?_
  rw [wf_up_k (by decide)]
  refine wf_istore_n dc_Mod_forget_9 (by decide) ?_
  refine wf_aload_n dc_Mod_forget_10 rfl ?_
  refine wf_iconst 0 dc_Mod_forget_11 (by decide) ?_
  refine wf_puti dc_Mod_forget_12 fl_Mod_172 (Or.inl nf_Mod_6) rfl rfl rfl (by assumption) ?_
  refine wf_iload_n dc_Mod_forget_15 rfl ?_
  exact wf_ireturn rfl dc_Mod_forget_16 ⟨_, rfl, rfl, rfl, rfl, rfl, rfl, rfl⟩
/-- field f, as far as it is there -/
def fdn (F : List (List Int32)) (f : Nat) : List Int32 := if f ≤ F.length then F.getD (f - 1) [] else []
theorem fld_n {F : List (List Int32)} {f : Nat} (h1 : 1 ≤ f) (h2 : f < 2 ^ 31) : fld F (nI f) = fdn F f := by
  unfold fld fdn
  rw [nI_clamp h2]
  by_cases h : f ≤ F.length
  · rw [if_pos ⟨h1, h⟩, if_pos h]
  · rw [if_neg (fun z => h z.2), if_neg h]
theorem c_Mod_sizeOf {f : Nat} {F : List (List Int32)} (hA : mo_at t r m) (hF : mp_fld i m F) (h30 : F.length ≤ 30) (h1 : 1 ≤ f) (h2 : f ≤ 30) : Ct l E n0 mt_Mod_sizeOf d 0 0 [.ref (m + 0), .int (nI f)] nx t r i g (qI nx t r g (fun z i' => z = nI (fdn F f).length ∧ i' = i)) := by
  have t0 := hA.1.1
  have r17 : r (m + 0) 17 = some (m + 13) := hA.2 (0, 17, 13) (by decide +kernel)
  have t13 := hA.1.2 13 (13, .inr (0, 30)) (by decide +kernel)
  refine Ct.of (by decide) (Nat.le_of_ble_eq_true rfl) ?_
  refine wf_iload_n dc_Mod_sizeOf_0 rfl ?_
  refine wf_aload_n dc_Mod_sizeOf_1 rfl ?_
  refine wf_geti dc_Mod_sizeOf_2 fl_Mod_178 rfl (by assumption) ?_
  rw [hF.1]
  unfold fdn
  by_cases h : f ≤ F.length
  · rw [if_pos h]
    refine wf_icmp_gt 19 dc_Mod_sizeOf_5 (by decide) (fun hc => absurd ((nI_ltI (by omega) (by omega)).mp hc) (by omega)) (fun hc => ?_)
    refine wf_aload_n dc_Mod_sizeOf_8 rfl ?_
    refine wf_getr dc_Mod_sizeOf_9 fl_Mod_50 rfl (by assumption) (by assumption) ?_
    refine wf_iload_n dc_Mod_sizeOf_12 rfl ?_
    refine wf_iconst 1 dc_Mod_sizeOf_13 (by decide) ?_
    refine wf_isub dc_Mod_sizeOf_14 ?_
    have e1 : nI f - 1 = nI (f - 1) := by rw [show f = f - 1 + 1 by omega, nI_pred]; rfl
    rw [e1]
    refine wf_iaload (y := 0) dc_Mod_sizeOf_15 rfl (by assumption) (vp_in_nI (by omega) (by omega)) ?_
    refine wf_goto 20 dc_Mod_sizeOf_16 (by decide) ?_
    rw [nI_clamp (by omega), (hF.2 (f - 1) (by omega)).1]
    exact wf_ireturn rfl dc_Mod_sizeOf_20 ⟨_, rfl, rfl, rfl, rfl, rfl, rfl, rfl⟩
  · rw [if_neg h]
    refine wf_icmp_gt 19 dc_Mod_sizeOf_5 (by decide) (fun hc => ?_) (fun hc => absurd ((nI_ltI (by omega) (by omega)).mpr (by omega)) hc)
    refine wf_iconst 0 dc_Mod_sizeOf_19 (by decide) ?_
    exact wf_ireturn rfl dc_Mod_sizeOf_20 ⟨_, rfl, rfl, rfl, rfl, rfl, rfl, rfl⟩
theorem c_Mod_signOf {f j : Nat} {F : List (List Int32)} (hA : mo_at t r m) (hF : mp_fld i m F) (h30 : F.length ≤ 30) (h1 : 1 ≤ f) (hj : j < (fdn F f).length) (hl : (fdn F f).length ≤ 120) : Ct l E n0 mt_Mod_signOf d 0 0 [.ref (m + 0), .int (nI f), .int (nI j)] nx t r i g (qI nx t r g (fun z i' => z = (fdn F f).getD j 0 ∧ i' = i)) := by
  have t0 := hA.1.1
  have r16 : r (m + 0) 16 = some (m + 12) := hA.2 (0, 16, 12) (by decide +kernel)
  have t12 := hA.1.2 12 (12, .inr (0, 3600)) (by decide +kernel)
  unfold fdn at hj hl ⊢
  by_cases h : f ≤ F.length
  · rw [if_pos h] at hj hl ⊢
    refine Ct.of (by decide) (Nat.le_of_ble_eq_true rfl) ?_
    refine wf_aload_n dc_Mod_signOf_0 rfl ?_
    refine wf_getr dc_Mod_signOf_1 fl_Mod_47 rfl (by assumption) (by assumption) ?_
    refine wf_bipush 120 dc_Mod_signOf_4 (by decide) ?_
    refine wf_iload_n dc_Mod_signOf_6 rfl ?_
    refine wf_imul dc_Mod_signOf_7 ?_
    rw [n120]
    refine wf_bipush 120 dc_Mod_signOf_8 (by decide) ?_
    refine wf_isub dc_Mod_signOf_10 ?_
    have e1 : nI (120 * f) - 120 = nI (120 * (f - 1)) := by
      rw [show 120 * f = 120 * (f - 1) + 120 by omega, ← nI_add, show (120 : Int32) = nI 120 from rfl, Int32.add_sub_cancel]
    rw [e1]
    refine wf_iload_n dc_Mod_signOf_11 rfl ?_
    refine wf_iadd dc_Mod_signOf_12 ?_
    rw [nI_add]
    refine wf_iaload (y := 0) dc_Mod_signOf_13 rfl (by assumption) (vp_in_nI (by omega) (by omega)) ?_
    rw [nI_clamp (by omega)]
    exact wf_ireturn rfl dc_Mod_signOf_14 ⟨_, rfl, rfl, rfl, rfl, rfl, (hF.2 (f - 1) (by omega)).2 j hj, rfl⟩
  · rw [if_neg h] at hj
    exact absurd hj (Nat.not_lt_zero _)
theorem nu_digit (v x : Int32) : 10 * v + x - 48 = v * 10 + (x - 48) := by
  rw [Int32.sub_eq_add_neg, Int32.sub_eq_add_neg, Int32.add_assoc, Int32.mul_comm]
theorem c_Mod_numberOf {f : Nat} {F : List (List Int32)} (hA : mo_at t r m) (hF : mp_fld i m F) (h30 : F.length ≤ 30) (h1 : 1 ≤ f) (h2 : f ≤ 30) (hl : (fdn F f).length ≤ 120) : Ct l E n0 mt_Mod_numberOf (d + 1) 0 0 [.ref (m + 0), .int (nI f)] nx t r i g (qI nx t r g (fun z i' => z = nu_of (fdn F f) ∧ i' = i)) := by
  have t0 := hA.1.1
  have hsz := c_Mod_sizeOf (l := l) (E := E) (n0 := n0) (d := d) (nx := nx) (g := g) hA hF h30 h1 h2
  generalize hw : fdn F f = w at hsz hl ⊢
  have hsg : ∀ j, j < w.length → Ct l E n0 mt_Mod_signOf d 0 0 [.ref (m + 0), .int (nI f), .int (nI j)] nx t r i g (qI nx t r g (fun z i' => z = w.getD j 0 ∧ i' = i)) := fun j hj => by
    rw [← hw] at hj hl ⊢
    exact c_Mod_signOf hA hF h30 h1 hj hl
  refine Ct.of (by decide) (Nat.le_of_ble_eq_true rfl) ?_
  have loop : ∀ (c j : Nat) (v : Int32) (s : Bool), j + c = w.length → nu_of w = (if s = true then -(nu_go (w.drop j) v) else nu_go (w.drop j) v) → Wf l E n0 mt_Mod_numberOf (d + 1) 0 0 (qI nx t r g (fun z i' => z = nu_of w ∧ i' = i)) 0 0 38 [(0, .ref (m + 0)), (1, .int (nI f)), (2, .int (wt_b s)), (3, .int v), (4, .int (nI j))] [] nx t r i g := by
    have fin : ∀ (j : Nat) (v : Int32) (s : Bool), nu_of w = (if s = true then -v else v) → Wf l E n0 mt_Mod_numberOf (d + 1) 0 0 (qI nx t r g (fun z i' => z = nu_of w ∧ i' = i)) 0 0 94 [(0, .ref (m + 0)), (1, .int (nI f)), (2, .int (wt_b s)), (3, .int v), (4, .int (nI j))] [] nx t r i g := by
      intro j v s hv
      refine wf_iload_n dc_Mod_numberOf_94 rfl ?_
      cases s with
      | true =>
        refine wf_if_eq 104 dc_Mod_numberOf_95 (by decide) (fun hc => absurd hc (by decide)) (fun hc => ?_)
        refine wf_iconst 0 dc_Mod_numberOf_98 (by decide) ?_
        refine wf_iload_n dc_Mod_numberOf_99 rfl ?_
        refine wf_isub dc_Mod_numberOf_100 ?_
        refine wf_goto 105 dc_Mod_numberOf_101 (by decide) ?_
        exact wf_ireturn rfl dc_Mod_numberOf_105 ⟨_, rfl, rfl, rfl, rfl, rfl, by rw [hv, if_pos rfl, Int32.zero_sub], rfl⟩
      | false =>
        refine wf_if_eq 104 dc_Mod_numberOf_95 (by decide) (fun hc => ?_) (fun hc => absurd rfl hc)
        refine wf_iload_n dc_Mod_numberOf_104 rfl ?_
        exact wf_ireturn rfl dc_Mod_numberOf_105 ⟨_, rfl, rfl, rfl, rfl, rfl, by rw [hv, if_neg (by decide)], rfl⟩
    intro c
    induction c with
    | zero =>
      intro j v s hj hv
      refine wf_iload dc_Mod_numberOf_38 rfl ?_
      refine wf_aload_n dc_Mod_numberOf_40 rfl ?_
      refine wf_iload_n dc_Mod_numberOf_41 rfl ?_
      refine wf_iv1 (M' := mt_Mod_sizeOf) (c := 8) dc_Mod_numberOf_42 tg_Mod_sizeOf ml_Mod_184 im_Mod_sizeOf se_Mod_sizeOf ⟨_, rfl, rfl⟩ (by assumption) (Nat.le_of_ble_eq_true rfl) (Nat.le_refl _) (Nat.le_refl _) (hsz) qI_nt (qI_go (fun x2 i2 hp => ?_))
      obtain ⟨rfl, hq⟩ := hp; subst i2
      refine wf_icmp_ge 94 dc_Mod_numberOf_45 (by decide) (fun hc => ?_) (fun hc => absurd ((nI_leI (by omega) (by omega)).mpr (by omega)) hc)
      rw [List.drop_of_length_le (by omega)] at hv
      exact Wf.to (by exact ⟨rfl, rfl, rfl, rfl, rfl, trivial⟩) (fin j v s hv)
    | succ c ih =>
      intro j v s hj hv
      refine wf_iload dc_Mod_numberOf_38 rfl ?_
      refine wf_aload_n dc_Mod_numberOf_40 rfl ?_
      refine wf_iload_n dc_Mod_numberOf_41 rfl ?_
      refine wf_iv1 (M' := mt_Mod_sizeOf) (c := 8) dc_Mod_numberOf_42 tg_Mod_sizeOf ml_Mod_184 im_Mod_sizeOf se_Mod_sizeOf ⟨_, rfl, rfl⟩ (by assumption) (Nat.le_of_ble_eq_true rfl) (Nat.le_refl _) (Nat.le_refl _) (hsz) qI_nt (qI_go (fun x2 i2 hp => ?_))
      obtain ⟨rfl, hq⟩ := hp; subst i2
      refine wf_icmp_ge 94 dc_Mod_numberOf_45 (by decide) (fun hc => absurd ((nI_leI (by omega) (by omega)).mp hc) (by omega)) (fun hc => ?_)
      have hd : w.drop j = w.getD j 0 :: w.drop (j + 1) := by
        rw [List.drop_eq_getElem_cons (by omega), List.getD_eq_getElem?_getD, List.getElem?_eq_getElem (by omega)]
        rfl
      have hg : nu_go (w.drop j) v = if 48 ≤ w.getD j 0 ∧ w.getD j 0 ≤ 57 then nu_go (w.drop (j + 1)) (v * 10 + (w.getD j 0 - 48)) else v := by rw [hd]; rfl
      refine wf_aload_n dc_Mod_numberOf_48 rfl ?_
      refine wf_iload_n dc_Mod_numberOf_49 rfl ?_
      refine wf_iload dc_Mod_numberOf_50 rfl ?_
      refine wf_iv2 (M' := mt_Mod_signOf) (c := 8) dc_Mod_numberOf_52 tg_Mod_signOf ml_Mod_187 im_Mod_signOf se_Mod_signOf ⟨_, rfl, rfl⟩ (by assumption) (Nat.le_of_ble_eq_true rfl) (Nat.le_refl _) (Nat.le_refl _) (hsg j (by omega)) qI_nt (qI_go (fun x2 i2 hp => ?_))
      refine wf_bipush 48 dc_Mod_numberOf_55 (by decide) ?_
      obtain ⟨rfl, hq⟩ := hp; subst i2
      refine wf_icmp_lt 94 dc_Mod_numberOf_57 (by decide) (fun c1 => ?_) (fun c1 => ?_)
      · rw [hg.trans (if_neg (fun z => absurd z.1 (by rw [Int32.not_le]; exact c1)))] at hv
        exact Wf.to (by exact ⟨rfl, rfl, rfl, rfl, rfl, trivial⟩) (fin j v s hv)
      refine wf_aload_n dc_Mod_numberOf_60 rfl ?_
      refine wf_iload_n dc_Mod_numberOf_61 rfl ?_
      refine wf_iload dc_Mod_numberOf_62 rfl ?_
      refine wf_iv2 (M' := mt_Mod_signOf) (c := 8) dc_Mod_numberOf_64 tg_Mod_signOf ml_Mod_187 im_Mod_signOf se_Mod_signOf ⟨_, rfl, rfl⟩ (by assumption) (Nat.le_of_ble_eq_true rfl) (Nat.le_refl _) (Nat.le_refl _) (hsg j (by omega)) qI_nt (qI_go (fun x2 i2 hp => ?_))
      refine wf_bipush 57 dc_Mod_numberOf_67 (by decide) ?_
      obtain ⟨rfl, hq⟩ := hp; subst i2
      refine wf_icmp_gt 94 dc_Mod_numberOf_69 (by decide) (fun c2 => ?_) (fun c2 => ?_)
      · rw [hg.trans (if_neg (fun z => absurd z.2 (by rw [Int32.not_le]; exact c2)))] at hv
        exact Wf.to (by exact ⟨rfl, rfl, rfl, rfl, rfl, trivial⟩) (fin j v s hv)
      rw [hg.trans (if_pos ⟨Int32.not_lt.mp c1, Int32.not_lt.mp c2⟩)] at hv
      refine wf_bipush 10 dc_Mod_numberOf_72 (by decide) ?_
      refine wf_iload_n dc_Mod_numberOf_74 rfl ?_
      refine wf_imul dc_Mod_numberOf_75 ?_
      refine wf_aload_n dc_Mod_numberOf_76 rfl ?_
      refine wf_iload_n dc_Mod_numberOf_77 rfl ?_
      refine wf_iload dc_Mod_numberOf_78 rfl ?_
      refine wf_iv2 (M' := mt_Mod_signOf) (c := 8) dc_Mod_numberOf_80 tg_Mod_signOf ml_Mod_187 im_Mod_signOf se_Mod_signOf ⟨_, rfl, rfl⟩ (by assumption) (Nat.le_of_ble_eq_true rfl) (Nat.le_refl _) (Nat.le_refl _) (hsg j (by omega)) qI_nt (qI_go (fun x2 i2 hp => ?_))
      obtain ⟨rfl, hq⟩ := hp; subst i2
      refine wf_iadd dc_Mod_numberOf_83 ?_
      refine wf_bipush 48 dc_Mod_numberOf_84 (by decide) ?_
      refine wf_isub dc_Mod_numberOf_86 ?_
      rw [nu_digit]
      refine wf_istore_n dc_Mod_numberOf_87 (by decide) ?_
      refine wf_iinc _ dc_Mod_numberOf_88 rfl (nI_1 j) (by decide) ?_
      refine wf_goto 38 dc_Mod_numberOf_91 (by decide) ?_
      exact Wf.to (by exact ⟨rfl, rfl, rfl, rfl, rfl, trivial⟩) (ih (j + 1) _ s (by omega) hv)
  have go : ∀ s : Bool, (s = true ↔ w.getD 0 0 = 45) → (s = true → 0 < w.length) → Wf l E n0 mt_Mod_numberOf (d + 1) 0 0 (qI nx t r g (fun z i' => z = nu_of w ∧ i' = i)) 0 0 24 [(0, .ref (m + 0)), (1, .int (nI f))] [.int (wt_b s)] nx t r i g := by
    intro s hs h0
    refine wf_istore_n dc_Mod_numberOf_24 (by decide) ?_
    refine wf_iconst 0 dc_Mod_numberOf_25 (by decide) ?_
    refine wf_istore_n dc_Mod_numberOf_26 (by decide) ?_
    refine wf_iload_n dc_Mod_numberOf_27 rfl ?_
    cases s with
    | true =>
      refine wf_if_eq 35 dc_Mod_numberOf_28 (by decide) (fun hc => absurd hc (by decide)) (fun hc => ?_)
      refine wf_iconst 1 dc_Mod_numberOf_31 (by decide) ?_
      refine wf_goto 36 dc_Mod_numberOf_32 (by decide) ?_
      refine wf_istore dc_Mod_numberOf_36 (by decide) ?_
      refine Wf.to (by exact ⟨rfl, rfl, rfl, rfl, rfl, trivial⟩) (loop (w.length - 1) 1 0 true (by have := h0 rfl; omega) ?_)
      rw [if_pos rfl, nu_of, if_pos (hs.mp rfl)]
    | false =>
      refine wf_if_eq 35 dc_Mod_numberOf_28 (by decide) (fun hc => ?_) (fun hc => absurd rfl hc)
      refine wf_iconst 0 dc_Mod_numberOf_35 (by decide) ?_
      refine wf_istore dc_Mod_numberOf_36 (by decide) ?_
      refine Wf.to (by exact ⟨rfl, rfl, rfl, rfl, rfl, trivial⟩) (loop w.length 0 0 false (by omega) ?_)
      rw [if_neg (by decide), nu_of, if_neg (fun z => absurd (hs.mpr z) (by decide))]
      rfl
  refine wf_aload_n dc_Mod_numberOf_0 rfl ?_
  refine wf_iload_n dc_Mod_numberOf_1 rfl ?_
  refine wf_iv1 (M' := mt_Mod_sizeOf) (c := 8) dc_Mod_numberOf_2 tg_Mod_sizeOf ml_Mod_184 im_Mod_sizeOf se_Mod_sizeOf ⟨_, rfl, rfl⟩ (by assumption) (Nat.le_of_ble_eq_true rfl) (Nat.le_refl _) (Nat.le_refl _) (hsz) qI_nt (qI_go (fun x2 i2 hp => ?_))
  obtain ⟨rfl, hq⟩ := hp; subst i2
  by_cases hw0 : w.length = 0
  · have hnil : w = [] := List.length_eq_zero_iff.mp hw0
    refine wf_if_le 23 dc_Mod_numberOf_5 (by decide) (fun hc => ?_) (fun hc => absurd (by rw [hw0]; decide) hc)
    refine wf_iconst 0 dc_Mod_numberOf_23 (by decide) ?_
    exact Wf.to (by exact ⟨rfl, rfl, trivial⟩) (go false ⟨fun z => (by cases z), fun z => (by rw [hnil] at z; exact absurd z (by decide))⟩ (fun z => by cases z))
  · refine wf_if_le 23 dc_Mod_numberOf_5 (by decide) (fun hc => absurd ((nI_leI (b := 0) (by omega) (by omega)).mp hc) (by omega)) (fun hc => ?_)
    refine wf_aload_n dc_Mod_numberOf_8 rfl ?_
    refine wf_iload_n dc_Mod_numberOf_9 rfl ?_
    refine wf_iconst 0 dc_Mod_numberOf_10 (by decide) ?_
    refine wf_iv2 (M' := mt_Mod_signOf) (c := 8) dc_Mod_numberOf_11 tg_Mod_signOf ml_Mod_187 im_Mod_signOf se_Mod_signOf ⟨_, rfl, rfl⟩ (by assumption) (Nat.le_of_ble_eq_true rfl) (Nat.le_refl _) (Nat.le_refl _) (hsg 0 (by omega)) qI_nt (qI_go (fun x2 i2 hp => ?_))
    refine wf_bipush 45 dc_Mod_numberOf_14 (by decide) ?_
    obtain ⟨rfl, hq⟩ := hp; subst i2
    by_cases h45 : w.getD 0 0 = 45
    · refine wf_icmp_ne 23 dc_Mod_numberOf_16 (by decide) (fun hc => absurd h45 hc) (fun hc => ?_)
      refine wf_iconst 1 dc_Mod_numberOf_19 (by decide) ?_
      refine wf_goto 24 dc_Mod_numberOf_20 (by decide) ?_
      exact Wf.to (by exact ⟨rfl, rfl, trivial⟩) (go true ⟨fun _ => h45, fun _ => rfl⟩ (fun _ => by omega))
    · refine wf_icmp_ne 23 dc_Mod_numberOf_16 (by decide) (fun hc => ?_) (fun hc => absurd (hc) h45)
      refine wf_iconst 0 dc_Mod_numberOf_23 (by decide) ?_
      exact Wf.to (by exact ⟨rfl, rfl, trivial⟩) (go false ⟨fun z => (by cases z), fun z => absurd z h45⟩ (fun z => by cases z))
end
