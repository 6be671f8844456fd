/-! the reference: put, printRow, fieldToRow, write, field, part -/
section
variable {l : Launch} {E : We} {n0 d nx : Nat} {t : Wt} {r : Wr} {i i' : Wi} {g : Wl} {m : Nat} {S : Ms}
def mo_S : Ms := [(0, 23, 24), (18, 0, 1500)]
theorem c_Mod_put {x : Int32} {p : List Int32} (hA : mo_at t r m) (hp : mp_out i m p) (hl : p.length < 2000000000) : Ct l E n0 mt_Mod_put d 0 0 [.ref (m + 0), .int x] nx t r i g (qV nx t r g (fun i' => mp_out i' m (p ++ [x]) ∧ mf m mo_S i i')) := by
  have t0 := hA.1.1
  have r24 : r (m + 0) 24 = some (m + 18) := hA.2 (0, 24, 18) (by decide +kernel)
  have t18 := hA.1.2 18 (18, .inr (0, 1500)) (by decide +kernel)
  obtain ⟨h1, h2⟩ := hp
  refine Ct.of (by decide) (Nat.le_of_ble_eq_true rfl) ?_
  refine wf_aload_n dc_Mod_put_0 rfl ?_
  refine wf_getr dc_Mod_put_1 fl_Mod_65 rfl (by assumption) (by assumption) ?_
  refine wf_aload_n dc_Mod_put_4 rfl ?_
  refine wf_geti dc_Mod_put_5 fl_Mod_190 rfl (by assumption) ?_
  rw [h1]
  refine wf_sipush 1500 dc_Mod_put_8 (by decide) ?_
  refine wf_irem dc_Mod_put_11 (nI_ne0 (n := 1500) (by omega) (by omega)) ?_
  rw [show nI p.length - nI p.length / 1500 * 1500 = nI (p.length % 1500) from pk_rem (d := 1500) (by omega) (by omega) (by omega)]
  have hm : p.length % 1500 < 1500 := Nat.mod_lt _ (by omega)
  refine wf_iload_n dc_Mod_put_12 rfl ?_
  refine wf_iastore (y := 0) dc_Mod_put_13 rfl (by decide) (by assumption) (vp_in_nI hm (by omega)) ?_
  rw [nI_clamp (by omega)]
  refine wf_aload_n dc_Mod_put_14 rfl ?_
  refine wf_dup dc_Mod_put_15 rfl ?_
  refine wf_geti dc_Mod_put_16 fl_Mod_190 rfl (by assumption) ?_
  refine wf_iconst 1 dc_Mod_put_19 (by decide) ?_
  refine wf_iadd dc_Mod_put_20 ?_
  rw [wf_up_a (by omega), h1, nI_1]
  refine wf_puti dc_Mod_put_21 fl_Mod_190 (Or.inl nf_Mod_23) rfl rfl rfl (by assumption) ?_
  refine wf_return rfl dc_Mod_put_24 ⟨rfl, rfl, rfl, rfl, rfl, ⟨?_, ?_⟩, ?_⟩
  · rw [wf_up_s, List.length_append]
    rfl
  · intro k hk hk2
    rw [List.length_append] at hk hk2
    have hk : k < p.length + 1 := hk
    have hk2 : p.length + 1 ≤ k + 1500 := hk2
    rw [wf_up_a (by omega)]
    by_cases hkp : k = p.length
    · rw [hkp, wf_up_s]
      exact (gd_r (w := p) (v := [x]) (j := 0)).symm
    · rw [wf_up_k (by omega), h2 k (by omega) (by omega), gd_l (by omega)]
  · exact mf_up (mf_up mf_rf ⟨(18, 0, 1500), by simp [mo_S], rfl, Nat.zero_le _, by simp only; omega⟩) ⟨(0, 23, 24), by simp [mo_S], rfl, Nat.le_refl _, Nat.le_refl _⟩
theorem c_Mod_printRow {k lo hi : Nat} {p w : List Int32} (hA : mo_at t r m) (hp : mp_out i m p) (hl : p.length < 1999999000) (hk : k < 9) (hw : mr i m k w) (hl2 : w.length ≤ 120) (hlo : lo ≤ hi) (hhi : hi ≤ w.length) :
    Ct l E n0 mt_Mod_printRow (d + 1) 0 0 [.ref (m + 0), .int (nI k), .int (nI lo), .int (nI hi)] nx t r i g (qV nx t r g (fun i' => mp_out i' m (p ++ (w.drop lo).take (hi - lo) ++ [10]) ∧ mf m mo_S i i')) := by
  have t0 := hA.1.1
  have r1 : r (m + 0) 1 = some (m + 1) := hA.2 (0, 1, 1) (by decide +kernel)
  have t1 := hA.1.2 1 (1, .inr (0, 1080)) (by decide +kernel)
  refine Ct.of (by decide) (Nat.le_of_ble_eq_true rfl) ?_
  refine wf_iload_n dc_Mod_printRow_0 rfl ?_
  refine wf_istore dc_Mod_printRow_1 (by decide) ?_
  have loop : ∀ (c j : Nat) (i1 : Wi) (p1 : List Int32), j + c = hi → lo ≤ j → mp_out i1 m p1 → mf m mo_S i i1 → p1.length + c < 2000000000 - 1 → p1 ++ (w.drop j).take c = p ++ (w.drop lo).take (hi - lo) →
      Wf l E n0 mt_Mod_printRow (d + 1) 0 0 (qV nx t r g (fun i' => mp_out i' m (p ++ (w.drop lo).take (hi - lo) ++ [10]) ∧ mf m mo_S i i')) 0 0 3 [(0, .ref (m + 0)), (1, .int (nI k)), (3, .int (nI hi)), (4, .int (nI j))] [] nx t r i1 g := by
    intro c
    induction c with
    | zero =>
      intro j i1 p1 hj hlj h1 hf hlen he
      rw [List.take_zero, List.append_nil] at he
      refine wf_iload dc_Mod_printRow_3 rfl ?_
      refine wf_iload_n dc_Mod_printRow_5 rfl ?_
      refine wf_icmp_ge 31 dc_Mod_printRow_6 (by decide) (fun hc => ?_) (fun hc => absurd ((nI_leI (by omega) (by omega)).mpr (by omega)) hc)
      refine wf_aload_n dc_Mod_printRow_31 rfl ?_
      refine wf_bipush 10 dc_Mod_printRow_32 (by decide) ?_
      refine wf_iv1 (M' := mt_Mod_put) (c := 8) dc_Mod_printRow_34 tg_Mod_put ml_Mod_197 im_Mod_put se_Mod_put ⟨_, rfl, rfl⟩ (by assumption) (Nat.le_of_ble_eq_true rfl) (Nat.le_refl _) (Nat.le_refl _) (c_Mod_put hA h1 (by omega)) qV_nt (qV_go (fun i2 hp => ?_))
      exact wf_return rfl dc_Mod_printRow_37 ⟨rfl, rfl, rfl, rfl, rfl, by rw [← he]; exact hp.1, mf_ss hf hp.2⟩
    | succ c ih =>
      intro j i1 p1 hj hlj h1 hf hlen he
      have hw1 := hw.fr hf hl2 (by simp [ms_no, mo_S]) (by simp [ms_no, mo_S])
      refine wf_iload dc_Mod_printRow_3 rfl ?_
      refine wf_iload_n dc_Mod_printRow_5 rfl ?_
      refine wf_icmp_ge 31 dc_Mod_printRow_6 (by decide) (fun hc => absurd ((nI_leI (by omega) (by omega)).mp hc) (by omega)) (fun hc => ?_)
      refine wf_aload_n dc_Mod_printRow_9 rfl ?_
      refine wf_aload_n dc_Mod_printRow_10 rfl ?_
      refine wf_getr dc_Mod_printRow_11 fl_Mod_7 rfl (by assumption) (by assumption) ?_
      refine wf_bipush 120 dc_Mod_printRow_14 (by decide) ?_
      refine wf_iload_n dc_Mod_printRow_16 rfl ?_
      refine wf_imul dc_Mod_printRow_17 ?_
      rw [n120]
      refine wf_iload dc_Mod_printRow_18 rfl ?_
      refine wf_iadd dc_Mod_printRow_20 ?_
      rw [nI_add]
      refine wf_iaload (y := 0) dc_Mod_printRow_21 rfl (by assumption) (vp_in_nI (by omega) (by omega)) ?_
      rw [nI_clamp (show 120 * k + j < 2 ^ 31 by omega), hw1.2 j (by omega)]
      refine wf_iv1 (M' := mt_Mod_put) (c := 8) dc_Mod_printRow_22 tg_Mod_put ml_Mod_197 im_Mod_put se_Mod_put ⟨_, rfl, rfl⟩ (by assumption) (Nat.le_of_ble_eq_true rfl) (Nat.le_refl _) (Nat.le_refl _) (c_Mod_put hA h1 (by omega)) qV_nt (qV_go (fun i2 hp => ?_))
      obtain ⟨q1, q2⟩ := hp
      refine wf_iinc _ dc_Mod_printRow_25 rfl (nI_1 j) (by decide) ?_
      refine wf_goto 3 dc_Mod_printRow_28 (by decide) ?_
      have hd : w.drop j = w.getD j 0 :: w.drop (j + 1) := by
        rw [List.drop_eq_getElem_cons (by omega), List.getD_eq_getElem?_getD, List.getElem?_eq_getElem (by omega)]
        rfl
      rw [hd, List.take_succ_cons] at he
      exact Wf.to (by exact ⟨rfl, rfl, rfl, rfl, trivial⟩) (ih (j + 1) _ _ (by omega) (by omega) q1 (mf_ss hf q2) (by rw [List.length_append, List.length_singleton]; omega) (by rw [List.append_assoc]; exact he))
  exact Wf.to (by exact ⟨rfl, rfl, rfl, rfl, trivial⟩) (loop (hi - lo) lo i p (by omega) (Nat.le_refl _) hp mf_rf (by omega) rfl)
theorem mp_fld.mr {k : Nat} {F : List (List Int32)} (h : mp_fld i m F) (hf : mf m (mr_S k) i i') : mp_fld i' m F := h.fr hf (by simp [ms_no, mr_S]) (fun c c1 c2 q hq => by simp only [mr_S, List.mem_cons, List.not_mem_nil, or_false] at hq; rcases hq with rfl | rfl <;> simp only <;> omega)
theorem c_Mod_fieldToRow {f : Nat} {F : List (List Int32)} (hA : mo_at t r m) (hF : mp_fld i m F) (h30 : F.length ≤ 30) (h1 : 1 ≤ f) (h2 : f ≤ 30) (hl : (fdn F f).length ≤ 120) : Ct l E n0 mt_Mod_fieldToRow (d + 1) 0 0 [.ref (m + 0), .int (nI f)] nx t r i g (qV nx t r g (fun i' => mr i' m 8 (fdn F f) ∧ mf m (mr_S 8) i i')) := by
  have t0 := hA.1.1
  have r1 : r (m + 0) 1 = some (m + 1) := hA.2 (0, 1, 1) (by decide +kernel)
  have r2 : r (m + 0) 2 = some (m + 2) := hA.2 (0, 2, 2) (by decide +kernel)
  have t1 := hA.1.2 1 (1, .inr (0, 1080)) (by decide +kernel)
  have t2 := hA.1.2 2 (2, .inr (0, 9)) (by decide +kernel)
  refine Ct.of (by decide) (Nat.le_of_ble_eq_true rfl) ?_
  refine wf_aload_n dc_Mod_fieldToRow_0 rfl ?_
  refine wf_getr dc_Mod_fieldToRow_1 fl_Mod_13 rfl (by assumption) (by assumption) ?_
  refine wf_bipush 8 dc_Mod_fieldToRow_4 (by decide) ?_
  refine wf_aload_n dc_Mod_fieldToRow_6 rfl ?_
  refine wf_iload_n dc_Mod_fieldToRow_7 rfl ?_
  refine wf_iv1 (M' := mt_Mod_sizeOf) (c := 8) dc_Mod_fieldToRow_8 tg_Mod_sizeOf ml_Mod_184 im_Mod_sizeOf se_Mod_sizeOf ⟨_, rfl, rfl⟩ (by assumption) (Nat.le_of_ble_eq_true rfl) (Nat.le_refl _) (Nat.le_refl _) (c_Mod_sizeOf hA hF h30 h1 h2) qI_nt (qI_go (fun x2 i2 hp => ?_))
  obtain ⟨rfl, hq⟩ := hp; subst i2
  refine wf_iastore (y := 0) dc_Mod_fieldToRow_11 rfl (by decide) (by assumption) (vp_in_nI (n := 8) (by omega) (by omega)) ?_
  refine wf_iconst 0 dc_Mod_fieldToRow_12 (by decide) ?_
  refine wf_istore_n dc_Mod_fieldToRow_13 (by decide) ?_
  have loop : ∀ (c j : Nat) (i1 : Wi), j + c = (fdn F f).length → i1 (m + 2) 8 = nI (fdn F f).length → mz i1 (m + 1) (120 * 8) ((fdn F f).take j) → mf m (mr_S 8) i i1 → Wf l E n0 mt_Mod_fieldToRow (d + 1) 0 0 (qV nx t r g (fun i' => mr i' m 8 (fdn F f) ∧ mf m (mr_S 8) i i')) 0 0 14 [(0, .ref (m + 0)), (1, .int (nI f)), (2, .int (nI j))] [] nx t r i1 g := by
    intro c
    induction c with
    | zero =>
      intro j i1 hj q1 q2 q3
      have hF1 := hF.mr q3
      refine wf_iload_n dc_Mod_fieldToRow_14 rfl ?_
      refine wf_aload_n dc_Mod_fieldToRow_15 rfl ?_
      refine wf_iload_n dc_Mod_fieldToRow_16 rfl ?_
      refine wf_iv1 (M' := mt_Mod_sizeOf) (c := 8) dc_Mod_fieldToRow_17 tg_Mod_sizeOf ml_Mod_184 im_Mod_sizeOf se_Mod_sizeOf ⟨_, rfl, rfl⟩ (by assumption) (Nat.le_of_ble_eq_true rfl) (Nat.le_refl _) (Nat.le_refl _) (c_Mod_sizeOf hA hF1 h30 h1 h2) qI_nt (qI_go (fun x2 i2 hp => ?_))
      obtain ⟨rfl, hq⟩ := hp; subst i2
      refine wf_icmp_ge 45 dc_Mod_fieldToRow_20 (by decide) (fun hc => ?_) (fun hc => absurd ((nI_leI (by omega) (by omega)).mpr (by omega)) hc)
      rw [List.take_of_length_le (by omega)] at q2
      exact wf_return rfl dc_Mod_fieldToRow_45 ⟨rfl, rfl, rfl, rfl, rfl, ⟨q1, q2⟩, q3⟩
    | succ c ih =>
      intro j i1 hj q1 q2 q3
      have hF1 := hF.mr q3
      refine wf_iload_n dc_Mod_fieldToRow_14 rfl ?_
      refine wf_aload_n dc_Mod_fieldToRow_15 rfl ?_
      refine wf_iload_n dc_Mod_fieldToRow_16 rfl ?_
      refine wf_iv1 (M' := mt_Mod_sizeOf) (c := 8) dc_Mod_fieldToRow_17 tg_Mod_sizeOf ml_Mod_184 im_Mod_sizeOf se_Mod_sizeOf ⟨_, rfl, rfl⟩ (by assumption) (Nat.le_of_ble_eq_true rfl) (Nat.le_refl _) (Nat.le_refl _) (c_Mod_sizeOf hA hF1 h30 h1 h2) qI_nt (qI_go (fun x2 i2 hp => ?_))
      obtain ⟨rfl, hq⟩ := hp; subst i2
      refine wf_icmp_ge 45 dc_Mod_fieldToRow_20 (by decide) (fun hc => absurd ((nI_leI (by omega) (by omega)).mp hc) (by omega)) (fun hc => ?_)
      refine wf_aload_n dc_Mod_fieldToRow_23 rfl ?_
      refine wf_getr dc_Mod_fieldToRow_24 fl_Mod_7 rfl (by assumption) (by assumption) ?_
      refine wf_sipush 960 dc_Mod_fieldToRow_27 (by decide) ?_
      refine wf_iload_n dc_Mod_fieldToRow_30 rfl ?_
      refine wf_iadd dc_Mod_fieldToRow_31 ?_
      rw [show (960 : Int32) + nI j = nI (120 * 8 + j) from nI_add 960 j]
      refine wf_aload_n dc_Mod_fieldToRow_32 rfl ?_
      refine wf_iload_n dc_Mod_fieldToRow_33 rfl ?_
      refine wf_iload_n dc_Mod_fieldToRow_34 rfl ?_
      refine wf_iv2 (M' := mt_Mod_signOf) (c := 8) dc_Mod_fieldToRow_35 tg_Mod_signOf ml_Mod_187 im_Mod_signOf se_Mod_signOf ⟨_, rfl, rfl⟩ (by assumption) (Nat.le_of_ble_eq_true rfl) (Nat.le_refl _) (Nat.le_refl _) (c_Mod_signOf hA hF1 h30 h1 (show j < (fdn F f).length by omega) hl) qI_nt (qI_go (fun x2 i2 hp => ?_))
      obtain ⟨rfl, hq⟩ := hp; subst i2
      refine wf_iastore (y := 0) dc_Mod_fieldToRow_38 rfl (by decide) (by assumption) (vp_in_nI (by omega) (by omega)) ?_
      refine wf_iinc _ dc_Mod_fieldToRow_39 rfl (nI_1 j) (by decide) ?_
      refine wf_goto 14 dc_Mod_fieldToRow_42 (by decide) ?_
      rw [nI_clamp (show 120 * 8 + j < 2 ^ 31 by omega)]
      refine Wf.to (by exact ⟨rfl, rfl, rfl, trivial⟩) (ih (j + 1) _ (by omega) ((wf_up_a (by omega)).trans q1) ?_ (mf_up q3 (mr_in1 (by omega))))
      rw [tk_s (by omega)]
      have h4 : mz (wf_up i1 (m + 1) (120 * 8 + j) ((fdn F f).getD j 0)) (m + 1) (120 * 8) ((fdn F f).take j) := fun q hq => by
        rw [List.length_take] at hq
        rw [wf_up_k (by omega)]
        exact q2 q (by rw [List.length_take]; exact hq)
      refine h4.snoc ?_
      rw [List.length_take, Nat.min_eq_left (by omega)]
      exact wf_up_s
  exact Wf.to (by exact ⟨rfl, rfl, rfl, trivial⟩) (loop _ 0 _ (Nat.zero_add _) wf_up_s mz_nil (mf_up mf_rf mr_in2))
theorem c_Mod_write {x : Int32} {w : List Int32} (hA : mo_at t r m) (hw : mr i m 1 w) (hl : w.length ≤ 120) : Ct l E n0 mt_Mod_write d 0 0 [.ref (m + 0), .int x] nx t r i g (qV nx t r g (fun i' => mr i' m 1 ((w ++ [x]).take 120) ∧ mf m (mr_S 1) i i')) := by
  have t0 := hA.1.1
  have r1 : r (m + 0) 1 = some (m + 1) := hA.2 (0, 1, 1) (by decide +kernel)
  have r2 : r (m + 0) 2 = some (m + 2) := hA.2 (0, 2, 2) (by decide +kernel)
  have t1 := hA.1.2 1 (1, .inr (0, 1080)) (by decide +kernel)
  have t2 := hA.1.2 2 (2, .inr (0, 9)) (by decide +kernel)
  refine Ct.of (by decide) (Nat.le_of_ble_eq_true rfl) ?_
  refine wf_aload_n dc_Mod_write_0 rfl ?_
  refine wf_getr dc_Mod_write_1 fl_Mod_13 rfl (by assumption) (by assumption) ?_
  refine wf_iconst 1 dc_Mod_write_4 (by decide) ?_
  refine wf_iaload (y := 0) dc_Mod_write_5 rfl (by assumption) (vp_in_nI (n := 1) (by omega) (by omega)) ?_
  rw [show i (m + 2) (Int32.toNatClampNeg 1) = nI w.length from hw.1]
  refine wf_bipush 120 dc_Mod_write_6 (by decide) ?_
  by_cases h : w.length < 120
  · refine wf_icmp_ge 36 dc_Mod_write_8 (by decide) (fun hc => absurd ((nI_leI (a := 120) (by omega) (by omega)).mp hc) (by omega)) (fun hc => ?_)
    refine wf_aload_n dc_Mod_write_11 rfl ?_
    refine wf_getr dc_Mod_write_12 fl_Mod_7 rfl (by assumption) (by assumption) ?_
    refine wf_bipush 120 dc_Mod_write_15 (by decide) ?_
    refine wf_aload_n dc_Mod_write_17 rfl ?_
    refine wf_getr dc_Mod_write_18 fl_Mod_13 rfl (by assumption) (by assumption) ?_
    refine wf_iconst 1 dc_Mod_write_21 (by decide) ?_
    refine wf_iaload (y := 0) dc_Mod_write_22 rfl (by assumption) (vp_in_nI (n := 1) (by omega) (by omega)) ?_
    rw [show i (m + 2) (Int32.toNatClampNeg 1) = nI w.length from hw.1]
    refine wf_iadd dc_Mod_write_23 ?_
    rw [show (120 : Int32) + nI w.length = nI (120 * 1 + w.length) from nI_add 120 w.length]
    refine wf_iload_n dc_Mod_write_24 rfl ?_
    refine wf_iastore (y := 0) dc_Mod_write_25 rfl (by decide) (by assumption) (vp_in_nI (by omega) (by omega)) ?_
    refine wf_aload_n dc_Mod_write_26 rfl ?_
    refine wf_getr dc_Mod_write_27 fl_Mod_13 rfl (by assumption) (by assumption) ?_
    refine wf_iconst 1 dc_Mod_write_30 (by decide) ?_
    refine wf_dup2 dc_Mod_write_31 rfl rfl ?_
    rw [nI_clamp (show 120 * 1 + w.length < 2 ^ 31 by omega)]
    have f1 : mf m (mr_S 1) i (wf_up i (m + 1) (120 * 1 + w.length) x) := mf_up mf_rf (mr_in1 h)
    have e1 : wf_up i (m + 1) (120 * 1 + w.length) x (m + 2) (Int32.toNatClampNeg 1) = nI w.length := (wf_up_a (by omega)).trans hw.1
    refine wf_iaload (y := 0) dc_Mod_write_32 rfl (by assumption) (vp_in_nI (n := 1) (by omega) (by omega)) ?_
    refine wf_iconst 1 dc_Mod_write_33 (by decide) ?_
    rw [e1]
    refine wf_iadd dc_Mod_write_34 ?_
    rw [nI_1]
    refine wf_iastore (y := 0) dc_Mod_write_35 rfl (by decide) (by assumption) (vp_in_nI (n := 1) (by omega) (by omega)) ?_
    rw [List.take_of_length_le (show (w ++ [x]).length ≤ 120 by rw [List.length_append, List.length_singleton]; omega)]
    have h4 : mz (wf_up (wf_up i (m + 1) (120 * 1 + w.length) x) (m + 2) (Int32.toNatClampNeg 1) (nI (w.length + 1))) (m + 1) (120 * 1) w := fun q hq => by
      rw [wf_up_a (by omega), wf_up_k (by omega)]
      exact hw.2 q hq
    exact wf_return rfl dc_Mod_write_36 ⟨rfl, rfl, rfl, rfl, rfl, ⟨by rw [List.length_append, List.length_singleton]; exact wf_up_s, h4.snoc ((wf_up_a (by omega)).trans wf_up_s)⟩, mf_up f1 mr_in2⟩
  · refine wf_icmp_ge 36 dc_Mod_write_8 (by decide) (fun hc => ?_) (fun hc => absurd ((nI_leI (a := 120) (by omega) (by omega)).mpr (by omega)) hc)
    have he : (w ++ [x]).take 120 = w := by
      rw [List.take_append_of_le_length (by omega), List.take_of_length_le hl]
    rw [he]
    exact wf_return rfl dc_Mod_write_36 ⟨rfl, rfl, rfl, rfl, rfl, hw, mf_rf⟩
end
