/-! the reference: thrown, goes, signsOf, feedOne, feed, clear, copyRow -/
section
variable {l : Launch} {E : We} {n0 d nx : Nat} {t : Wt} {r : Wr} {i i' : Wi} {g : Wl} {m : Nat}
theorem c_Mod_thrown (hA : mo_at t r m) : Ct l E n0 mt_Mod_thrown d 0 0 [.ref (m + 0)] nx t r i g (qI nx t r g (fun z i' => z = i (m + 0) 0 ∧ i' = i)) := by
  have t0 := hA.1.1
  refine Ct.of (by decide) (Nat.le_of_ble_eq_true rfl) ?_
  refine wf_aload_n dc_Mod_thrown_0 rfl ?_
  refine wf_geti dc_Mod_thrown_1 fl_Mod_99 rfl (by assumption) ?_
  exact wf_ireturn rfl dc_Mod_thrown_4 ⟨_, rfl, rfl, rfl, rfl, rfl, rfl, rfl⟩
/-- which exception a call would throw: none, the first, the second -/
def th_of (a c : Bool) : Int32 := if a = true then (if c = true then 0 else 2) else 1
theorem c_Mod_goes {a c : Bool} (hA : mo_at t r m) : Ct l E n0 mt_Mod_goes d 0 0 [.ref (m + 0), .int (wt_b a), .int (wt_b c)] nx t r i g (qI nx t r g (fun z i' => z = wt_b (a && c) ∧ i' = wf_up i (m + 0) 0 (th_of a c))) := by
  have t0 := hA.1.1
  refine Ct.of (by decide) (Nat.le_of_ble_eq_true rfl) ?_
  refine wf_aload_n dc_Mod_goes_0 rfl ?_
  refine wf_iload_n dc_Mod_goes_1 rfl ?_
  cases a with
  | false =>
    refine wf_if_ne 9 dc_Mod_goes_2 (by decide) (fun hc => absurd rfl hc) (fun hc => ?_)
    refine wf_iconst 1 dc_Mod_goes_5 (by decide) ?_
    refine wf_goto 18 dc_Mod_goes_6 (by decide) ?_
    refine wf_puti dc_Mod_goes_18 fl_Mod_99 (Or.inl nf_Mod_0) rfl rfl rfl (by assumption) ?_
    refine wf_aload_n dc_Mod_goes_21 rfl ?_
    refine wf_geti dc_Mod_goes_22 fl_Mod_99 rfl (by assumption) ?_
    rw [wf_up_s]
    refine wf_if_ne 32 dc_Mod_goes_25 (by decide) (fun hc => ?_) (fun hc => absurd hc (by decide))
    refine wf_iconst 0 dc_Mod_goes_32 (by decide) ?_
    exact wf_zreturn rfl rfl dc_Mod_goes_33 ⟨0, rfl, rfl, rfl, rfl, rfl, rfl, rfl⟩
  | true =>
    refine wf_if_ne 9 dc_Mod_goes_2 (by decide) (fun hc => ?_) (fun hc => absurd hc (by decide))
    refine wf_iload_n dc_Mod_goes_9 rfl ?_
    cases c with
    | false =>
      refine wf_if_ne 17 dc_Mod_goes_10 (by decide) (fun hc => absurd rfl hc) (fun hc => ?_)
      refine wf_iconst 2 dc_Mod_goes_13 (by decide) ?_
      refine wf_goto 18 dc_Mod_goes_14 (by decide) ?_
      refine wf_puti dc_Mod_goes_18 fl_Mod_99 (Or.inl nf_Mod_0) rfl rfl rfl (by assumption) ?_
      refine wf_aload_n dc_Mod_goes_21 rfl ?_
      refine wf_geti dc_Mod_goes_22 fl_Mod_99 rfl (by assumption) ?_
      rw [wf_up_s]
      refine wf_if_ne 32 dc_Mod_goes_25 (by decide) (fun hc => ?_) (fun hc => absurd hc (by decide))
      refine wf_iconst 0 dc_Mod_goes_32 (by decide) ?_
      exact wf_zreturn rfl rfl dc_Mod_goes_33 ⟨0, rfl, rfl, rfl, rfl, rfl, rfl, rfl⟩
    | true =>
      refine wf_if_ne 17 dc_Mod_goes_10 (by decide) (fun hc => ?_) (fun hc => absurd hc (by decide))
      refine wf_iconst 0 dc_Mod_goes_17 (by decide) ?_
      refine wf_puti dc_Mod_goes_18 fl_Mod_99 (Or.inl nf_Mod_0) rfl rfl rfl (by assumption) ?_
      refine wf_aload_n dc_Mod_goes_21 rfl ?_
      refine wf_geti dc_Mod_goes_22 fl_Mod_99 rfl (by assumption) ?_
      rw [wf_up_s]
      refine wf_if_ne 32 dc_Mod_goes_25 (by decide) (fun hc => absurd rfl hc) (fun hc => ?_)
      refine wf_iconst 1 dc_Mod_goes_28 (by decide) ?_
      refine wf_goto 33 dc_Mod_goes_29 (by decide) ?_
      exact wf_zreturn rfl rfl dc_Mod_goes_33 ⟨1, rfl, rfl, rfl, rfl, rfl, rfl, rfl⟩
theorem c_Mod_signsOf {v : Int32} : Ct l E n0 mt_Mod_signsOf d 0 0 [.int v] nx t r i g (qI nx t r g (fun z i' => z = nI (ws_of v).length ∧ i' = i)) := by
  refine Ct.of (by decide) (Nat.le_of_ble_eq_true rfl) ?_
  refine wf_iconst 0 dc_Mod_signsOf_0 (by decide) ?_
  refine wf_istore_n dc_Mod_signsOf_1 (by decide) ?_
  refine wf_iconst 0 dc_Mod_signsOf_2 (by decide) ?_
  refine wf_istore_n dc_Mod_signsOf_3 (by decide) ?_
  have loop : ∀ (c k n : Nat), k + c = 4 → n + (ws_go v c k).length = (ws_of v).length → Wf l E n0 mt_Mod_signsOf d 0 0 (qI nx t r g (fun z i' => z = nI (ws_of v).length ∧ i' = i)) 0 0 4 [(0, .int v), (1, .int (nI n)), (2, .int (nI k))] [] nx t r i g := by
    intro c
    induction c with
    | zero =>
      intro k n hk hn
      refine wf_iload_n dc_Mod_signsOf_4 rfl ?_
      refine wf_iconst 4 dc_Mod_signsOf_5 (by decide) ?_
      refine wf_icmp_ge 36 dc_Mod_signsOf_6 (by decide) (fun hc => ?_) (fun hc => absurd ((nI_leI (a := 4) (by omega) (by omega)).mpr (by omega)) hc)
      refine wf_iload_n dc_Mod_signsOf_36 rfl ?_
      exact wf_ireturn rfl dc_Mod_signsOf_37 ⟨_, rfl, rfl, rfl, rfl, rfl, by rw [← hn]; rfl, rfl⟩
    | succ c ih =>
      intro k n hk hn
      refine wf_iload_n dc_Mod_signsOf_4 rfl ?_
      refine wf_iconst 4 dc_Mod_signsOf_5 (by decide) ?_
      refine wf_icmp_ge 36 dc_Mod_signsOf_6 (by decide) (fun hc => absurd ((nI_leI (a := 4) (by omega) (by omega)).mp hc) (by omega)) (fun hc => ?_)
      refine wf_iload_n dc_Mod_signsOf_9 rfl ?_
      refine wf_bipush 8 dc_Mod_signsOf_10 (by decide) ?_
      refine wf_iload_n dc_Mod_signsOf_12 rfl ?_
      refine wf_imul dc_Mod_signsOf_13 ?_
      rw [show (8 : Int32) * nI k = nI (8 * k) from nI_mul 8 k]
      refine wf_iushr dc_Mod_signsOf_14 ?_
      refine wf_sipush 255 dc_Mod_signsOf_15 (by decide) ?_
      refine wf_iand dc_Mod_signsOf_18 ?_
      unfold ws_go at hn
      by_cases h0 : sb_of v k = 0
      · rw [if_pos h0] at hn
        refine wf_if_ne 26 dc_Mod_signsOf_19 (by decide) (fun hc => absurd h0 hc) (fun hc => ?_)
        refine wf_iload_n dc_Mod_signsOf_22 rfl ?_
        refine wf_goto 29 dc_Mod_signsOf_23 (by decide) ?_
        refine wf_istore_n dc_Mod_signsOf_29 (by decide) ?_
        refine wf_iinc _ dc_Mod_signsOf_30 rfl (nI_1 k) (by decide) ?_
        refine wf_goto 4 dc_Mod_signsOf_33 (by decide) ?_
        exact Wf.to (by exact ⟨rfl, rfl, rfl, trivial⟩) (ih (k + 1) n (by omega) hn)
      · rw [if_neg h0, List.length_cons] at hn
        refine wf_if_ne 26 dc_Mod_signsOf_19 (by decide) (fun hc => ?_) (fun hc => absurd (hc) h0)
        refine wf_iload_n dc_Mod_signsOf_26 rfl ?_
        refine wf_iconst 1 dc_Mod_signsOf_27 (by decide) ?_
        refine wf_iadd dc_Mod_signsOf_28 ?_
        rw [nI_1]
        refine wf_istore_n dc_Mod_signsOf_29 (by decide) ?_
        refine wf_iinc _ dc_Mod_signsOf_30 rfl (nI_1 k) (by decide) ?_
        refine wf_goto 4 dc_Mod_signsOf_33 (by decide) ?_
        exact Wf.to (by exact ⟨rfl, rfl, rfl, trivial⟩) (ih (k + 1) (n + 1) (by omega) (by omega))
  exact Wf.to (by exact ⟨rfl, rfl, rfl, trivial⟩) (loop 4 0 0 rfl (Nat.zero_add _))
theorem c_Mod_feedOne {v : Int32} {w : List Int32} (hA : mo_at t r m) (hw : mr i m 0 w) (hl : w.length + (ws_of v).length ≤ 120) : Ct l E n0 mt_Mod_feedOne d 0 0 [.ref (m + 0), .int v] nx t r i g (qV nx t r g (fun i' => mr i' m 0 (w ++ ws_of v) ∧ mf m (mr_S 0) i i')) := by
  have t0 := hA.1.1
  have r1 : r (m + 0) 1 = some (m + 1) := hA.2 (0, 1, 1) (by decide +kernel)
  have r2 : r (m + 0) 2 = some (m + 2) := hA.2 (0, 2, 2) (by decide +kernel)
  have t1 := hA.1.2 1 (1, .inr (0, 1080)) (by decide +kernel)
  have t2 := hA.1.2 2 (2, .inr (0, 9)) (by decide +kernel)
  refine Ct.of (by decide) (Nat.le_of_ble_eq_true rfl) ?_
  refine wf_iconst 0 dc_Mod_feedOne_0 (by decide) ?_
  refine wf_istore_n dc_Mod_feedOne_1 (by decide) ?_
  have loop : ∀ (c k : Nat) (u : List Int32) (i1 : Wi), k + c = 4 → u ++ ws_go v c k = w ++ ws_of v → mr i1 m 0 u → mf m (mr_S 0) i i1 → Wf l E n0 mt_Mod_feedOne d 0 0 (qV nx t r g (fun i' => mr i' m 0 (w ++ ws_of v) ∧ mf m (mr_S 0) i i')) 0 0 2 [(0, .ref (m + 0)), (1, .int v), (2, .int (nI k))] [] nx t r i1 g := by
    intro c
    induction c with
    | zero =>
      intro k u i1 hk hu h1 h2
      refine wf_iload_n dc_Mod_feedOne_2 rfl ?_
      refine wf_iconst 4 dc_Mod_feedOne_3 (by decide) ?_
      refine wf_icmp_ge 50 dc_Mod_feedOne_4 (by decide) (fun hc => ?_) (fun hc => absurd ((nI_leI (a := 4) (by omega) (by omega)).mpr (by omega)) hc)
      unfold ws_go at hu
      rw [List.append_nil] at hu
      rw [hu] at h1
      exact wf_return rfl dc_Mod_feedOne_50 ⟨rfl, rfl, rfl, rfl, rfl, h1, h2⟩
    | succ c ih =>
      intro k u i1 hk hu h1 h2
      refine wf_iload_n dc_Mod_feedOne_2 rfl ?_
      refine wf_iconst 4 dc_Mod_feedOne_3 (by decide) ?_
      refine wf_icmp_ge 50 dc_Mod_feedOne_4 (by decide) (fun hc => absurd ((nI_leI (a := 4) (by omega) (by omega)).mp hc) (by omega)) (fun hc => ?_)
      refine wf_iload_n dc_Mod_feedOne_7 rfl ?_
      refine wf_bipush 8 dc_Mod_feedOne_8 (by decide) ?_
      refine wf_iload_n dc_Mod_feedOne_10 rfl ?_
      refine wf_imul dc_Mod_feedOne_11 ?_
      rw [show (8 : Int32) * nI k = nI (8 * k) from nI_mul 8 k]
      refine wf_iushr dc_Mod_feedOne_12 ?_
      refine wf_sipush 255 dc_Mod_feedOne_13 (by decide) ?_
      refine wf_iand dc_Mod_feedOne_16 ?_
      refine wf_istore_n dc_Mod_feedOne_17 (by decide) ?_
      refine wf_iload_n dc_Mod_feedOne_18 rfl ?_
      rw [show (v.toUInt32 >>> ((nI (8 * k)).toUInt32 &&& Int32.toUInt32 31)).toInt32 &&& 255 = sb_of v k from rfl]
      have hlen := congrArg List.length hu
      rw [List.length_append, List.length_append] at hlen
      unfold ws_go at hu hlen
      by_cases h0 : sb_of v k = 0
      · rw [if_pos h0] at hu
        refine wf_if_eq 44 dc_Mod_feedOne_19 (by decide) (fun hc => ?_) (fun hc => absurd h0 hc)
        refine wf_iinc _ dc_Mod_feedOne_44 rfl (nI_1 k) (by decide) ?_
        refine wf_goto 2 dc_Mod_feedOne_47 (by decide) ?_
        exact Wf.to (by exact ⟨rfl, rfl, rfl, trivial⟩) (ih (k + 1) u i1 (by omega) hu h1 h2)
      · rw [if_neg h0] at hu hlen
        rw [List.length_cons] at hlen
        refine wf_if_eq 44 dc_Mod_feedOne_19 (by decide) (fun hc => absurd hc h0) (fun hc => ?_)
        have hul : u.length < 120 := by omega
        refine wf_aload_n dc_Mod_feedOne_22 rfl ?_
        refine wf_getr dc_Mod_feedOne_23 fl_Mod_7 rfl (by assumption) (by assumption) ?_
        refine wf_aload_n dc_Mod_feedOne_26 rfl ?_
        refine wf_getr dc_Mod_feedOne_27 fl_Mod_13 rfl (by assumption) (by assumption) ?_
        refine wf_iconst 0 dc_Mod_feedOne_30 (by decide) ?_
        refine wf_iaload (y := 0) dc_Mod_feedOne_31 rfl (by assumption) (vp_in_nI (n := 0) (by omega) (by omega)) ?_
        rw [show i1 (m + 2) (Int32.toNatClampNeg 0) = nI u.length from h1.1]
        refine wf_iload_n dc_Mod_feedOne_32 rfl ?_
        refine wf_iastore (y := 0) dc_Mod_feedOne_33 rfl (by decide) (by assumption) (vp_in_nI (by omega) (by omega)) ?_
        refine wf_aload_n dc_Mod_feedOne_34 rfl ?_
        refine wf_getr dc_Mod_feedOne_35 fl_Mod_13 rfl (by assumption) (by assumption) ?_
        refine wf_iconst 0 dc_Mod_feedOne_38 (by decide) ?_
        refine wf_dup2 dc_Mod_feedOne_39 rfl rfl ?_
        rw [nI_clamp (show u.length < 2 ^ 31 by omega)]
        generalize hi2 : wf_up i1 (m + 1) u.length (sb_of v k) = i2
        have e2 : i2 (m + 2) 0 = nI u.length := by rw [← hi2, wf_up_a (by omega)]; exact h1.1
        refine wf_iaload (y := 0) dc_Mod_feedOne_40 rfl (by assumption) (vp_in_nI (n := 0) (by omega) (by omega)) ?_
        refine wf_iconst 1 dc_Mod_feedOne_41 (by decide) ?_
        rw [show i2 (m + 2) (Int32.toNatClampNeg 0) = nI u.length from e2]
        refine wf_iadd dc_Mod_feedOne_42 ?_
        rw [nI_1]
        refine wf_iastore (y := 0) dc_Mod_feedOne_43 rfl (by decide) (by assumption) (vp_in_nI (n := 0) (by omega) (by omega)) ?_
        refine wf_iinc _ dc_Mod_feedOne_44 rfl (nI_1 k) (by decide) ?_
        refine wf_goto 2 dc_Mod_feedOne_47 (by decide) ?_
        have h2' : mf m (mr_S 0) i i2 := by rw [← hi2]; exact mf_up h2 ⟨(1, 0, 120), by simp [mr_S], rfl, Nat.zero_le _, by simp only; omega⟩
        have f3 : mf m (mr_S 0) i (wf_up i2 (m + 2) (Int32.toNatClampNeg 0) (nI (u.length + 1))) := mf_up h2' ⟨(2, 0, 1), by simp [mr_S], rfl, by decide, by decide⟩
        refine Wf.to (by exact ⟨rfl, rfl, rfl, trivial⟩) (ih (k + 1) (u ++ [sb_of v k]) _ (by omega) (by rw [List.append_assoc]; exact hu) ⟨?_, ?_⟩ f3)
        · rw [List.length_append, List.length_singleton]; exact wf_up_s
        · have h3 : mz (wf_up i2 (m + 2) (Int32.toNatClampNeg 0) (nI (u.length + 1))) (m + 1) (120 * 0) u := fun j hj => by
            rw [wf_up_a (by omega), ← hi2, wf_up_k (by omega)]
            exact h1.2 j hj
          refine h3.snoc ?_
          rw [wf_up_a (by omega), ← hi2]
          rw [show 120 * 0 + u.length = u.length by omega]
          exact wf_up_s
  exact Wf.to (by exact ⟨rfl, rfl, rfl, trivial⟩) (loop 4 0 w i rfl rfl hw mf_rf)
theorem c_Mod_feed {w : List Int32} {a1 a2 a3 a4 a5 : Int32} (hA : mo_at t r m) (hw : mr i m 0 w) (hl : w.length ≤ 120) : Ct l E n0 mt_Mod_feed (d + 1) 0 0 [.ref (m + 0), .int a1, .int a2, .int a3, .int a4, .int a5] nx t r i g (qI nx t r g (fun z i' => if w.length + (fe_of a1 a2 a3 a4 a5).length ≤ 120 then z = nI (w ++ fe_of a1 a2 a3 a4 a5).length ∧ i' (m + 0) 0 = 0 ∧ mr i' m 0 (w ++ fe_of a1 a2 a3 a4 a5) ∧ mf m ((0, 0, 1) :: mr_S 0) i i' else i' = wf_up i (m + 0) 0 1)) := by
  have t0 := hA.1.1
  have r2 : r (m + 0) 2 = some (m + 2) := hA.2 (0, 2, 2) (by decide +kernel)
  have t2 := hA.1.2 2 (2, .inr (0, 9)) (by decide +kernel)
  have hfe := fe_len a1 a2 a3 a4 a5
  have l1 : (ws_of a1).length ≤ 4 := ws_len a1 4 0
  have l2 : (ws_of a2).length ≤ 4 := ws_len a2 4 0
  have l3 : (ws_of a3).length ≤ 4 := ws_len a3 4 0
  have l4 : (ws_of a4).length ≤ 4 := ws_len a4 4 0
  have l5 : (ws_of a5).length ≤ 4 := ws_len a5 4 0
  refine Ct.of (by decide) (Nat.le_of_ble_eq_true rfl) ?_
  refine wf_aload_n dc_Mod_feed_0 rfl ?_
  refine wf_aload_n dc_Mod_feed_1 rfl ?_
  refine wf_getr dc_Mod_feed_2 fl_Mod_13 rfl (by assumption) (by assumption) ?_
  refine wf_iconst 0 dc_Mod_feed_5 (by decide) ?_
  refine wf_iaload (y := 0) dc_Mod_feed_6 rfl (by assumption) (vp_in_nI (n := 0) (by omega) (by omega)) ?_
  rw [show i (m + 2) (Int32.toNatClampNeg 0) = nI w.length from hw.1]
  refine wf_iload_n dc_Mod_feed_7 rfl ?_
  refine wf_is1 (M' := mt_Mod_signsOf) dc_Mod_feed_8 tg_Mod_signsOf ml_Mod_102 sm_Mod_signsOf (Nat.le_of_ble_eq_true rfl) (Nat.le_refl _) (Nat.le_refl _) (c_Mod_signsOf) qI_nt (qI_go (fun x2 i2 hp => ?_))
  obtain ⟨rfl, hq⟩ := hp; subst i2
  refine wf_iadd dc_Mod_feed_11 ?_
  refine wf_iload_n dc_Mod_feed_12 rfl ?_
  refine wf_is1 (M' := mt_Mod_signsOf) dc_Mod_feed_13 tg_Mod_signsOf ml_Mod_102 sm_Mod_signsOf (Nat.le_of_ble_eq_true rfl) (Nat.le_refl _) (Nat.le_refl _) (c_Mod_signsOf) qI_nt (qI_go (fun x2 i2 hp => ?_))
  obtain ⟨rfl, hq⟩ := hp; subst i2
  refine wf_iadd dc_Mod_feed_16 ?_
  refine wf_iload_n dc_Mod_feed_17 rfl ?_
  refine wf_is1 (M' := mt_Mod_signsOf) dc_Mod_feed_18 tg_Mod_signsOf ml_Mod_102 sm_Mod_signsOf (Nat.le_of_ble_eq_true rfl) (Nat.le_refl _) (Nat.le_refl _) (c_Mod_signsOf) qI_nt (qI_go (fun x2 i2 hp => ?_))
  obtain ⟨rfl, hq⟩ := hp; subst i2
  refine wf_iadd dc_Mod_feed_21 ?_
  refine wf_iload dc_Mod_feed_22 rfl ?_
  refine wf_is1 (M' := mt_Mod_signsOf) dc_Mod_feed_24 tg_Mod_signsOf ml_Mod_102 sm_Mod_signsOf (Nat.le_of_ble_eq_true rfl) (Nat.le_refl _) (Nat.le_refl _) (c_Mod_signsOf) qI_nt (qI_go (fun x2 i2 hp => ?_))
  obtain ⟨rfl, hq⟩ := hp; subst i2
  refine wf_iadd dc_Mod_feed_27 ?_
  refine wf_iload dc_Mod_feed_28 rfl ?_
  refine wf_is1 (M' := mt_Mod_signsOf) dc_Mod_feed_30 tg_Mod_signsOf ml_Mod_102 sm_Mod_signsOf (Nat.le_of_ble_eq_true rfl) (Nat.le_refl _) (Nat.le_refl _) (c_Mod_signsOf) qI_nt (qI_go (fun x2 i2 hp => ?_))
  obtain ⟨rfl, hq⟩ := hp; subst i2
  refine wf_iadd dc_Mod_feed_33 ?_
  rw [nI_add, nI_add, nI_add, nI_add, nI_add, show w.length + (ws_of a1).length + (ws_of a2).length + (ws_of a3).length + (ws_of a4).length + (ws_of a5).length = w.length + (fe_of a1 a2 a3 a4 a5).length by omega]
  refine wf_bipush 120 dc_Mod_feed_34 (by decide) ?_
  by_cases hf : w.length + (fe_of a1 a2 a3 a4 a5).length ≤ 120
  · refine wf_icmp_gt 43 dc_Mod_feed_36 (by decide) (fun hc => absurd ((nI_ltI (a := 120) (by omega) (by omega)).mp hc) (by omega)) (fun hc => ?_)
    refine wf_iconst 1 dc_Mod_feed_39 (by decide) ?_
    refine wf_goto 44 dc_Mod_feed_40 (by decide) ?_
    refine wf_iconst 1 dc_Mod_feed_44 (by decide) ?_
    refine wf_iv2 (M' := mt_Mod_goes) (c := 8) dc_Mod_feed_45 tg_Mod_goes ml_Mod_106 im_Mod_goes se_Mod_goes ⟨_, rfl, rfl⟩ (by assumption) (Nat.le_of_ble_eq_true rfl) (Nat.le_refl _) (Nat.le_refl _) (c_Mod_goes (a := true) (c := true) hA) qI_nt (qI_go (fun x2 i2 hp => ?_))
    obtain ⟨rfl, rfl⟩ := hp
    refine wf_if_ne 53 dc_Mod_feed_48 (by decide) (fun hc => ?_) (fun hc => absurd hc (by decide))
    have f0 : mf m [(0, 0, 1)] i (wf_up i (m + 0) 0 (th_of true true)) := mf_up mf_rf ⟨(0, 0, 1), by simp, rfl, by decide, by decide⟩
    have hw0 : mr (wf_up i (m + 0) 0 (th_of true true)) m 0 w := hw.fr f0 hl (by simp [ms_no]) (by simp [ms_no])
    refine wf_aload_n dc_Mod_feed_53 rfl ?_
    refine wf_iload_n dc_Mod_feed_54 rfl ?_
    refine wf_iv1 (M' := mt_Mod_feedOne) (c := 8) dc_Mod_feed_55 tg_Mod_feedOne ml_Mod_110 im_Mod_feedOne se_Mod_feedOne ⟨_, rfl, rfl⟩ (by assumption) (Nat.le_of_ble_eq_true rfl) (Nat.le_refl _) (Nat.le_refl _) (c_Mod_feedOne hA hw0 (by omega)) qV_nt (qV_go (fun i2 hp => ?_))
    obtain ⟨m1, f1⟩ := hp
    refine wf_aload_n dc_Mod_feed_58 rfl ?_
    refine wf_iload_n dc_Mod_feed_59 rfl ?_
    refine wf_iv1 (M' := mt_Mod_feedOne) (c := 8) dc_Mod_feed_60 tg_Mod_feedOne ml_Mod_110 im_Mod_feedOne se_Mod_feedOne ⟨_, rfl, rfl⟩ (by assumption) (Nat.le_of_ble_eq_true rfl) (Nat.le_refl _) (Nat.le_refl _) (c_Mod_feedOne hA m1 (by simp only [List.length_append]; omega)) qV_nt (qV_go (fun i2 hp => ?_))
    obtain ⟨m2, f2⟩ := hp
    refine wf_aload_n dc_Mod_feed_63 rfl ?_
    refine wf_iload_n dc_Mod_feed_64 rfl ?_
    refine wf_iv1 (M' := mt_Mod_feedOne) (c := 8) dc_Mod_feed_65 tg_Mod_feedOne ml_Mod_110 im_Mod_feedOne se_Mod_feedOne ⟨_, rfl, rfl⟩ (by assumption) (Nat.le_of_ble_eq_true rfl) (Nat.le_refl _) (Nat.le_refl _) (c_Mod_feedOne hA m2 (by simp only [List.length_append]; omega)) qV_nt (qV_go (fun i2 hp => ?_))
    obtain ⟨m3, f3⟩ := hp
    refine wf_aload_n dc_Mod_feed_68 rfl ?_
    refine wf_iload dc_Mod_feed_69 rfl ?_
    refine wf_iv1 (M' := mt_Mod_feedOne) (c := 8) dc_Mod_feed_71 tg_Mod_feedOne ml_Mod_110 im_Mod_feedOne se_Mod_feedOne ⟨_, rfl, rfl⟩ (by assumption) (Nat.le_of_ble_eq_true rfl) (Nat.le_refl _) (Nat.le_refl _) (c_Mod_feedOne hA m3 (by simp only [List.length_append]; omega)) qV_nt (qV_go (fun i2 hp => ?_))
    obtain ⟨m4, f4⟩ := hp
    refine wf_aload_n dc_Mod_feed_74 rfl ?_
    refine wf_iload dc_Mod_feed_75 rfl ?_
    refine wf_iv1 (M' := mt_Mod_feedOne) (c := 8) dc_Mod_feed_77 tg_Mod_feedOne ml_Mod_110 im_Mod_feedOne se_Mod_feedOne ⟨_, rfl, rfl⟩ (by assumption) (Nat.le_of_ble_eq_true rfl) (Nat.le_refl _) (Nat.le_refl _) (c_Mod_feedOne hA m4 (by simp only [List.length_append]; omega)) qV_nt (qV_go (fun i2 hp => ?_))
    obtain ⟨m5, f5⟩ := hp
    have he : w ++ ws_of a1 ++ ws_of a2 ++ ws_of a3 ++ ws_of a4 ++ ws_of a5 = w ++ fe_of a1 a2 a3 a4 a5 := by
      unfold fe_of
      simp only [List.append_assoc]
    rw [he] at m5
    have ff := mf_ss (mf_ss (mf_ss (mf_ss f1 f2) f3) f4) f5
    refine wf_aload_n dc_Mod_feed_80 rfl ?_
    refine wf_getr dc_Mod_feed_81 fl_Mod_13 rfl (by assumption) (by assumption) ?_
    refine wf_iconst 0 dc_Mod_feed_84 (by decide) ?_
    refine wf_iaload (y := 0) dc_Mod_feed_85 rfl (by assumption) (vp_in_nI (n := 0) (by omega) (by omega)) ?_
    rw [show i2 (m + 2) (Int32.toNatClampNeg 0) = nI (w ++ fe_of a1 a2 a3 a4 a5).length from m5.1]
    refine wf_ireturn rfl dc_Mod_feed_86 ⟨_, rfl, rfl, rfl, rfl, rfl, ?_⟩
    dsimp only
    rw [if_pos hf]
    exact ⟨rfl, (ff.at (by simp [ms_no, mr_S])).trans wf_up_s, m5, mf_tr f0 ff⟩
  · refine wf_icmp_gt 43 dc_Mod_feed_36 (by decide) (fun hc => ?_) (fun hc => absurd ((nI_ltI (a := 120) (by omega) (by omega)).mpr (by omega)) hc)
    refine wf_iconst 0 dc_Mod_feed_43 (by decide) ?_
    refine wf_iconst 1 dc_Mod_feed_44 (by decide) ?_
    refine wf_iv2 (M' := mt_Mod_goes) (c := 8) dc_Mod_feed_45 tg_Mod_goes ml_Mod_106 im_Mod_goes se_Mod_goes ⟨_, rfl, rfl⟩ (by assumption) (Nat.le_of_ble_eq_true rfl) (Nat.le_refl _) (Nat.le_refl _) (c_Mod_goes (a := false) (c := true) hA) qI_nt (qI_go (fun x2 i2 hp => ?_))
    obtain ⟨rfl, rfl⟩ := hp
    refine wf_if_ne 53 dc_Mod_feed_48 (by decide) (fun hc => absurd rfl hc) (fun hc => ?_)
    refine wf_iconst 0 dc_Mod_feed_51 (by decide) ?_
    refine wf_ireturn rfl dc_Mod_feed_52 ⟨_, rfl, rfl, rfl, rfl, rfl, ?_⟩
    dsimp only
    rw [if_neg hf]
    rfl
theorem c_Mod_clear {w : List Int32} (hA : mo_at t r m) (hw : mr i m 0 w) : Ct l E n0 mt_Mod_clear d 0 0 [.ref (m + 0)] nx t r i g (qI nx t r g (fun z i' => z = nI w.length ∧ i' (m + 0) 0 = 0 ∧ mr i' m 0 [] ∧ mf m [(0, 0, 1), (2, 0, 1)] i i')) := by
  have t0 := hA.1.1
  have r2 : r (m + 0) 2 = some (m + 2) := hA.2 (0, 2, 2) (by decide +kernel)
  have t2 := hA.1.2 2 (2, .inr (0, 9)) (by decide +kernel)
  refine Ct.of (by decide) (Nat.le_of_ble_eq_true rfl) ?_
  refine wf_aload_n dc_Mod_clear_0 rfl ?_
  refine wf_iconst 0 dc_Mod_clear_1 (by decide) ?_
  refine wf_puti dc_Mod_clear_2 fl_Mod_99 (Or.inl nf_Mod_0) rfl rfl rfl (by assumption) ?_
  refine wf_aload_n dc_Mod_clear_5 rfl ?_
  refine wf_getr dc_Mod_clear_6 fl_Mod_13 rfl (by assumption) (by assumption) ?_
  refine wf_iconst 0 dc_Mod_clear_9 (by decide) ?_
  refine wf_iaload (y := 0) dc_Mod_clear_10 rfl (by assumption) (vp_in_nI (n := 0) (by omega) (by omega)) ?_
  rw [show wf_up i (m + 0) 0 0 (m + 2) (Int32.toNatClampNeg 0) = nI w.length from (wf_up_a (by omega)).trans hw.1]
  refine wf_istore_n dc_Mod_clear_11 (by decide) ?_
  refine wf_aload_n dc_Mod_clear_12 rfl ?_
  refine wf_getr dc_Mod_clear_13 fl_Mod_13 rfl (by assumption) (by assumption) ?_
  refine wf_iconst 0 dc_Mod_clear_16 (by decide) ?_
  refine wf_iconst 0 dc_Mod_clear_17 (by decide) ?_
  refine wf_iastore (y := 0) dc_Mod_clear_18 rfl (by decide) (by assumption) (vp_in_nI (n := 0) (by omega) (by omega)) ?_
  refine wf_iload_n dc_Mod_clear_19 rfl ?_
  exact wf_ireturn rfl dc_Mod_clear_20 ⟨_, rfl, rfl, rfl, rfl, rfl, rfl, (wf_up_a (by omega)).trans wf_up_s, ⟨wf_up_s, mz_nil⟩, mf_up (mf_up mf_rf ⟨(0, 0, 1), by simp, rfl, by decide, by decide⟩) ⟨(2, 0, 1), by simp, rfl, by decide, by decide⟩⟩
end
