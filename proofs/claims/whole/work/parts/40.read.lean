/-! class Reader: read, exchange -/
def rd_fi (a : Nat) (V : Nat → Nat) : List Nat := [a, V 0, V 1, V 2, V 6, V 3, V 11]
def rd_fg (V : Nat → Nat) : List Nat := [V 4, V 5, V 7, V 8, V 9, V 10]
section
variable {l : Launch} {E : We} {n0 d nx : Nat} {t : Wt} {r : Wr} {i : Wi} {g : Wl}
theorem wt_bn2 (b : Bool) : narrow .boolean (.int (wt_b b)) = .int (wt_b b) := by cases b <;> rfl
/-- what holds when u kinds of place are weighed -/
def ra_q (i : Wi) (g0 : Wl) (gg : Wl) (a : Nat) (V : Nat → Nat) (N : RdN) (A : RdA) (w u : Nat) (i1 : Wi) (g1 : Wl) : Prop := rn_is i1 V N ∧ i1 (V 6) 5 = nI A.length ∧ i1 a 6 = nI N.length ∧ i1 a 10 = -1 ∧ (∀ x, g1 (V 7) x = g0 (V 7) x) ∧ (∀ j, j < A.length → ∀ b, lb (g1 (V 8) j) b = true ↔ (0 < u ∧ fo_of N N.length j b)) ∧ (∀ v, v < u → i1 (V 11) v = wt_b (wt_v (wt_all v N) w).1 ∧ g1 (V 9) v = (wt_v (wt_all v N) w).2.1 ∧ g1 (V 10) v = (wt_v (wt_all v N) w).2.2) ∧ fr_is (rd_fi a V) i i1 ∧ fr_is (rd_fg V) gg g1
theorem c_Rdr_read {a n : Nat} {V : Nat → Nat} {S : List Int32} (hA : rd_at t (wf_up r a 8 (some (V 12))) a V n) (hw : rw_is i (V 12) (V 13) S) (hl : S.length ≤ 60) (hS : sg_ok S) : Ct l E n0 mt_Rdr_read (d + 46) 0 0 [.ref a, .ref (V 12)] nx t r i g (qIl nx t (wf_up r a 8 (some (V 12))) (fun z i' g' => (match ps_read S with
    | .inl e => z = nI e
    | .inr _ => z = -1 ∧ ex_is t (wf_up r a 8 (some (V 12))) i' g' (V 6) (ps_rel S)) ∧ fr_is (rd_fi a V) i i' ∧ fr_is (rd_fg V) g g')) := by
  have hA' := hA
  obtain ⟨n1, n2, n3, n4, n5, n6⟩ := rd_ne hA
  obtain ⟨x1, x2, x3, x4, x5, x6, x7, x8, x9⟩ := rd_ne3 hA
  have hAx := hA
  obtain ⟨ha, hr, r7, r8, hT3, t3, t4, t5, hEx, ⟨tb, rb, ts, -⟩, hn, v01, v02, v12, v45, v910⟩ := hA
  have r3 := hr 3 (by omega) (by omega) (by omega) (by omega)
  have r4 := hr 4 (by omega) (by omega) (by omega) (by omega)
  have r5 := hr 5 (by omega) (by omega) (by omega) (by omega)
  have hEx' := hEx
  obtain ⟨e1, ⟨er7, et7⟩, ⟨er8, et8⟩, ⟨er9, et9⟩, ⟨er10, et10⟩, ⟨er11, et11⟩, h78⟩ := hEx
  have ne : ∀ {x y : Nat} {u v : Nat ⊕ (Nat × Nat)}, t x = some u → t y = some v → u ≠ v → x ≠ y := fun hx hy hn q => by
    rw [q, hy] at hx
    exact hn (Option.some.inj hx).symm
  have y11 : ∀ k, k < 3 → V 11 ≠ V k := fun k hk => ne et11 (hT3 k hk) (by intro q; cases q)
  have y11a : V 11 ≠ a := ne et11 ha (by intro q; cases q)
  have y11b : V 11 ≠ V 6 := ne et11 e1 (by intro q; cases q)
  have y97 : V 9 ≠ V 7 := ne et9 et7 (by intro q; cases q)
  have y107 : V 10 ≠ V 7 := ne et10 et7 (by intro q; cases q)
  have y98 : V 9 ≠ V 8 := ne et9 et8 (by intro q; cases q)
  have y108 : V 10 ≠ V 8 := ne et10 et8 (by intro q; cases q)
  refine Ct.of (by decide) (Nat.le_of_ble_eq_true rfl) ?_
  refine wf_aload_n dc_Rdr_read_0 rfl ?_
  refine wf_aload_n dc_Rdr_read_1 rfl ?_
  refine wf_putr dc_Rdr_read_2 fl_Rdr_44 (Or.inl nf_Rdr_8) rfl rfl rfl (by assumption) ?_
  refine wf_aload_n dc_Rdr_read_5 rfl ?_
  refine wf_iconst 0 dc_Rdr_read_6 (by decide) ?_
  refine wf_puti dc_Rdr_read_7 fl_Rdr_48 (Or.inl nf_Rdr_9) rfl rfl rfl (by assumption) ?_
  refine wf_aload_n dc_Rdr_read_10 rfl ?_
  refine wf_iconst (-1) dc_Rdr_read_11 (by decide) ?_
  refine wf_puti dc_Rdr_read_12 fl_Rdr_52 (Or.inl nf_Rdr_10) rfl rfl rfl (by assumption) ?_
  refine wf_aload_n dc_Rdr_read_15 rfl ?_
  refine wf_iconst 0 dc_Rdr_read_16 (by decide) ?_
  refine wf_puti dc_Rdr_read_17 fl_Rdr_55 (Or.inl nf_Rdr_6) rfl rfl rfl (by assumption) ?_
  obtain ⟨w1, w2⟩ := hw
  have f0 : fr_is [a] i (wf_up (wf_up (wf_up i a 9 0) a 10 (-1)) a 6 0) := fr_up (fr_up (fr_up fr_rf (by simp)) (by simp)) (by simp)
  have q9 : wf_up (wf_up (wf_up i a 9 0) a 10 (-1)) a 6 0 a 9 = 0 := by rw [wf_up_k (by decide), wf_up_k (by decide), wf_up_s]
  have q10 : wf_up (wf_up (wf_up i a 9 0) a 10 (-1)) a 6 0 a 10 = -1 := by rw [wf_up_k (by decide), wf_up_s]
  have q6 : wf_up (wf_up (wf_up i a 9 0) a 10 (-1)) a 6 0 a 6 = 0 := wf_up_s
  revert f0 q9 q10 q6
  generalize wf_up (wf_up (wf_up i a 9 0) a 10 (-1)) a 6 0 = i0
  intro f0 q9 q10 q6
  refine wf_aload_n dc_Rdr_read_20 rfl ?_
  refine wf_getr dc_Rdr_read_21 fl_Rdr_35 rfl (by assumption) (by assumption) ?_
  refine wf_iv0 (M' := mt_Exp_drop) (c := 2) dc_Rdr_read_24 tg_Exp_drop ml_Rdr_58 im_Exp_drop se_Exp_drop ⟨_, rfl, rfl⟩ (by assumption) (Nat.le_of_ble_eq_true rfl) (Nat.le_refl _) (Nat.le_refl _) (c_Exp_drop hEx') qVl_nt (qVl_go (fun i2 g2 hp => ?_))
  obtain ⟨d1, d2, d3, d4, d5⟩ := hp
  have hI : rd_is i2 g2 a V S 0 none [] [] := by
    refine ⟨⟨?_, fun j hj => ?_⟩, hl, ⟨?_, Nat.zero_le _⟩, ⟨?_, fun f hf => by cases hf⟩, ⟨?_, Nat.zero_le _⟩, fun k hk => absurd hk (Nat.not_lt_zero _), ⟨d1, Nat.zero_le _⟩, fun x hx k => ?_⟩
    · rw [d4 _ (by simp [n4]), f0 _ (by simp [n3])]; exact w1
    · rw [d4 _ (by simp [n6]), f0 _ (by simp [n5])]; exact w2 j hj
    · rw [d4 _ (by simp [n2])]; exact q9
    · rw [d4 _ (by simp [n2])]; exact q10
    · rw [d4 _ (by simp [n2])]; exact q6
    · rw [d2 x hx, lb_0]
      exact ⟨fun z => (by cases z), fun z => absurd z.1 (Nat.not_lt_zero _)⟩
  have fI : fr_is (rd_fi a V) i i2 := fr_mo (fr_tr f0 d4) (by simp [rd_fi])
  have fG : fr_is (rd_fg V) g g2 := fr_mo d5 (by simp [rd_fg])
  refine wf_aload_n dc_Rdr_read_27 rfl ?_
  refine wf_iconst 0 dc_Rdr_read_28 (by decide) ?_
  refine wf_iv1 (M' := mt_Rdr_alternation) (c := 4) dc_Rdr_read_29 tg_Rdr_alternation ml_Rdr_61 im_Rdr_alternation se_Rdr_alternation ⟨_, rfl, rfl⟩ (by assumption) (Nat.le_of_ble_eq_true rfl) (Nat.le_refl _) (Nat.le_refl _) (k_Rdr_alternation hAx hI hS) qIl_nt (qIl_go (fun x2 i2 g2 hp => ?_))
  obtain ⟨hp, a4, a5⟩ := hp
  have fI2 : fr_is (rd_fi a V) i i2 := fr_ss fI (fr_mo a4 (by simp [rd_fi, rd_fp]))
  have fG2 : fr_is (rd_fg V) g g2 := fr_ss fG (fr_mo a5 (by simp [rd_fg]))
  have fl8 : ∀ j, j < 60 → g2 (V 8) j = 0 := fun j hj => by
    rw [a5 _ (by simp [(x9 7 (by omega)).symm])]
    exact d3 j hj
  have flt : ∀ (i3 : Wi) (g3 : Wl) (e : Nat) (N' : RdN) (A' : RdA) (x : Int32), rd_is i3 g3 a V S S.length (some e) N' A' → fr_is (rd_fi a V) i i3 → fr_is (rd_fg V) g g3 → ps_read S = .inl e → Wf l E n0 mt_Rdr_read (d + 46) 0 0 (qIl nx t (wf_up r a 8 (some (V 12))) (fun z i' g' => (match ps_read S with
    | .inl e => z = nI e
    | .inr _ => z = -1 ∧ ex_is t (wf_up r a 8 (some (V 12))) i' g' (V 6) (ps_rel S)) ∧ fr_is (rd_fi a V) i i' ∧ fr_is (rd_fg V) g g')) 0 0 52 [(0, .ref a), (1, .ref (V 12)), (2, .int x)] [] nx t (wf_up r a 8 (some (V 12))) i3 g3 := by
    intro i3 g3 e N' A' x hI3 hf3 hg3 he
    obtain ⟨-, -, -, ⟨h10, hfa⟩, -⟩ := hI3
    have hle := hfa e rfl
    refine wf_aload_n dc_Rdr_read_52 rfl ?_
    refine wf_geti dc_Rdr_read_53 fl_Rdr_52 rfl (by assumption) ?_
    rw [h10]
    refine wf_iconst (-1) dc_Rdr_read_56 (by decide) ?_
    refine wf_icmp_ne 123 dc_Rdr_read_57 (by decide) (fun hc => ?_) (fun hc => absurd hc.symm (mx_m1 (by omega)))
    refine wf_aload_n dc_Rdr_read_123 rfl ?_
    refine wf_geti dc_Rdr_read_124 fl_Rdr_52 rfl (by assumption) ?_
    rw [h10]
    refine wf_ireturn rfl dc_Rdr_read_127 ⟨_, rfl, rfl, rfl, rfl, ?_, hf3, hg3⟩
    rw [he]
    rfl
  have hrd : ps_read S = match ps_alt S (ps_grp S 10) 0 [] [] with
    | .inl e => .inl e
    | .inr (w, p, N, A) => if p < S.length then .inl p else .inr (w, N, A) := rfl
  revert hp hrd
  cases ps_alt S (ps_grp S 10) 0 [] [] with
  | inl e =>
    rintro ⟨wv, N', A', rfl, hI3⟩ hrd
    have h9 := hI3.2.2.1.1
    have h12 := hI3.1.1
    refine wf_istore_n dc_Rdr_read_32 (by decide) ?_
    refine wf_aload_n dc_Rdr_read_33 rfl ?_
    refine wf_geti dc_Rdr_read_34 fl_Rdr_48 rfl (by assumption) ?_
    rw [h9]
    refine wf_aload_n dc_Rdr_read_37 rfl ?_
    refine wf_getr dc_Rdr_read_38 fl_Rdr_44 rfl (by assumption) (by assumption) ?_
    refine wf_geti dc_Rdr_read_41 fl_Rdr_65 rfl (by assumption) ?_
    rw [h12]
    refine wf_icmp_ge 52 dc_Rdr_read_44 (by decide) (fun hc => ?_) (fun hc => absurd ((nI_leI (by omega) (by omega)).mpr (Nat.le_refl _)) hc)
    exact Wf.to (by exact ⟨rfl, rfl, rfl, trivial⟩) (flt _ _ e N' A' _ hI3 fI2 fG2 hrd)
  | inr q =>
    obtain ⟨wv, p, N, A⟩ := q
    rintro ⟨rfl, hI3⟩ hrd
    have h9 := hI3.2.2.1.1
    have h12 := hI3.1.1
    have hpS := hI3.2.2.1.2
    simp only at hrd
    refine wf_istore_n dc_Rdr_read_32 (by decide) ?_
    refine wf_aload_n dc_Rdr_read_33 rfl ?_
    refine wf_geti dc_Rdr_read_34 fl_Rdr_48 rfl (by assumption) ?_
    rw [h9]
    refine wf_aload_n dc_Rdr_read_37 rfl ?_
    refine wf_getr dc_Rdr_read_38 fl_Rdr_44 rfl (by assumption) (by assumption) ?_
    refine wf_geti dc_Rdr_read_41 fl_Rdr_65 rfl (by assumption) ?_
    rw [h12]
    by_cases hpl : p < S.length
    · rw [if_pos hpl] at hrd
      refine wf_icmp_ge 52 dc_Rdr_read_44 (by decide) (fun hc => absurd ((nI_leI (by omega) (by omega)).mp hc) (by omega)) (fun hc => ?_)
      refine wf_aload_n dc_Rdr_read_47 rfl ?_
      refine wf_iv0 (M' := mt_Rdr_refuse) (c := 4) dc_Rdr_read_48 tg_Rdr_refuse ml_Rdr_68 im_Rdr_refuse se_Rdr_refuse ⟨_, rfl, rfl⟩ (by assumption) (Nat.le_of_ble_eq_true rfl) (Nat.le_refl _) (Nat.le_refl _) (c_Rdr_refuse hAx hI3) qIl_nt (qIl_go (fun x2 i2 g2 hp => ?_))
      refine wf_pop dc_Rdr_read_51 rfl ?_
      obtain ⟨⟨rfl, hI4⟩, hf8, hf9⟩ := hp
      exact Wf.to (by exact ⟨rfl, rfl, rfl, trivial⟩) (flt _ _ p N A _ hI4 (fr_ss fI2 (fr_mo hf8 (by simp [rd_fi, rd_fp]))) (fr_ss fG2 (fr_mo hf9 (by simp [rd_fg]))) hrd)
    · rw [if_neg hpl] at hrd
      refine wf_icmp_ge 52 dc_Rdr_read_44 (by decide) (fun hc => ?_) (fun hc => absurd ((nI_leI (by omega) (by omega)).mpr (by omega)) hc)
      obtain ⟨hok, hw0, hAS⟩ := ps_read_ok hrd
      obtain ⟨-, -, -, ⟨h10, -⟩, ⟨h6, h6'⟩, hN, ⟨h5, h5'⟩, hTk⟩ := hI3
      refine wf_aload_n dc_Rdr_read_52 rfl ?_
      refine wf_geti dc_Rdr_read_53 fl_Rdr_52 rfl (by assumption) ?_
      rw [h10]
      refine wf_iconst (-1) dc_Rdr_read_56 (by decide) ?_
      refine wf_icmp_ne 123 dc_Rdr_read_57 (by decide) (fun hc => absurd rfl hc) (fun hc => ?_)
      refine wf_iconst 0 dc_Rdr_read_60 (by decide) ?_
      refine wf_istore_n dc_Rdr_read_61 (by decide) ?_
      have loop : ∀ (k u : Nat) (i3 : Wi) (g3 : Wl), u + k = 4 → ra_q i g2 g a V N A wv u i3 g3 → Wf l E n0 mt_Rdr_read (d + 46) 0 0 (qIl nx t (wf_up r a 8 (some (V 12))) (fun z i' g' => (match ps_read S with
          | .inl e => z = nI e
          | .inr _ => z = -1 ∧ ex_is t (wf_up r a 8 (some (V 12))) i' g' (V 6) (ps_rel S)) ∧ fr_is (rd_fi a V) i i' ∧ fr_is (rd_fg V) g g')) 0 0 62 [(0, .ref a), (1, .ref (V 12)), (2, .int (nI wv)), (3, .int (nI u))] [] nx t (wf_up r a 8 (some (V 12))) i3 g3 := by
        intro k
        induction k with
        | zero =>
          intro u i3 g3 hu hq
          obtain ⟨b1, b2, b3, b4, b5, b6, b7, b8, b9⟩ := hq
          refine wf_iload_n dc_Rdr_read_62 rfl ?_
          refine wf_iconst 4 dc_Rdr_read_63 (by decide) ?_
          refine wf_icmp_ge 123 dc_Rdr_read_64 (by decide) (fun hc => ?_) (fun hc => absurd ((nI_leI (a := 4) (by omega) (by omega)).mpr (by omega)) hc)
          refine wf_aload_n dc_Rdr_read_123 rfl ?_
          refine wf_geti dc_Rdr_read_124 fl_Rdr_52 rfl (by assumption) ?_
          rw [b4]
          refine wf_ireturn rfl dc_Rdr_read_127 ⟨_, rfl, rfl, rfl, rfl, ?_, b8, b9⟩
          rw [hrd]
          refine ⟨rfl, V 7, V 8, V 9, V 10, V 11, A.length, hEx', b2, by omega, ?_⟩
          refine ex_A_rel hrd hl (fun x hx j => ?_) (fun j hj b => ?_) (fun v hv => (b7 v (by omega)).2.1) (fun v hv => (b7 v (by omega)).2.2) (fun v hv => (b7 v (by omega)).1)
          · rw [b5 x]
            exact hTk x hx j
          · rw [b6 j hj b]
            exact ⟨fun z => z.2, fun z => ⟨by omega, z⟩⟩
        | succ k ih =>
          intro u i3 g3 hu hq
          obtain ⟨b1, b2, b3, b4, b5, b6, b7, b8, b9⟩ := hq
          refine wf_iload_n dc_Rdr_read_62 rfl ?_
          refine wf_iconst 4 dc_Rdr_read_63 (by decide) ?_
          refine wf_icmp_ge 123 dc_Rdr_read_64 (by decide) (fun hc => absurd ((nI_leI (a := 4) (by omega) (by omega)).mp hc) (by omega)) (fun hc => ?_)
          refine wf_aload_n dc_Rdr_read_67 rfl ?_
          refine wf_iload_n dc_Rdr_read_68 rfl ?_
          refine wf_iv1 (M' := mt_Rdr_weighAll) (c := 4) dc_Rdr_read_69 tg_Rdr_weighAll ml_Rdr_72 im_Rdr_weighAll se_Rdr_weighAll ⟨_, rfl, rfl⟩ (by assumption) (Nat.le_of_ble_eq_true rfl) (Nat.le_refl _) (Nat.le_refl _) (c_Rdr_weighAll hAx b2 (by omega) b3 b1 hok (show u < 4 by omega)) qVl_nt (qVl_go (fun i2 g2 hp => ?_))
          obtain ⟨c1, c2, c3, c4, c5⟩ := hp
          obtain ⟨z1, z2, z3⟩ := c1 wv (by rw [wt_len]; omega)
          have inw : vp_in (nI wv) 121 := vp_in_nI (by omega) (by omega)
          have inu : vp_in (nI u) 4 := vp_in_nI (by omega) (by omega)
          have cw : (nI wv).toNatClampNeg = wv := nI_clamp (by omega)
          have cu : (nI u).toNatClampNeg = u := nI_clamp (by omega)
          refine wf_aload_n dc_Rdr_read_72 rfl ?_
          refine wf_getr dc_Rdr_read_73 fl_Rdr_35 rfl (by assumption) (by assumption) ?_
          refine wf_getr dc_Rdr_read_76 fl_Rdr_75 rfl (by assumption) (by assumption) ?_
          refine wf_iload_n dc_Rdr_read_79 rfl ?_
          refine wf_aload_n dc_Rdr_read_80 rfl ?_
          refine wf_getr dc_Rdr_read_81 fl_Rdr_21 rfl (by assumption) (by assumption) ?_
          refine wf_iload_n dc_Rdr_read_84 rfl ?_
          refine wf_zaload (y := 1) dc_Rdr_read_85 rfl (by assumption) (inw) ?_
          rw [cw, z1]
          refine wf_zastore (y := 1) dc_Rdr_read_86 rfl (by decide) (wt_bn2 _) (by assumption) (inu) ?_
          rw [cu]
          refine wf_aload_n dc_Rdr_read_87 rfl ?_
          refine wf_getr dc_Rdr_read_88 fl_Rdr_35 rfl (by assumption) (by assumption) ?_
          refine wf_getr dc_Rdr_read_91 fl_Rdr_78 rfl (by assumption) (by assumption) ?_
          refine wf_iload_n dc_Rdr_read_94 rfl ?_
          refine wf_aload_n dc_Rdr_read_95 rfl ?_
          refine wf_getr dc_Rdr_read_96 fl_Rdr_25 rfl (by assumption) (by assumption) ?_
          refine wf_iload_n dc_Rdr_read_99 rfl ?_
          refine wf_laload (y := 2) dc_Rdr_read_100 rfl (by assumption) (inw) ?_
          rw [cw, z2]
          refine wf_lastore (y := 2) dc_Rdr_read_101 rfl (by decide) (by assumption) (inu) ?_
          rw [cu]
          refine wf_aload_n dc_Rdr_read_102 rfl ?_
          refine wf_getr dc_Rdr_read_103 fl_Rdr_35 rfl (by assumption) (by assumption) ?_
          refine wf_getr dc_Rdr_read_106 fl_Rdr_79 rfl (by assumption) (by assumption) ?_
          refine wf_iload_n dc_Rdr_read_109 rfl ?_
          refine wf_aload_n dc_Rdr_read_110 rfl ?_
          refine wf_getr dc_Rdr_read_111 fl_Rdr_29 rfl (by assumption) (by assumption) ?_
          refine wf_iload_n dc_Rdr_read_114 rfl ?_
          refine wf_laload (y := 2) dc_Rdr_read_115 rfl (by assumption) (inw) ?_
          rw [cw, wf_up_a (x8 9 (by omega)).2.symm, z3]
          refine wf_lastore (y := 2) dc_Rdr_read_116 rfl (by decide) (by assumption) (inu) ?_
          rw [cu]
          refine wf_iinc _ dc_Rdr_read_117 rfl (nI_1 u) (by decide) ?_
          refine wf_goto 62 dc_Rdr_read_120 (by decide) ?_
          have fi3 : fr_is [V 3, V 11] i3 (wf_up i2 (V 11) u (wt_b (wt_v (wt_pre u N N.length) wv).1)) := fr_up (fr_mo c2 (by simp)) (by simp)
          have fg3 : fr_is [V 4, V 5, V 8, V 9, V 10] g3 (wf_up (wf_up g2 (V 9) u (wt_v (wt_pre u N N.length) wv).2.1) (V 10) u (wt_v (wt_pre u N N.length) wv).2.2) := fr_up (fr_up (fr_mo c3 (by simp)) (by simp)) (by simp)
          refine Wf.to (by exact ⟨rfl, rfl, rfl, rfl, trivial⟩) (ih (u + 1) _ _ (by omega) ⟨b1.fr fi3 (fun q hq => by simp [x1 q hq, (y11 q hq).symm]), (fi3 _ (by simp [x3, y11b.symm]) 5).trans b2, (fi3 _ (by simp [x2, y11a.symm]) 6).trans b3, (fi3 _ (by simp [x2, y11a.symm]) 10).trans b4, fun x => (fg3 _ (by simp [(x8 7 (by omega)).1, (x8 7 (by omega)).2, x9 7 (by omega), y97.symm, y107.symm]) x).trans (b5 x), fun j hj b => ?_, fun v hv => ?_, fr_ss b8 (fr_mo fi3 (by simp [rd_fi])), fr_ss b9 (fr_mo fg3 (by simp [rd_fg]))⟩)
          · rw [wf_up_a y108.symm, wf_up_a y98.symm]
            by_cases hu0 : u = 0
            · rw [c5 hu0 j hj b, b6 j hj b]
              constructor
              · rintro (z | z)
                · omega
                · exact ⟨by omega, z⟩
              · exact fun z => .inr z.2
            · rw [c4 hu0 j, b6 j hj b]
              exact ⟨fun z => ⟨by omega, z.2⟩, fun z => ⟨by omega, z.2⟩⟩
          · by_cases hvu : v = u
            · subst hvu
              rw [wf_up_s, wf_up_s, wf_up_a v910, wf_up_s]
              exact ⟨rfl, rfl, rfl⟩
            · simp only [wf_up_k hvu]
              rw [c2 _ (by simp [x4]), c3 (V 9) (by simp [(x8 9 (by omega)).1, (x8 9 (by omega)).2, y98]), c3 (V 10) (by simp [(x8 10 (by omega)).1, (x8 10 (by omega)).2, y108])]
              exact b7 v (by omega)
      refine Wf.to (by exact ⟨rfl, rfl, rfl, rfl, trivial⟩) (loop 4 0 _ _ rfl ⟨⟨h6', hN⟩, h5, h6, h10, fun _ => rfl, fun j hj b => ?_, fun v hv => absurd hv (Nat.not_lt_zero _), fI2, fG2⟩)
      rw [fl8 j (by omega), lb_0]
      exact ⟨fun z => (by cases z), fun z => absurd z.1 (Nat.lt_irrefl _)⟩
theorem c_Rdr_exchange {a b c : Nat} (ha : t a = some (.inl 4)) (hr : r a 7 = some c) : Ct l E n0 mt_Rdr_exchange d 0 0 [.ref a, .ref b] nx t r i g (fun o nx' t' r' i' g' => o = .inl (some (.ref c)) ∧ nx' = nx ∧ t' = t ∧ r' = wf_up r a 7 (some b) ∧ i' = i ∧ g' = g) := by
  refine Ct.of (by decide) (Nat.le_of_ble_eq_true rfl) ?_
  refine wf_aload_n dc_Rdr_exchange_0 rfl ?_
  refine wf_getr dc_Rdr_exchange_1 fl_Rdr_35 rfl (by assumption) (by assumption) ?_
  refine wf_astore_n dc_Rdr_exchange_4 (by decide) ?_
  refine wf_aload_n dc_Rdr_exchange_5 rfl ?_
  refine wf_aload_n dc_Rdr_exchange_6 rfl ?_
  refine wf_putr dc_Rdr_exchange_7 fl_Rdr_35 (Or.inl nf_Rdr_7) rfl rfl rfl (by assumption) ?_
  refine wf_aload_n dc_Rdr_exchange_10 rfl ?_
  exact wf_areturn rfl (Or.inl ⟨_, rfl⟩) dc_Rdr_exchange_11 ⟨rfl, rfl, rfl, rfl, rfl, rfl⟩
end
