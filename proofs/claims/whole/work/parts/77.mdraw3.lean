/-! the reference: draw, from its first sign to its last -/
def gd_ok (i : Wi) (m b : Nat) (T : List Int32) : Prop := ∃ (P : Nat) (G : List Ed), i (m + 0) 26 = nI P ∧ 3 ≤ P ∧ P ≤ 400 ∧ g_is i m b G ∧ G.length ≤ 800 ∧ (∀ q ∈ G, q.1 < P ∧ q.2.1 < P ∧ ed_v T q) ∧ ∀ v s e, gR (at_m T) G v 0 s 1 e ↔ ps_rel T v s e
theorem nI_any (x : Int32) : ∃ n : Nat, x = nI n := ⟨x.toBitVec.toNat, Int32.toBitVec_inj.mp (by simp [nI])⟩
section
variable {l : Launch} {E : We} {n0 d nx : Nat} {t : Wt} {r : Wr} {i i1 i2 : Wi} {g : Wl} {m : Nat} {S : Ms}
theorem dr_go {b : Nat} {T : List Int32} {Q : Wq} (hA : mo_at t r m) (hT : mS i m b T) (hb : b ≤ 300) (h60 : T.length ≤ 60) (hz : ∀ q, q < T.length → nx_of T q ≠ 0) {v : DrS} (hk : ∀ i1, dr_is i1 m b v → mf m dr_S i i1 → dr_inv T v → Wf l E n0 mt_Mod_draw (d + 2) 0 0 Q 0 0 67 (dr_L m b T.length v) [] nx t r i1 g) (n : Nat) : ∀ u, dn T n u v → dr_inv T u → ∀ i1, dr_is i1 m b u → mf m dr_S i i1 → Wf l E n0 mt_Mod_draw (d + 2) 0 0 Q 0 0 67 (dr_L m b T.length u) [] nx t r i1 g := by
  induction n with
  | zero =>
    intro u h hv i1 h1 h2
    cases h
    exact hk i1 h1 h2 hv
  | succ n ih =>
    rintro ⟨P, G, bg, cl, ou, dp, a, pc, pl⟩ ⟨h1, u1, h2, h3⟩ hv
    have h2' : dr_st T P G bg cl ou dp a pc pl = .inr u1 := h2
    refine dr_java hA hT hb h60 hz hv h1 (fun e he => ?_) (fun w hw => ?_)
    · rw [h2'] at he; cases he
    · rw [h2'] at hw
      cases hw
      exact ih u1 h3 (dr_inv_st hv h1 h2')
theorem c_Mod_draw {k : Nat} {T : List Int32} (hA : mo_at t r m) (hx : mx i m k T) (hk : k < 6) (h60 : T.length ≤ 60) (hz : ∀ q, q < T.length → nx_of T q ≠ 0) : Ct l E n0 mt_Mod_draw (d + 2) 0 0 [.ref (m + 0), .int (nI k)] nx t r i g (qV nx t r g (fun i' => mf m dr_S i i' ∧ match ps_read T with
    | .inl e => i' (m + 0) 37 = nI e
    | .inr _ => i' (m + 0) 37 = -1 ∧ gd_ok i' m (60 * k) T)) := by
  have t0 := hA.1.1
  have r4 : r (m + 0) 4 = some (m + 4) := hA.2 (0, 4, 4) (by decide +kernel)
  have r34 : r (m + 0) 34 = some (m + 25) := hA.2 (0, 34, 25) (by decide +kernel)
  have r35 : r (m + 0) 35 = some (m + 26) := hA.2 (0, 35, 26) (by decide +kernel)
  have t4 := hA.1.2 4 (4, .inr (0, 6)) (by decide +kernel)
  have t25 := hA.1.2 25 (25, .inr (0, 12)) (by decide +kernel)
  have t26 := hA.1.2 26 (26, .inr (0, 12)) (by decide +kernel)
  have hT : mS i m (60 * k) T := fun j hj => hx.2 j hj
  generalize hQ : (qV nx t r g (fun i' => mf m dr_S i i' ∧ match ps_read T with
    | .inl e => i' (m + 0) 37 = nI e
    | .inr _ => i' (m + 0) 37 = -1 ∧ gd_ok i' m (60 * k) T)) = Q0
  have ne37 : ∀ e : Nat, e ≤ T.length → ¬ nI (60 * k + e) = -1 := fun e he z => mx_m1 (by omega) z.symm
  -- behind the last sign, with a fault
  have fin : ∀ (e : Nat) (i1 : Wi) (G1 : List Ed) (y5 : Int32), ps_read T = .inl e → e ≤ T.length → g_is i1 m (60 * k) G1 → G1.length < 800 → i1 (m + 0) 37 = nI (60 * k + e) → mf m dr_S i i1 → Wf l E n0 mt_Mod_draw (d + 2) 0 0 Q0 0 0 539 [(0, .ref (m + 0)), (2, .int (nI (60 * k))), (3, .int (nI (60 * k + T.length))), (5, .int y5)] [] nx t r i1 g := by
    intro e i1 G1 y5 hr he q1 q2 q3 q4
    obtain ⟨n5, rfl⟩ := nI_any y5
    refine wf_aload_n dc_Mod_draw_539 rfl ?_
    refine wf_iload dc_Mod_draw_540 rfl ?_
    refine wf_iconst 1 dc_Mod_draw_542 (by decide) ?_
    refine wf_iconst 0 dc_Mod_draw_543 (by decide) ?_
    refine wf_iconst 0 dc_Mod_draw_544 (by decide) ?_
    refine wf_iv4 (M' := mt_Mod_edge) (c := 8) dc_Mod_draw_545 tg_Mod_edge ml_Mod_134 im_Mod_edge se_Mod_edge ⟨_, rfl, rfl⟩ (by assumption) (Nat.le_of_ble_eq_true rfl) (Nat.le_refl _) (Nat.le_refl _) (c_Mod_edge (n5, 1, 0, 0) hA q1 q2 rfl rfl rfl rfl) qV_nt (qV_go (fun i2 hp => ?_))
    obtain ⟨⟨e1, e2⟩, e3⟩ := hp
    have f2 := (e2.at (c := 0) (k := 37) (by simp [ms_no])).trans q3
    refine wf_aload_n dc_Mod_draw_548 rfl ?_
    refine wf_aload_n dc_Mod_draw_549 rfl ?_
    refine wf_geti dc_Mod_draw_550 fl_Mod_120 rfl (by assumption) ?_
    refine wf_iconst (-1) dc_Mod_draw_553 (by decide) ?_
    rw [f2]
    refine wf_icmp_ne 561 dc_Mod_draw_554 (by decide) (fun hc => ?_) (fun hc => absurd hc (ne37 e he))
    refine wf_aload_n dc_Mod_draw_561 rfl ?_
    refine wf_geti dc_Mod_draw_562 fl_Mod_120 rfl (by assumption) ?_
    refine wf_iload_n dc_Mod_draw_565 rfl ?_
    refine wf_isub dc_Mod_draw_566 ?_
    rw [f2, pk_sub (by omega), Nat.add_sub_cancel_left]
    refine wf_puti dc_Mod_draw_567 fl_Mod_120 (Or.inl nf_Mod_37) rfl rfl rfl (by assumption) ?_
    refine wf_return rfl dc_Mod_draw_570 ?_
    rw [← hQ]
    refine ⟨rfl, rfl, rfl, rfl, rfl, dr_up (mf_ss q4 (ge_dr e2)) (Or.inl ⟨rfl, Or.inr rfl⟩), ?_⟩
    rw [hr]
    exact wf_up_s
  have finF : ∀ (e : Nat), ps_read T = .inl e → e ≤ T.length → ∀ (i1 : Wi) (G1 : List Ed) (y4 y5 : Int32), g_is i1 m (60 * k) G1 → G1.length < 800 → i1 (m + 0) 37 = nI (60 * k + e) → mf m dr_S i i1 → Wf l E n0 mt_Mod_draw (d + 2) 0 0 Q0 0 0 521 [(0, .ref (m + 0)), (2, .int (nI (60 * k))), (3, .int (nI (60 * k + T.length))), (4, .int y4), (5, .int y5)] [] nx t r i1 g := by
    intro e hr he i1 G1 y4 y5 q1 q2 q3 q4
    refine wf_aload_n dc_Mod_draw_521 rfl ?_
    refine wf_geti dc_Mod_draw_522 fl_Mod_120 rfl (by assumption) ?_
    refine wf_iconst (-1) dc_Mod_draw_525 (by decide) ?_
    rw [q3]
    refine wf_icmp_ne 539 dc_Mod_draw_526 (by decide) (fun hc => ?_) (fun hc => absurd hc (ne37 e he))
    exact Wf.to (by exact ⟨rfl, rfl, rfl, rfl, trivial⟩) (fin e i1 G1 y5 hr he q1 q2 q3 q4)
  refine Ct.of (by decide) (Nat.le_of_ble_eq_true rfl) ?_
  have ck : (nI k).toNatClampNeg = k := nI_clamp (by omega)
  refine wf_bipush 60 dc_Mod_draw_0 (by decide) ?_
  refine wf_iload_n dc_Mod_draw_2 rfl ?_
  refine wf_imul dc_Mod_draw_3 ?_
  rw [show (60 : Int32) * nI k = nI (60 * k) from pk_mul 60 k]
  refine wf_istore_n dc_Mod_draw_4 (by decide) ?_
  refine wf_iload_n dc_Mod_draw_5 rfl ?_
  refine wf_aload_n dc_Mod_draw_6 rfl ?_
  refine wf_getr dc_Mod_draw_7 fl_Mod_19 rfl (by assumption) (by assumption) ?_
  refine wf_iload_n dc_Mod_draw_10 rfl ?_
  refine wf_iaload (y := 0) dc_Mod_draw_11 rfl (by assumption) (vp_in_nI (by omega) (by omega)) ?_
  refine wf_iadd dc_Mod_draw_12 ?_
  rw [ck, hx.1, nI_add]
  refine wf_istore_n dc_Mod_draw_13 (by decide) ?_
  refine wf_aload_n dc_Mod_draw_14 rfl ?_
  refine wf_iconst 2 dc_Mod_draw_15 (by decide) ?_
  refine wf_puti dc_Mod_draw_16 fl_Mod_114 (Or.inl nf_Mod_26) rfl rfl rfl (by assumption) ?_
  refine wf_aload_n dc_Mod_draw_19 rfl ?_
  refine wf_iconst 0 dc_Mod_draw_20 (by decide) ?_
  refine wf_puti dc_Mod_draw_21 fl_Mod_117 (Or.inl nf_Mod_27) rfl rfl rfl (by assumption) ?_
  refine wf_aload_n dc_Mod_draw_24 rfl ?_
  refine wf_iconst (-1) dc_Mod_draw_25 (by decide) ?_
  refine wf_puti dc_Mod_draw_26 fl_Mod_120 (Or.inl nf_Mod_37) rfl rfl rfl (by assumption) ?_
  refine wf_iconst 0 dc_Mod_draw_29 (by decide) ?_
  refine wf_istore dc_Mod_draw_30 (by decide) ?_
  refine wf_aload_n dc_Mod_draw_32 rfl ?_
  refine wf_getr dc_Mod_draw_33 fl_Mod_90 rfl (by assumption) (by assumption) ?_
  refine wf_iconst 0 dc_Mod_draw_36 (by decide) ?_
  refine wf_iconst 0 dc_Mod_draw_37 (by decide) ?_
  refine wf_iastore (y := 0) dc_Mod_draw_38 rfl (by decide) (by assumption) (vp_in_nI (n := 0) (by omega) (by omega)) ?_
  refine wf_aload_n dc_Mod_draw_39 rfl ?_
  refine wf_getr dc_Mod_draw_40 fl_Mod_93 rfl (by assumption) (by assumption) ?_
  refine wf_iconst 0 dc_Mod_draw_43 (by decide) ?_
  refine wf_iconst 1 dc_Mod_draw_44 (by decide) ?_
  refine wf_iastore (y := 0) dc_Mod_draw_45 rfl (by decide) (by assumption) (vp_in_nI (n := 0) (by omega) (by omega)) ?_
  have s0 : mf m dr_S i (wf_up (wf_up (wf_up (wf_up (wf_up i (m + 0) 26 2) (m + 0) 27 0) (m + 0) 37 (-1)) (m + 25) (Int32.toNatClampNeg 0) 0) (m + 26) (Int32.toNatClampNeg 0) 1) := dr_up (dr_up (dr_up (mf_up (dr_up mf_rf (Or.inl ⟨rfl, Or.inl rfl⟩)) ⟨(0, 26, 28), by simp [dr_S], rfl, by decide, by decide⟩) (Or.inl ⟨rfl, Or.inr rfl⟩)) (Or.inr ⟨by omega, by omega, by decide⟩)) (Or.inr ⟨by omega, by omega, by decide⟩)
  have p0 : wf_up (wf_up (wf_up (wf_up (wf_up i (m + 0) 26 2) (m + 0) 27 0) (m + 0) 37 (-1)) (m + 25) (Int32.toNatClampNeg 0) 0) (m + 26) (Int32.toNatClampNeg 0) 1 (m + 0) 26 = nI 2 := by
    rw [wf_up_a (by omega), wf_up_a (by omega), wf_up_k (by decide), wf_up_k (by decide)]; exact wf_up_s
  have g0 : g_is (wf_up (wf_up (wf_up (wf_up (wf_up i (m + 0) 26 2) (m + 0) 27 0) (m + 0) 37 (-1)) (m + 25) (Int32.toNatClampNeg 0) 0) (m + 26) (Int32.toNatClampNeg 0) 1) m (60 * k) [] := ⟨by
    rw [wf_up_a (by omega), wf_up_a (by omega), wf_up_k (by decide)]; exact wf_up_s, fun j hj => absurd hj (Nat.not_lt_zero _)⟩
  have f0 : wf_up (wf_up (wf_up (wf_up (wf_up i (m + 0) 26 2) (m + 0) 27 0) (m + 0) 37 (-1)) (m + 25) (Int32.toNatClampNeg 0) 0) (m + 26) (Int32.toNatClampNeg 0) 1 (m + 0) 37 = -1 := by
    rw [wf_up_a (by omega), wf_up_a (by omega)]; exact wf_up_s
  have l0 : lvl (wf_up (wf_up (wf_up (wf_up (wf_up i (m + 0) 26 2) (m + 0) 27 0) (m + 0) 37 (-1)) (m + 25) (Int32.toNatClampNeg 0) 0) (m + 26) (Int32.toNatClampNeg 0) 1) m 0 (fun _ => 0) (fun _ => 1) (fun _ => 0) := fun j hj => by
    rw [Nat.le_zero.mp hj]
    exact ⟨(wf_up_a (by omega)).trans wf_up_s, wf_up_s, fun z => absurd z (by decide)⟩
  generalize wf_up (wf_up (wf_up (wf_up (wf_up i (m + 0) 26 2) (m + 0) 27 0) (m + 0) 37 (-1)) (m + 25) (Int32.toNatClampNeg 0) 0) (m + 26) (Int32.toNatClampNeg 0) 1 = i0 at s0 p0 g0 f0 l0 ⊢
  refine wf_aload_n dc_Mod_draw_46 rfl ?_
  refine wf_iv0 (M' := mt_Mod_point) (c := 8) dc_Mod_draw_47 tg_Mod_point ml_Mod_130 im_Mod_point se_Mod_point ⟨_, rfl, rfl⟩ (by assumption) (Nat.le_of_ble_eq_true rfl) (Nat.le_refl _) (Nat.le_refl _) (c_Mod_point hA p0) qI_nt (qI_go (fun x2 i2 hp => ?_))
  obtain ⟨rfl, rfl⟩ := hp
  refine wf_istore dc_Mod_draw_50 (by decide) ?_
  refine wf_aload_n dc_Mod_draw_52 rfl ?_
  refine wf_iconst 0 dc_Mod_draw_53 (by decide) ?_
  refine wf_iload dc_Mod_draw_54 rfl ?_
  refine wf_iconst 0 dc_Mod_draw_56 (by decide) ?_
  refine wf_iconst 0 dc_Mod_draw_57 (by decide) ?_
  refine wf_iv4 (M' := mt_Mod_edge) (c := 8) dc_Mod_draw_58 tg_Mod_edge ml_Mod_134 im_Mod_edge se_Mod_edge ⟨_, rfl, rfl⟩ (by assumption) (Nat.le_of_ble_eq_true rfl) (Nat.le_refl _) (Nat.le_refl _) (c_Mod_edge (0, 2, 0, 0) hA (g0.up (c := 0) (k := 26) (x := nI (2 + 1)) (Or.inl ⟨rfl, by decide⟩)) (by decide) rfl rfl rfl rfl) qV_nt (qV_go (fun i2 hp => ?_))
  obtain ⟨⟨e1, e2⟩, e3⟩ := hp
  refine wf_iconst (-1) dc_Mod_draw_61 (by decide) ?_
  refine wf_istore dc_Mod_draw_62 (by decide) ?_
  refine wf_iload_n dc_Mod_draw_64 rfl ?_
  refine wf_istore dc_Mod_draw_65 (by decide) ?_
  have hI : dr_is i2 m (60 * k) (3, [(0, 2, 0, 0)], fun _ => 0, fun _ => 1, fun _ => 0, 0, 2, none, 0) := ⟨e3.trans wf_up_s, e1, (e2.at (by simp [ms_no])).trans ((wf_up_k (by decide)).trans f0), (l0.up (k := 26) (x := nI (2 + 1))).ge e2⟩
  have hS : mf m dr_S i i2 := mf_ss (dr_up s0 (Or.inl ⟨rfl, Or.inl rfl⟩)) (ge_dr e2)
  have hv0 : dr_inv T (3, [(0, 2, 0, 0)], fun _ => 0, fun _ => 1, fun _ => 0, 0, 2, none, 0) := by
    refine ⟨by simp [dr_pl], Nat.le_refl _, by simp [dr_pl], by simp [dr_dp], Nat.zero_le _, by decide, fun p hp => (by cases hp), fun q hq => ?_, fun j hj => ⟨show 0 < 3 by decide, show 1 < 3 by decide, fun _ => show 0 < 3 by decide⟩⟩
    rw [List.mem_singleton.mp hq]
    exact ⟨by decide, by decide, ed_v0⟩
  suffices hmain : Wf l E n0 mt_Mod_draw (d + 2) 0 0 Q0 0 0 67 (dr_L m (60 * k) T.length (3, [(0, 2, 0, 0)], fun _ => 0, fun _ => 1, fun _ => 0, 0, 2, none, 0)) [] nx t r i2 g from Wf.to (by exact ⟨rfl, rfl, rfl, rfl, rfl, rfl, rfl, trivial⟩) hmain
  have hrd := dr_read h60 hz (fun _ => 0) (fun _ => 1) (fun _ => 0) rfl rfl
  cases hps : ps_read T with
  | inl e =>
    have he := ps_read_flt hps
    rw [hps] at hrd
    obtain ⟨v, ⟨n, hn⟩, hv⟩ := hrd
    refine dr_go hA hT (by omega) h60 hz (fun i1 h1 h2 h3 => ?_) n _ hn hv0 i2 hI hS
    obtain ⟨P, G, bg, cl, ou, dp, a, pc, pl⟩ := v
    rcases hv with ⟨z1, z2⟩ | ⟨z1, z2, z3⟩
    · have z2' : dr_st T P G bg cl ou dp a pc pl = .inl e := z2
      refine dr_java hA hT (by omega) h60 hz h3 z1 (fun e' he' => ?_) (fun w hw => ?_) i1 h1 h2
      · rw [z2'] at he'
        cases he'
        exact finF e hps he
      · rw [z2'] at hw; cases hw
    · subst z3
      obtain ⟨v1, v2, v3, v4, v5, v6, v7, v8, v9⟩ := h3
      simp only [dr_pl, dr_dp] at v1 v2 v3 v4 v5 v6 v7 v8 v9 z1 z2
      obtain ⟨q1, q2, q3, q4⟩ := h1
      simp only at q1 q2 q3
      unfold dr_L
      simp only [dr_pl, dr_dp]
      refine wf_iload dc_Mod_draw_67 rfl ?_
      refine wf_iload_n dc_Mod_draw_69 rfl ?_
      refine wf_icmp_ge 521 dc_Mod_draw_70 (by decide) (fun hc => ?_) (fun hc => absurd ((nI_leI (by omega) (by omega)).mpr (by omega)) hc)
      refine wf_aload_n dc_Mod_draw_521 rfl ?_
      refine wf_geti dc_Mod_draw_522 fl_Mod_120 rfl (by assumption) ?_
      refine wf_iconst (-1) dc_Mod_draw_525 (by decide) ?_
      rw [q3]
      refine wf_icmp_ne 539 dc_Mod_draw_526 (by decide) (fun hc => absurd rfl hc) (fun hc => ?_)
      refine wf_iload dc_Mod_draw_529 rfl ?_
      refine wf_if_le 539 dc_Mod_draw_531 (by decide) (fun hc => absurd ((nI_leI (b := 0) (by omega) (by omega)).mp hc) (by omega)) (fun hc => ?_)
      refine wf_aload_n dc_Mod_draw_534 rfl ?_
      refine wf_iload_n dc_Mod_draw_535 rfl ?_
      refine wf_iv1 (M' := mt_Mod_fail) (c := 8) dc_Mod_draw_536 tg_Mod_fail ml_Mod_127 im_Mod_fail se_Mod_fail ⟨_, rfl, rfl⟩ (by assumption) (Nat.le_of_ble_eq_true rfl) (Nat.le_refl _) (Nat.le_refl _) (c_Mod_fail hA) qV_nt (qV_go (fun i2 hp => ?_))
      rw [if_pos q3] at hp
      subst hp
      exact Wf.to (by exact ⟨rfl, rfl, rfl, rfl, trivial⟩) (fin T.length _ G _ hps (Nat.le_refl _) (q2.up (Or.inl ⟨rfl, by decide⟩)) (by omega) wf_up_s (dr_up h2 (Or.inl ⟨rfl, Or.inr rfl⟩)))
  | inr q =>
    rw [hps] at hrd
    obtain ⟨P1, E1, bg1, cl1, ou1, a1, pc1, ⟨n, hn⟩, hm⟩ := hrd
    refine dr_go hA hT (by omega) h60 hz (fun i1 h1 h2 h3 => ?_) n _ hn hv0 i2 hI hS
    obtain ⟨v1, v2, v3, v4, v5, v6, v7, v8, v9⟩ := h3
    simp only [dr_pl, dr_dp] at v1 v2 v3 v4 v5 v6 v7 v8 v9
    obtain ⟨q1, q2, q3, q4⟩ := h1
    simp only at q1 q2 q3
    unfold dr_L
    simp only [dr_pl, dr_dp]
    refine wf_iload dc_Mod_draw_67 rfl ?_
    refine wf_iload_n dc_Mod_draw_69 rfl ?_
    refine wf_icmp_ge 521 dc_Mod_draw_70 (by decide) (fun hc => ?_) (fun hc => absurd ((nI_leI (by omega) (by omega)).mpr (by omega)) hc)
    refine wf_aload_n dc_Mod_draw_521 rfl ?_
    refine wf_geti dc_Mod_draw_522 fl_Mod_120 rfl (by assumption) ?_
    refine wf_iconst (-1) dc_Mod_draw_525 (by decide) ?_
    rw [q3]
    refine wf_icmp_ne 539 dc_Mod_draw_526 (by decide) (fun hc => absurd rfl hc) (fun hc => ?_)
    refine wf_iload dc_Mod_draw_529 rfl ?_
    refine wf_if_le 539 dc_Mod_draw_531 (by decide) (fun hc => ?_) (fun hc => absurd (by decide) hc)
    refine wf_aload_n dc_Mod_draw_539 rfl ?_
    refine wf_iload dc_Mod_draw_540 rfl ?_
    refine wf_iconst 1 dc_Mod_draw_542 (by decide) ?_
    refine wf_iconst 0 dc_Mod_draw_543 (by decide) ?_
    refine wf_iconst 0 dc_Mod_draw_544 (by decide) ?_
    refine wf_iv4 (M' := mt_Mod_edge) (c := 8) dc_Mod_draw_545 tg_Mod_edge ml_Mod_134 im_Mod_edge se_Mod_edge ⟨_, rfl, rfl⟩ (by assumption) (Nat.le_of_ble_eq_true rfl) (Nat.le_refl _) (Nat.le_refl _) (c_Mod_edge (a1, 1, 0, 0) hA q2 (by omega) rfl rfl rfl rfl) qV_nt (qV_go (fun i2 hp => ?_))
    obtain ⟨⟨e1, e2⟩, e3⟩ := hp
    have f2 := (e2.at (c := 0) (k := 37) (by simp [ms_no])).trans q3
    refine wf_aload_n dc_Mod_draw_548 rfl ?_
    refine wf_aload_n dc_Mod_draw_549 rfl ?_
    refine wf_geti dc_Mod_draw_550 fl_Mod_120 rfl (by assumption) ?_
    refine wf_iconst (-1) dc_Mod_draw_553 (by decide) ?_
    rw [f2]
    refine wf_icmp_ne 561 dc_Mod_draw_554 (by decide) (fun hc => absurd rfl hc) (fun hc => ?_)
    refine wf_iconst (-1) dc_Mod_draw_557 (by decide) ?_
    refine wf_goto 567 dc_Mod_draw_558 (by decide) ?_
    refine wf_puti dc_Mod_draw_567 fl_Mod_120 (Or.inl nf_Mod_37) rfl rfl rfl (by assumption) ?_
    refine wf_return rfl dc_Mod_draw_570 ?_
    rw [← hQ]
    refine ⟨rfl, rfl, rfl, rfl, rfl, dr_up (mf_ss h2 (ge_dr e2)) (Or.inl ⟨rfl, Or.inr rfl⟩), ?_⟩
    rw [hps]
    refine ⟨wf_up_s, P1, E1 ++ [(a1, 1, 0, 0)], (wf_up_k (by decide)).trans (e3.trans q1), v2, by omega, e1.up (Or.inl ⟨rfl, by decide⟩), by rw [List.length_append]; simp only [List.length_cons, List.length_nil]; omega, fun q hq => ?_, hm⟩
    rcases List.mem_append.mp hq with hq | hq
    · exact v8 q hq
    · rw [List.mem_singleton.mp hq]
      exact ⟨v6, by show 1 < P1; omega, ed_v0⟩
end
