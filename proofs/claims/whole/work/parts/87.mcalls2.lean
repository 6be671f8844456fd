/-! the reference: find, rule, isAction, action -/
def fi_S : Ms := sk_S ++ [(0, 0, 1), (0, 25, 26)]
def ru_S : Ms := [(0, 0, 1), (0, 6, 7), (5, 0, 12), (6, 0, 12), (7, 0, 12), (8, 0, 12)]
def at_S : Ms := [(0, 0, 1), (8, 0, 12), (9, 0, 120), (10, 0, 120), (11, 0, 120)]
theorem ru_dl {ru : List RuS} {u : RuS} {k : Nat} (h : k < ru.length) : ru_d (ru ++ [u]) k = ru_d ru k := by
  unfold ru_d
  rw [List.getD_eq_getElem?_getD, List.getElem?_append_left h, ← List.getD_eq_getElem?_getD]
theorem ru_dn {ru : List RuS} {u : RuS} : ru_d (ru ++ [u]) ru.length = u := by
  unfold ru_d
  rw [List.getD_eq_getElem?_getD, List.getElem?_append_right (Nat.le_refl _), Nat.sub_self]
  rfl
theorem ru_ds {ru : List RuS} {u : RuS} {k q : Nat} (h : k < ru.length) : ru_d (ru.set q u) k = if k = q then u else ru_d ru k := by
  unfold ru_d
  rw [List.getD_eq_getElem?_getD, List.getElem?_set]
  by_cases hq : q = k
  · rw [if_pos hq, if_pos (by omega), if_pos hq.symm]; rfl
  · rw [if_neg hq, if_neg (fun z => hq z.symm), ← List.getD_eq_getElem?_getD]
theorem gt_l {A : List (Int32 × Int32 × Int32)} {u : Int32 × Int32 × Int32} {k : Nat} (h : k < A.length) : (A ++ [u]).getD k (0, 0, 0) = A.getD k (0, 0, 0) := by
  rw [List.getD_eq_getElem?_getD, List.getElem?_append_left h, ← List.getD_eq_getElem?_getD]
theorem gt_n {A : List (Int32 × Int32 × Int32)} {u : Int32 × Int32 × Int32} : (A ++ [u]).getD A.length (0, 0, 0) = u := by
  rw [List.getD_eq_getElem?_getD, List.getElem?_append_right (Nat.le_refl _), Nat.sub_self]
  rfl
section
variable {l : Launch} {E : We} {n0 d nx : Nat} {t : Wt} {r : Wr} {i i1 i2 : Wi} {g : Wl} {m : Nat} {S : Ms}
theorem mx.z {k : Nat} {w : List Int32} {v : Int32} (h : mx i m k w) : mx (wf_up i (m + 0) 0 v) m k w := ⟨(up_b (by omega)).trans h.1, fun j hj => (up_b (by omega)).trans (h.2 j hj)⟩
theorem mr.z {k : Nat} {w : List Int32} {v : Int32} (h : mr i m k w) : mr (wf_up i (m + 0) 0 v) m k w := ⟨(up_b (by omega)).trans h.1, fun j hj => (up_b (by omega)).trans (h.2 j hj)⟩
theorem c_Mod_find {sx : Nat → List Int32} {w : List Int32} {x q : Int32} (hA : mo_at t r m) (hP : mr i m 0 w) (hw : s1 w) (hX : mp_exp i m sx) : Ct l E n0 mt_Mod_find (d + 4) 0 0 [.ref (m + 0), .int x, .int q] nx t r i g (qI nx t r g (fun z i' => if bw x 0 5 = true ∧ bw q 0 w.length = true then z = oI (fd_of (ps_rel (sx x.toNatClampNeg)) w q.toNatClampNeg) ∧ i' (m + 0) 25 = oI (fn_of (ps_rel (sx x.toNatClampNeg)) w q.toNatClampNeg) ∧ i' (m + 0) 0 = 0 ∧ mf m fi_S i i' else i' = wf_up i (m + 0) 0 1)) := by
  have t0 := hA.1.1
  have r2 : r (m + 0) 2 = some (m + 2) := hA.2 (0, 2, 2) (by decide +kernel)
  have t2 := hA.1.2 2 (2, .inr (0, 9)) (by decide +kernel)
  have hl := hw.1
  generalize hQ : (qI nx t r g (fun z i' => if bw x 0 5 = true ∧ bw q 0 w.length = true then z = oI (fd_of (ps_rel (sx x.toNatClampNeg)) w q.toNatClampNeg) ∧ i' (m + 0) 25 = oI (fn_of (ps_rel (sx x.toNatClampNeg)) w q.toNatClampNeg) ∧ i' (m + 0) 0 = 0 ∧ mf m fi_S i i' else i' = wf_up i (m + 0) 0 1)) = Q0
  refine Ct.of (by decide) (Nat.le_of_ble_eq_true rfl) ?_
  have no : ¬ (bw x 0 5 = true ∧ bw q 0 w.length = true) → Wf l E n0 mt_Mod_find (d + 4) 0 0 Q0 0 0 28 [(0, .ref (m + 0)), (1, .int x), (2, .int q)] [.ref (m + 0)] nx t r i g := fun hb => by
    refine wf_iconst 0 dc_Mod_find_28 (by decide) ?_
    refine wf_iconst 1 dc_Mod_find_29 (by decide) ?_
    refine wf_iv2 (M' := mt_Mod_goes) (c := 8) dc_Mod_find_30 tg_Mod_goes ml_Mod_106 im_Mod_goes se_Mod_goes ⟨_, rfl, rfl⟩ (by assumption) (Nat.le_of_ble_eq_true rfl) (Nat.le_refl _) (Nat.le_refl _) (c_Mod_goes (a := false) (c := true) hA) qI_nt (qI_go (fun x2 i2 hp => ?_))
    obtain ⟨rfl, rfl⟩ := hp
    refine wf_if_ne 38 dc_Mod_find_33 (by decide) (fun hc => absurd rfl hc) (fun hc => ?_)
    refine wf_iconst 0 dc_Mod_find_36 (by decide) ?_
    rw [← hQ]
    refine wf_ireturn rfl dc_Mod_find_37 ⟨_, rfl, rfl, rfl, rfl, rfl, ?_⟩
    dsimp only
    rw [if_neg hb]
    rfl
  refine wf_aload_n dc_Mod_find_0 rfl ?_
  refine wf_iload_n dc_Mod_find_1 rfl ?_
  refine wf_iconst 0 dc_Mod_find_2 (by decide) ?_
  refine wf_iconst 5 dc_Mod_find_3 (by decide) ?_
  refine wf_is3 (M' := mt_Mod_within) dc_Mod_find_4 tg_Mod_within ml_Mod_142 sm_Mod_within (Nat.le_of_ble_eq_true rfl) (Nat.le_refl _) (Nat.le_refl _) (c_Mod_within) qI_nt (qI_go (fun x2 i2 hp => ?_))
  obtain ⟨rfl, hq⟩ := hp; subst i2
  have e5 : bw x (Int32.toInt 0) (Int32.toInt 5) = bw x 0 5 := rfl
  rw [e5]
  cases hb : bw x 0 5 with
  | false =>
    refine wf_if_eq 28 dc_Mod_find_7 (by decide) (fun hc => ?_) (fun hc => absurd rfl hc)
    exact Wf.to (by exact ⟨rfl, rfl, rfl, trivial⟩) (no (fun z => by rw [hb] at z; exact absurd z.1 (by decide)))
  | true =>
    refine wf_if_eq 28 dc_Mod_find_7 (by decide) (fun hc => absurd hc (by decide)) (fun hc => ?_)
    refine wf_iload_n dc_Mod_find_10 rfl ?_
    refine wf_if_lt 28 dc_Mod_find_11 (by decide) (fun h1 => ?_) (fun h1 => ?_)
    · refine Wf.to (by exact ⟨rfl, rfl, rfl, trivial⟩) (no (fun z => ?_))
      have := (bw_t.mp z.2).1
      rw [Int32.lt_iff_toInt_lt, show (0 : Int32).toInt = 0 from rfl] at h1
      omega
    refine wf_iload_n dc_Mod_find_14 rfl ?_
    refine wf_aload_n dc_Mod_find_15 rfl ?_
    refine wf_getr dc_Mod_find_16 fl_Mod_13 rfl (by assumption) (by assumption) ?_
    refine wf_iconst 0 dc_Mod_find_19 (by decide) ?_
    refine wf_iaload (y := 0) dc_Mod_find_20 rfl (by assumption) (vp_in_nI (n := 0) (by omega) (by omega)) ?_
    rw [show i (m + 2) (Int32.toNatClampNeg 0) = nI w.length from hP.1]
    refine wf_icmp_gt 28 dc_Mod_find_21 (by decide) (fun hc => ?_) (fun hc => ?_)
    · refine Wf.to (by exact ⟨rfl, rfl, rfl, trivial⟩) (no (fun z => ?_))
      have := (bw_t.mp z.2).2
      rw [Int32.lt_iff_toInt_lt, nI_toInt (by omega)] at hc
      omega
    have hbq : bw q 0 w.length = true := by
      rw [Int32.lt_iff_toInt_lt, nI_toInt (by omega)] at hc
      rw [Int32.lt_iff_toInt_lt, show (0 : Int32).toInt = 0 from rfl] at h1
      exact bw_t.mpr (by omega)
    obtain ⟨k, -, hk, rfl⟩ := bw_n (lo := 0) (hi := 5) hb
    obtain ⟨p, -, hp5, rfl⟩ := bw_n (lo := 0) (hi := w.length) hbq
    obtain ⟨x1, x2, x3, x4⟩ := hX k (by omega)
    have hc1 : (nI k).toNatClampNeg = k := nI_clamp (by omega)
    have hc2 : (nI p).toNatClampNeg = p := nI_clamp (by omega)
    rw [hc1, hc2] at hQ
    refine wf_iconst 1 dc_Mod_find_24 (by decide) ?_
    refine wf_goto 29 dc_Mod_find_25 (by decide) ?_
    refine wf_iconst 1 dc_Mod_find_29 (by decide) ?_
    refine wf_iv2 (M' := mt_Mod_goes) (c := 8) dc_Mod_find_30 tg_Mod_goes ml_Mod_106 im_Mod_goes se_Mod_goes ⟨_, rfl, rfl⟩ (by assumption) (Nat.le_of_ble_eq_true rfl) (Nat.le_refl _) (Nat.le_refl _) (c_Mod_goes (a := true) (c := true) hA) qI_nt (qI_go (fun x2 i2 hp => ?_))
    obtain ⟨rfl, rfl⟩ := hp
    refine wf_if_ne 38 dc_Mod_find_33 (by decide) (fun hc => ?_) (fun hc => absurd hc (by decide))
    refine wf_aload_n dc_Mod_find_38 rfl ?_
    refine wf_iload_n dc_Mod_find_39 rfl ?_
    refine wf_iconst 0 dc_Mod_find_40 (by decide) ?_
    refine wf_iload_n dc_Mod_find_41 rfl ?_
    refine wf_iv3 (M' := mt_Mod_seek) (c := 8) dc_Mod_find_42 tg_Mod_seek ml_Mod_212 im_Mod_seek se_Mod_seek ⟨_, rfl, rfl⟩ (by assumption) (Nat.le_of_ble_eq_true rfl) (Nat.le_refl _) (Nat.le_refl _) (c_Mod_seek (k := k) (a := 0) (b := p) hA x1.z (by omega) x3 x2 x4 (by omega) hP.z hw (by omega)) qI_nt (qI_go (fun x2 i2 hp => ?_))
    obtain ⟨hsk, hfr⟩ := hp
    have f0 : mf m fi_S i (wf_up i (m + 0) 0 (th_of true true)) := mf_up mf_rf ⟨(0, 0, 1), by simp [fi_S], rfl, by decide, by decide⟩
    have f1 : mf m fi_S i i2 := mf_ss f0 (mf_mo hfr (ms_sub (fun q hq => by simp [fi_S, hq])))
    have z0 : i2 (m + 0) 0 = 0 := (hfr.at (sk_no0 (by omega))).trans wf_up_s
    have f2 : ∀ v, mf m fi_S i (wf_up i2 (m + 0) 25 v) := fun v => mf_up f1 ⟨(0, 25, 26), by simp [fi_S], rfl, by decide, by decide⟩
    rcases hsk with ⟨h1, rfl⟩ | ⟨s, e, h1, h2, rfl, h4, h5, h6, h7⟩
    · refine wf_istore_n dc_Mod_find_45 (by decide) ?_
      refine wf_aload_n dc_Mod_find_46 rfl ?_
      refine wf_iload_n dc_Mod_find_47 rfl ?_
      refine wf_if_eq 58 dc_Mod_find_48 (by decide) (fun hc => ?_) (fun hc => absurd rfl hc)
      refine wf_iconst (-1) dc_Mod_find_58 (by decide) ?_
      refine wf_puti dc_Mod_find_59 fl_Mod_68 (Or.inl nf_Mod_25) rfl rfl rfl (by assumption) ?_
      refine wf_iload_n dc_Mod_find_62 rfl ?_
      refine wf_if_eq 73 dc_Mod_find_63 (by decide) (fun hc => ?_) (fun hc => absurd rfl hc)
      refine wf_iconst (-1) dc_Mod_find_73 (by decide) ?_
      rw [← hQ]
      refine wf_ireturn rfl dc_Mod_find_74 ⟨_, rfl, rfl, rfl, rfl, rfl, ?_⟩
      dsimp only
      rw [if_pos ⟨hb, hbq⟩, h1]
      refine ⟨rfl, ?_, (wf_up_k (by omega)).trans z0, f2 _⟩
      rw [wf_up_s, fn_of, h1]
      rfl
    · refine wf_istore_n dc_Mod_find_45 (by decide) ?_
      refine wf_aload_n dc_Mod_find_46 rfl ?_
      refine wf_iload_n dc_Mod_find_47 rfl ?_
      refine wf_if_eq 58 dc_Mod_find_48 (by decide) (fun hc => absurd hc (by decide)) (fun hc => ?_)
      refine wf_aload_n dc_Mod_find_51 rfl ?_
      refine wf_geti dc_Mod_find_52 fl_Mod_163 rfl (by assumption) ?_
      rw [h5]
      refine wf_goto 59 dc_Mod_find_55 (by decide) ?_
      refine wf_puti dc_Mod_find_59 fl_Mod_68 (Or.inl nf_Mod_25) rfl rfl rfl (by assumption) ?_
      refine wf_iload_n dc_Mod_find_62 rfl ?_
      refine wf_if_eq 73 dc_Mod_find_63 (by decide) (fun hc => absurd hc (by decide)) (fun hc => ?_)
      refine wf_aload_n dc_Mod_find_66 rfl ?_
      refine wf_geti dc_Mod_find_67 fl_Mod_160 rfl (by assumption) ?_
      rw [wf_up_k (by omega), h4]
      refine wf_goto 74 dc_Mod_find_70 (by decide) ?_
      rw [← hQ]
      refine wf_ireturn rfl dc_Mod_find_74 ⟨_, rfl, rfl, rfl, rfl, rfl, ?_⟩
      dsimp only
      rw [if_pos ⟨hb, hbq⟩, h1]
      refine ⟨rfl, ?_, (wf_up_k (by omega)).trans z0, f2 _⟩
      rw [wf_up_s, fn_of, h1]
      dsimp only
      rw [h2]
      rfl
theorem pt_w {p a b : Int32} (h : pt_ok p a b = true) : bw p 0 6 = true := by
  obtain ⟨j, h1, rfl⟩ := pt_cases h
  exact bw_t.mpr (by rw [nI_toInt (by omega)]; omega)
theorem c_Mod_rule {ru : List RuS} {p x y : Int32} (hA : mo_at t r m) (hR : mp_rul i m ru) (h12 : ru.length ≤ 12) : Ct l E n0 mt_Mod_rule (d + 2) 0 0 [.ref (m + 0), .int p, .int x, .int y] nx t r i g (qI nx t r g (fun z i' => if pt_ok p x y = true then (if ru.length = 12 then i' = wf_up i (m + 0) 0 2 else z = nI ru.length ∧ i' (m + 0) 0 = 0 ∧ mp_rul i' m (ru ++ [(p, x, y, [])]) ∧ mf m ru_S i i') else i' = wf_up i (m + 0) 0 1)) := by
  have t0 := hA.1.1
  have r7 : r (m + 0) 7 = some (m + 5) := hA.2 (0, 7, 5) (by decide +kernel)
  have r8 : r (m + 0) 8 = some (m + 6) := hA.2 (0, 8, 6) (by decide +kernel)
  have r9 : r (m + 0) 9 = some (m + 7) := hA.2 (0, 9, 7) (by decide +kernel)
  have r10 : r (m + 0) 10 = some (m + 8) := hA.2 (0, 10, 8) (by decide +kernel)
  have t5 := hA.1.2 5 (5, .inr (0, 12)) (by decide +kernel)
  have t6 := hA.1.2 6 (6, .inr (0, 12)) (by decide +kernel)
  have t7 := hA.1.2 7 (7, .inr (0, 12)) (by decide +kernel)
  have t8 := hA.1.2 8 (8, .inr (0, 12)) (by decide +kernel)
  generalize hQ : (qI nx t r g (fun z i' => if pt_ok p x y = true then (if ru.length = 12 then i' = wf_up i (m + 0) 0 2 else z = nI ru.length ∧ i' (m + 0) 0 = 0 ∧ mp_rul i' m (ru ++ [(p, x, y, [])]) ∧ mf m ru_S i i') else i' = wf_up i (m + 0) 0 1)) = Q0
  refine Ct.of (by decide) (Nat.le_of_ble_eq_true rfl) ?_
  have go : ∀ f : Bool, f = pt_ok p x y → Wf l E n0 mt_Mod_rule (d + 2) 0 0 Q0 0 0 63 [(0, .ref (m + 0)), (1, .int p), (2, .int x), (3, .int y)] [.int (wt_b f)] nx t r i g := fun f hf => by
    have rest : ∀ c : Bool, c = decide (ru.length < 12) → Wf l E n0 mt_Mod_rule (d + 2) 0 0 Q0 0 0 82 [(0, .ref (m + 0)), (1, .int p), (2, .int x), (3, .int y)] [.int (wt_b c), .int (wt_b f), .ref (m + 0)] nx t r i g := fun c hcc => by
      refine wf_iv2 (M' := mt_Mod_goes) (c := 8) dc_Mod_rule_82 tg_Mod_goes ml_Mod_106 im_Mod_goes se_Mod_goes ⟨_, rfl, rfl⟩ (by assumption) (Nat.le_of_ble_eq_true rfl) (Nat.le_refl _) (Nat.le_refl _) (c_Mod_goes (a := f) (c := c) hA) qI_nt (qI_go (fun x2 i2 hp => ?_))
      obtain ⟨rfl, rfl⟩ := hp
      by_cases hok : (f && c) = true
      · rw [Bool.and_eq_true] at hok
        obtain ⟨rfl, rfl⟩ := hok
        have hlt : ru.length < 12 := of_decide_eq_true hcc.symm
        have cl : (nI ru.length).toNatClampNeg = ru.length := nI_clamp (by omega)
        refine wf_if_ne 90 dc_Mod_rule_85 (by decide) (fun hc => ?_) (fun hc => absurd hc (by decide))
        have f0 : mf m ru_S i (wf_up i (m + 0) 0 (th_of true true)) := mf_up mf_rf ⟨(0, 0, 1), by simp [ru_S], rfl, by decide, by decide⟩
        have z0 : wf_up i (m + 0) 0 (th_of true true) (m + 0) 0 = 0 := wf_up_s
        have n0 : wf_up i (m + 0) 0 (th_of true true) (m + 0) 6 = nI ru.length := (up_b (by omega)).trans hR.1
        have k0 : ∀ c k, 5 ≤ c → wf_up i (m + 0) 0 (th_of true true) (m + c) k = i (m + c) k := fun c k hc => up_b (by omega)
        generalize wf_up i (m + 0) 0 (th_of true true) = i0 at f0 z0 n0 k0 ⊢
        refine wf_aload_n dc_Mod_rule_90 rfl ?_
        refine wf_getr dc_Mod_rule_91 fl_Mod_26 rfl (by assumption) (by assumption) ?_
        refine wf_aload_n dc_Mod_rule_94 rfl ?_
        refine wf_geti dc_Mod_rule_95 fl_Mod_172 rfl (by assumption) ?_
        rw [n0]
        refine wf_iload_n dc_Mod_rule_98 rfl ?_
        refine wf_iastore (y := 0) dc_Mod_rule_99 rfl (by decide) (by assumption) (vp_in_nI (by omega) (by omega)) ?_
        rw [cl]
        refine wf_aload_n dc_Mod_rule_100 rfl ?_
        refine wf_getr dc_Mod_rule_101 fl_Mod_29 rfl (by assumption) (by assumption) ?_
        refine wf_aload_n dc_Mod_rule_104 rfl ?_
        refine wf_geti dc_Mod_rule_105 fl_Mod_172 rfl (by assumption) ?_
        rw [wf_up_a (by omega), n0]
        refine wf_iload_n dc_Mod_rule_108 rfl ?_
        refine wf_iastore (y := 0) dc_Mod_rule_109 rfl (by decide) (by assumption) (vp_in_nI (by omega) (by omega)) ?_
        rw [cl]
        refine wf_aload_n dc_Mod_rule_110 rfl ?_
        refine wf_getr dc_Mod_rule_111 fl_Mod_32 rfl (by assumption) (by assumption) ?_
        refine wf_aload_n dc_Mod_rule_114 rfl ?_
        refine wf_geti dc_Mod_rule_115 fl_Mod_172 rfl (by assumption) ?_
        rw [wf_up_a (by omega), wf_up_a (by omega), n0]
        refine wf_iload_n dc_Mod_rule_118 rfl ?_
        refine wf_iastore (y := 0) dc_Mod_rule_119 rfl (by decide) (by assumption) (vp_in_nI (by omega) (by omega)) ?_
        rw [cl]
        refine wf_aload_n dc_Mod_rule_120 rfl ?_
        refine wf_getr dc_Mod_rule_121 fl_Mod_35 rfl (by assumption) (by assumption) ?_
        refine wf_aload_n dc_Mod_rule_124 rfl ?_
        refine wf_geti dc_Mod_rule_125 fl_Mod_172 rfl (by assumption) ?_
        rw [wf_up_a (by omega), wf_up_a (by omega), wf_up_a (by omega), n0]
        refine wf_iconst 0 dc_Mod_rule_128 (by decide) ?_
        refine wf_iastore (y := 0) dc_Mod_rule_129 rfl (by decide) (by assumption) (vp_in_nI (by omega) (by omega)) ?_
        rw [cl]
        have f4 : mf m ru_S i (wf_up (wf_up (wf_up (wf_up i0 (m + 5) ru.length p) (m + 6) ru.length x) (m + 7) ru.length y) (m + 8) ru.length 0) := mf_up (mf_up (mf_up (mf_up f0 ⟨(5, 0, 12), by simp [ru_S], rfl, Nat.zero_le _, by simp only; omega⟩) ⟨(6, 0, 12), by simp [ru_S], rfl, Nat.zero_le _, by simp only; omega⟩) ⟨(7, 0, 12), by simp [ru_S], rfl, Nat.zero_le _, by simp only; omega⟩) ⟨(8, 0, 12), by simp [ru_S], rfl, Nat.zero_le _, by simp only; omega⟩
        have v5 : ∀ k, wf_up (wf_up (wf_up (wf_up i0 (m + 5) ru.length p) (m + 6) ru.length x) (m + 7) ru.length y) (m + 8) ru.length 0 (m + 5) k = if k = ru.length then p else i (m + 5) k := fun k => by
          rw [wf_up_a (by omega), wf_up_a (by omega), wf_up_a (by omega)]
          by_cases hk : k = ru.length
          · rw [if_pos hk, hk, wf_up_s]
          · rw [if_neg hk, wf_up_k hk, k0 5 k (by omega)]
        have v6 : ∀ k, wf_up (wf_up (wf_up (wf_up i0 (m + 5) ru.length p) (m + 6) ru.length x) (m + 7) ru.length y) (m + 8) ru.length 0 (m + 6) k = if k = ru.length then x else i (m + 6) k := fun k => by
          rw [wf_up_a (by omega), wf_up_a (by omega)]
          by_cases hk : k = ru.length
          · rw [if_pos hk, hk, wf_up_s]
          · rw [if_neg hk, wf_up_k hk, wf_up_a (by omega), k0 6 k (by omega)]
        have v7 : ∀ k, wf_up (wf_up (wf_up (wf_up i0 (m + 5) ru.length p) (m + 6) ru.length x) (m + 7) ru.length y) (m + 8) ru.length 0 (m + 7) k = if k = ru.length then y else i (m + 7) k := fun k => by
          rw [wf_up_a (by omega)]
          by_cases hk : k = ru.length
          · rw [if_pos hk, hk, wf_up_s]
          · rw [if_neg hk, wf_up_k hk, wf_up_a (by omega), wf_up_a (by omega), k0 7 k (by omega)]
        have v8 : ∀ k, wf_up (wf_up (wf_up (wf_up i0 (m + 5) ru.length p) (m + 6) ru.length x) (m + 7) ru.length y) (m + 8) ru.length 0 (m + 8) k = if k = ru.length then 0 else i (m + 8) k := fun k => by
          by_cases hk : k = ru.length
          · rw [if_pos hk, hk, wf_up_s]
          · rw [if_neg hk, wf_up_k hk, wf_up_a (by omega), wf_up_a (by omega), wf_up_a (by omega), k0 8 k (by omega)]
        have v9 : ∀ c k, 9 ≤ c → wf_up (wf_up (wf_up (wf_up i0 (m + 5) ru.length p) (m + 6) ru.length x) (m + 7) ru.length y) (m + 8) ru.length 0 (m + c) k = i (m + c) k := fun c k hc => by
          rw [wf_up_a (by omega), wf_up_a (by omega), wf_up_a (by omega), wf_up_a (by omega), k0 c k (by omega)]
        have n4 : wf_up (wf_up (wf_up (wf_up i0 (m + 5) ru.length p) (m + 6) ru.length x) (m + 7) ru.length y) (m + 8) ru.length 0 (m + 0) 6 = nI ru.length := by
          rw [wf_up_a (by omega), wf_up_a (by omega), wf_up_a (by omega), wf_up_a (by omega), n0]
        have z4 : wf_up (wf_up (wf_up (wf_up i0 (m + 5) ru.length p) (m + 6) ru.length x) (m + 7) ru.length y) (m + 8) ru.length 0 (m + 0) 0 = 0 := by
          rw [wf_up_a (by omega), wf_up_a (by omega), wf_up_a (by omega), wf_up_a (by omega), z0]
        generalize wf_up (wf_up (wf_up (wf_up i0 (m + 5) ru.length p) (m + 6) ru.length x) (m + 7) ru.length y) (m + 8) ru.length 0 = i4 at f4 v5 v6 v7 v8 v9 n4 z4 ⊢
        refine wf_aload_n dc_Mod_rule_130 rfl ?_
        refine wf_dup dc_Mod_rule_131 rfl ?_
        refine wf_geti dc_Mod_rule_132 fl_Mod_172 rfl (by assumption) ?_
        refine wf_iconst 1 dc_Mod_rule_135 (by decide) ?_
        refine wf_iadd dc_Mod_rule_136 ?_
        rw [n4, nI_1]
        refine wf_puti dc_Mod_rule_137 fl_Mod_172 (Or.inl nf_Mod_6) rfl rfl rfl (by assumption) ?_
        refine wf_aload_n dc_Mod_rule_140 rfl ?_
        refine wf_geti dc_Mod_rule_141 fl_Mod_172 rfl (by assumption) ?_
        rw [wf_up_s]
        refine wf_iconst 1 dc_Mod_rule_144 (by decide) ?_
        refine wf_isub dc_Mod_rule_145 ?_
        rw [← hQ]
        refine wf_ireturn rfl dc_Mod_rule_146 ⟨_, rfl, rfl, rfl, rfl, rfl, ?_⟩
        dsimp only
        rw [if_pos hf.symm, if_neg (by omega)]
        refine ⟨(pk_sub (a := ru.length + 1) (b := 1) (by omega)).trans (by rw [Nat.add_sub_cancel]), (wf_up_k (by omega)).trans z4, ⟨?_, fun k hk => ?_⟩, mf_up f4 ⟨(0, 6, 7), by simp [ru_S], rfl, by decide, by decide⟩⟩
        · rw [wf_up_s, List.length_append]
          rfl
        · rw [List.length_append, List.length_singleton] at hk
          rw [wf_up_a (by omega), wf_up_a (by omega), wf_up_a (by omega), wf_up_a (by omega), v5, v6, v7, v8]
          by_cases hkl : k = ru.length
          · subst hkl
            rw [ru_dn, if_pos rfl, if_pos rfl, if_pos rfl, if_pos rfl]
            exact ⟨rfl, rfl, rfl, rfl, fun j hj => absurd hj (Nat.not_lt_zero _)⟩
          · rw [ru_dl (by omega), if_neg hkl, if_neg hkl, if_neg hkl, if_neg hkl]
            obtain ⟨b1, b2, b3, b4, b5⟩ := hR.2 k (by omega)
            refine ⟨b1, b2, b3, b4, fun j hj => ?_⟩
            rw [wf_up_a (by omega), wf_up_a (by omega), wf_up_a (by omega), v9 9 _ (by omega), v9 10 _ (by omega), v9 11 _ (by omega)]
            exact b5 j hj
      · rw [Bool.not_eq_true] at hok
        rw [hok]
        refine wf_if_ne 90 dc_Mod_rule_85 (by decide) (fun hc => absurd rfl hc) (fun hc => ?_)
        refine wf_iconst 0 dc_Mod_rule_88 (by decide) ?_
        rw [← hQ]
        refine wf_ireturn rfl dc_Mod_rule_89 ⟨_, rfl, rfl, rfl, rfl, rfl, ?_⟩
        dsimp only
        cases f with
        | false => rw [if_neg (by rw [← hf]; decide)]; rfl
        | true =>
          rw [if_pos hf.symm]
          have hc0 : c = false := by rw [Bool.true_and] at hok; exact hok
          subst hc0
          have := of_decide_eq_false hcc.symm
          rw [if_pos (by omega)]
          rfl
    refine wf_istore dc_Mod_rule_63 (by decide) ?_
    refine wf_aload_n dc_Mod_rule_65 rfl ?_
    refine wf_iload dc_Mod_rule_66 rfl ?_
    refine wf_aload_n dc_Mod_rule_68 rfl ?_
    refine wf_geti dc_Mod_rule_69 fl_Mod_172 rfl (by assumption) ?_
    rw [hR.1]
    refine wf_bipush 12 dc_Mod_rule_72 (by decide) ?_
    by_cases hlt : ru.length < 12
    · refine wf_icmp_ge 81 dc_Mod_rule_74 (by decide) (fun hc => absurd ((nI_leI (a := 12) (by omega) (by omega)).mp hc) (by omega)) (fun hc => ?_)
      refine wf_iconst 1 dc_Mod_rule_77 (by decide) ?_
      refine wf_goto 82 dc_Mod_rule_78 (by decide) ?_
      exact Wf.to (by exact ⟨rfl, rfl, rfl, rfl, trivial⟩) (rest true (decide_eq_true hlt).symm)
    · refine wf_icmp_ge 81 dc_Mod_rule_74 (by decide) (fun hc => ?_) (fun hc => absurd ((nI_leI (a := 12) (by omega) (by omega)).mpr (by omega)) hc)
      refine wf_iconst 0 dc_Mod_rule_81 (by decide) ?_
      exact Wf.to (by exact ⟨rfl, rfl, rfl, rfl, trivial⟩) (rest false (decide_eq_false hlt).symm)
  have yes : pt_ok p x y = true → Wf l E n0 mt_Mod_rule (d + 2) 0 0 Q0 0 0 58 [(0, .ref (m + 0)), (1, .int p), (2, .int x), (3, .int y)] [] nx t r i g := fun h => by
    refine wf_iconst 1 dc_Mod_rule_58 (by decide) ?_
    refine wf_goto 63 dc_Mod_rule_59 (by decide) ?_
    exact Wf.to (by exact ⟨rfl, rfl, rfl, rfl, trivial⟩) (go true h.symm)
  have no : pt_ok p x y = false → Wf l E n0 mt_Mod_rule (d + 2) 0 0 Q0 0 0 62 [(0, .ref (m + 0)), (1, .int p), (2, .int x), (3, .int y)] [] nx t r i g := fun h => by
    refine wf_iconst 0 dc_Mod_rule_62 (by decide) ?_
    exact Wf.to (by exact ⟨rfl, rfl, rfl, rfl, trivial⟩) (go false h.symm)
  have e6 : bw p (Int32.toInt 0) (Int32.toInt 6) = bw p 0 6 := rfl
  have e5 : bw x (Int32.toInt 0) (Int32.toInt 5) = bw x 0 5 := rfl
  refine wf_iload_n dc_Mod_rule_0 rfl ?_
  refine wf_iconst 0 dc_Mod_rule_1 (by decide) ?_
  refine wf_bipush 6 dc_Mod_rule_2 (by decide) ?_
  refine wf_is3 (M' := mt_Mod_within) dc_Mod_rule_4 tg_Mod_within ml_Mod_142 sm_Mod_within (Nat.le_of_ble_eq_true rfl) (Nat.le_refl _) (Nat.le_refl _) (c_Mod_within) qI_nt (qI_go (fun x2 i2 hp => ?_))
  obtain ⟨rfl, hq⟩ := hp; subst i2
  rw [e6]
  cases hb : bw p 0 6 with
  | false =>
    refine wf_if_eq 62 dc_Mod_rule_7 (by decide) (fun hc => ?_) (fun hc => absurd rfl hc)
    exact Wf.to (by exact ⟨rfl, rfl, rfl, rfl, trivial⟩) (no (by
      rw [← Bool.not_eq_true]
      exact fun z => by rw [pt_w z] at hb; cases hb))
  | true =>
    refine wf_if_eq 62 dc_Mod_rule_7 (by decide) (fun hc => absurd hc (by decide)) (fun hc => ?_)
    refine wf_iload_n dc_Mod_rule_10 rfl ?_
    refine wf_iconst 1 dc_Mod_rule_11 (by decide) ?_
    -- behind the first question
    have at29 : ¬ p = 2 → ¬ p = 1 ∨ bw x 0 5 = true → Wf l E n0 mt_Mod_rule (d + 2) 0 0 Q0 0 0 29 [(0, .ref (m + 0)), (1, .int p), (2, .int x), (3, .int y)] [] nx t r i g := fun h2 h1 => by
      have at51 : ¬ p = 1 → (p = 3 ∨ p = 4) → Wf l E n0 mt_Mod_rule (d + 2) 0 0 Q0 0 0 51 [(0, .ref (m + 0)), (1, .int p), (2, .int x), (3, .int y)] [] nx t r i g := fun h1 h34 => by
        have hpt : pt_ok p x y = bw x 1 30 := by
          unfold pt_ok
          rw [if_neg (fun z => by rcases h34 with q | q <;> rw [q] at z <;> revert z <;> decide), if_neg h1, if_neg h2, if_pos h34]
        refine wf_iload_n dc_Mod_rule_51 rfl ?_
        refine wf_is1 (M' := mt_Mod_isField) dc_Mod_rule_52 tg_Mod_isField ml_Mod_169 sm_Mod_isField (Nat.le_of_ble_eq_true rfl) (Nat.le_refl _) (Nat.le_refl _) (c_Mod_isField) qI_nt (qI_go (fun x2 i2 hp => ?_))
        obtain ⟨rfl, hq⟩ := hp; subst i2
        cases hx : bw x 1 30 with
        | false =>
          refine wf_if_eq 62 dc_Mod_rule_55 (by decide) (fun hc => ?_) (fun hc => absurd rfl hc)
          exact Wf.to (by exact ⟨rfl, rfl, rfl, rfl, trivial⟩) (no (hpt.trans hx))
        | true =>
          refine wf_if_eq 62 dc_Mod_rule_55 (by decide) (fun hc => absurd hc (by decide)) (fun hc => ?_)
          exact Wf.to (by exact ⟨rfl, rfl, rfl, rfl, trivial⟩) (yes (hpt.trans hx))
      refine wf_iload_n dc_Mod_rule_29 rfl ?_
      refine wf_iconst 2 dc_Mod_rule_30 (by decide) ?_
      refine wf_icmp_ne 41 dc_Mod_rule_31 (by decide) (fun hc => ?_) (fun hc => absurd hc h2)
      refine wf_iload_n dc_Mod_rule_41 rfl ?_
      refine wf_iconst 3 dc_Mod_rule_42 (by decide) ?_
      by_cases h3 : p = 3
      · refine wf_icmp_eq 51 dc_Mod_rule_43 (by decide) (fun hc => ?_) (fun hc => absurd h3 hc)
        exact Wf.to (by exact ⟨rfl, rfl, rfl, rfl, trivial⟩) (at51 (by rw [h3]; decide) (Or.inl h3))
      refine wf_icmp_eq 51 dc_Mod_rule_43 (by decide) (fun hc => absurd hc h3) (fun hc => ?_)
      refine wf_iload_n dc_Mod_rule_46 rfl ?_
      refine wf_iconst 4 dc_Mod_rule_47 (by decide) ?_
      by_cases h4 : p = 4
      · refine wf_icmp_ne 58 dc_Mod_rule_48 (by decide) (fun hc => absurd h4 hc) (fun hc => ?_)
        exact Wf.to (by exact ⟨rfl, rfl, rfl, rfl, trivial⟩) (at51 (by rw [h4]; decide) (Or.inr h4))
      refine wf_icmp_ne 58 dc_Mod_rule_48 (by decide) (fun hc => ?_) (fun hc => absurd hc h4)
      refine Wf.to (by exact ⟨rfl, rfl, rfl, rfl, trivial⟩) (yes ?_)
      unfold pt_ok
      by_cases h1' : p = 1
      · rw [if_neg (fun z => by rw [h1'] at z; revert z; decide), if_pos h1']
        exact h1.resolve_left (fun z => z h1')
      · rw [if_pos]
        obtain ⟨j, -, hj, rfl⟩ := bw_n (lo := 0) (hi := 6) hb
        have hne : ∀ k : Nat, k ≤ 6 → ¬ nI j = nI k → j ≠ k := fun k hk h z => h (by rw [z])
        have n1 : j ≠ 1 := hne 1 (by omega) h1'
        have n2 : j ≠ 2 := hne 2 (by omega) h2
        have n3 : j ≠ 3 := hne 3 (by omega) h3
        have n4 : j ≠ 4 := hne 4 (by omega) h4
        have hc : j = 0 ∨ j = 5 ∨ j = 6 := by omega
        rcases hc with rfl | rfl | rfl
        · exact Or.inl rfl
        · exact Or.inr (Or.inl rfl)
        · exact Or.inr (Or.inr rfl)
    by_cases h1 : p = 1
    · refine wf_icmp_eq 20 dc_Mod_rule_12 (by decide) (fun hc => ?_) (fun hc => absurd h1 hc)
      refine wf_iload_n dc_Mod_rule_20 rfl ?_
      refine wf_iconst 0 dc_Mod_rule_21 (by decide) ?_
      refine wf_iconst 5 dc_Mod_rule_22 (by decide) ?_
      refine wf_is3 (M' := mt_Mod_within) dc_Mod_rule_23 tg_Mod_within ml_Mod_142 sm_Mod_within (Nat.le_of_ble_eq_true rfl) (Nat.le_refl _) (Nat.le_refl _) (c_Mod_within) qI_nt (qI_go (fun x2 i2 hp => ?_))
      obtain ⟨rfl, hq⟩ := hp; subst i2
      rw [e5]
      cases hx : bw x 0 5 with
      | false =>
        refine wf_if_eq 62 dc_Mod_rule_26 (by decide) (fun hc => ?_) (fun hc => absurd rfl hc)
        refine Wf.to (by exact ⟨rfl, rfl, rfl, rfl, trivial⟩) (no ?_)
        unfold pt_ok
        rw [if_neg (fun z => by rw [h1] at z; revert z; decide), if_pos h1]
        exact hx
      | true =>
        refine wf_if_eq 62 dc_Mod_rule_26 (by decide) (fun hc => absurd hc (by decide)) (fun hc => ?_)
        exact Wf.to (by exact ⟨rfl, rfl, rfl, rfl, trivial⟩) (at29 (by rw [h1]; decide) (Or.inr hx))
    refine wf_icmp_eq 20 dc_Mod_rule_12 (by decide) (fun hc => absurd hc h1) (fun hc => ?_)
    refine wf_iload_n dc_Mod_rule_15 rfl ?_
    refine wf_iconst 2 dc_Mod_rule_16 (by decide) ?_
    by_cases h2 : p = 2
    · have hpt : pt_ok p x y = (bw x 0 5 && bw y 1 30) := by
        unfold pt_ok
        rw [if_neg (fun z => by rw [h2] at z; revert z; decide), if_neg h1, if_pos h2]
      refine wf_icmp_ne 29 dc_Mod_rule_17 (by decide) (fun hc => absurd h2 hc) (fun hc => ?_)
      refine wf_iload_n dc_Mod_rule_20 rfl ?_
      refine wf_iconst 0 dc_Mod_rule_21 (by decide) ?_
      refine wf_iconst 5 dc_Mod_rule_22 (by decide) ?_
      refine wf_is3 (M' := mt_Mod_within) dc_Mod_rule_23 tg_Mod_within ml_Mod_142 sm_Mod_within (Nat.le_of_ble_eq_true rfl) (Nat.le_refl _) (Nat.le_refl _) (c_Mod_within) qI_nt (qI_go (fun x2 i2 hp => ?_))
      obtain ⟨rfl, hq⟩ := hp; subst i2
      rw [e5]
      cases hx : bw x 0 5 with
      | false =>
        refine wf_if_eq 62 dc_Mod_rule_26 (by decide) (fun hc => ?_) (fun hc => absurd rfl hc)
        exact Wf.to (by exact ⟨rfl, rfl, rfl, rfl, trivial⟩) (no (by rw [hpt, hx]; rfl))
      | true =>
        refine wf_if_eq 62 dc_Mod_rule_26 (by decide) (fun hc => absurd hc (by decide)) (fun hc => ?_)
        refine wf_iload_n dc_Mod_rule_29 rfl ?_
        refine wf_iconst 2 dc_Mod_rule_30 (by decide) ?_
        refine wf_icmp_ne 41 dc_Mod_rule_31 (by decide) (fun hc => absurd h2 hc) (fun hc => ?_)
        refine wf_iload_n dc_Mod_rule_34 rfl ?_
        refine wf_is1 (M' := mt_Mod_isField) dc_Mod_rule_35 tg_Mod_isField ml_Mod_169 sm_Mod_isField (Nat.le_of_ble_eq_true rfl) (Nat.le_refl _) (Nat.le_refl _) (c_Mod_isField) qI_nt (qI_go (fun x2 i2 hp => ?_))
        obtain ⟨rfl, hq⟩ := hp; subst i2
        cases hy : bw y 1 30 with
        | false =>
          refine wf_if_eq 62 dc_Mod_rule_38 (by decide) (fun hc => ?_) (fun hc => absurd rfl hc)
          exact Wf.to (by exact ⟨rfl, rfl, rfl, rfl, trivial⟩) (no (by rw [hpt, hx, hy]; rfl))
        | true =>
          refine wf_if_eq 62 dc_Mod_rule_38 (by decide) (fun hc => absurd hc (by decide)) (fun hc => ?_)
          refine wf_iload_n dc_Mod_rule_41 rfl ?_
          refine wf_iconst 3 dc_Mod_rule_42 (by decide) ?_
          refine wf_icmp_eq 51 dc_Mod_rule_43 (by decide) (fun hc => absurd hc (by rw [h2]; decide)) (fun hc => ?_)
          refine wf_iload_n dc_Mod_rule_46 rfl ?_
          refine wf_iconst 4 dc_Mod_rule_47 (by decide) ?_
          refine wf_icmp_ne 58 dc_Mod_rule_48 (by decide) (fun hc => ?_) (fun hc => absurd hc (by rw [h2]; decide))
          exact Wf.to (by exact ⟨rfl, rfl, rfl, rfl, trivial⟩) (yes (by rw [hpt, hx, hy]; rfl))
    refine wf_icmp_ne 29 dc_Mod_rule_17 (by decide) (fun hc => ?_) (fun hc => absurd hc h2)
    exact Wf.to (by exact ⟨rfl, rfl, rfl, rfl, trivial⟩) (at29 h2 (Or.inl h1))
end
