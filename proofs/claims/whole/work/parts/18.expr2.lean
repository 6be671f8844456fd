/-! class Expression: runs over a text w -/
/-- the number of sign j of w -/
def sg_of (w : List Int32) (j : Nat) : Nat := (w.getD j 0).toNatClampNeg
/-- all are signs -/
def sg_ok (w : List Int32) : Prop := ∀ j, j < w.length → vp_in (w.getD j 0) 256
/-- atoms that may take sign b + k of a run that begins at b -/
def ex_S (tk fo : Nat → Int64) (fi : Int64) (m : Nat) (w : List Int32) (b : Nat) : Nat → Nat → Prop
  | 0, q => lb fi q = true
  | k + 1, q => ∃ p, p < m ∧ ex_S tk fo fi m w b k p ∧ lb (tk (sg_of w (b + k))) p = true ∧ lb (fo p) q = true
/-- the part b .. e is a run -/
def ex_A (tk fo fi la : Nat → Int64) (me : Nat → Int32) (m : Nat) (w : List Int32) (b e : Nat) : Prop :=
  (e = b ∧ me (pq_of b w.length) ≠ 0) ∨ ∃ k p, e = b + k + 1 ∧ ex_S tk fo (fi (pq_of b w.length)) m w b k p ∧ lb (tk (sg_of w (b + k))) p = true ∧ lb (la (pq_of e w.length)) p = true
/-- z is the greatest e up to n with A; -1 if there is none -/
def mx_is (A : Nat → Prop) (n : Nat) (z : Int32) : Prop := (z = -1 ∧ ∀ e, e ≤ n → ¬ A e) ∨ ∃ e, e ≤ n ∧ z = nI e ∧ A e ∧ ∀ e', e' ≤ n → A e' → e' ≤ e
theorem mx_no {A : Nat → Prop} {n m : Nat} {z : Int32} (h : mx_is A n z) (hm : n ≤ m) (hn : ∀ e, n < e → e ≤ m → ¬ A e) : mx_is A m z := by
  rcases h with ⟨h1, h2⟩ | ⟨e, h1, h2, h3, h4⟩
  · refine Or.inl ⟨h1, fun e he => ?_⟩
    by_cases h : e ≤ n
    · exact h2 e h
    · exact hn e (by omega) he
  · refine Or.inr ⟨e, by omega, h2, h3, fun e' he' hA => ?_⟩
    by_cases h : e' ≤ n
    · exact h4 e' h hA
    · exact absurd hA (hn e' (by omega) he')
theorem mx_yes {A : Nat → Prop} {n : Nat} (h : A n) : mx_is A n (nI n) := Or.inr ⟨n, Nat.le_refl _, rfl, h, fun e he _ => he⟩
theorem mx_m1 {e : Nat} (h : e < 2 ^ 31) : ¬ (-1 : Int32) = nI e := fun q => by
  have h2 : (-1 : Int32) < 0 := by decide
  rw [q] at h2
  exact nI_pos h h2
theorem mx_none {A : Nat → Prop} {n : Nat} {z : Int32} (h : mx_is A n z) (hn : n < 2 ^ 31) : z = -1 ↔ ∀ e, e ≤ n → ¬ A e := by
  rcases h with ⟨h1, h2⟩ | ⟨e, h1, h2, h3, h4⟩
  · exact ⟨fun _ => h2, fun _ => h1⟩
  · exact ⟨fun q => absurd (q.symm.trans h2) (mx_m1 (by omega)), fun q => absurd h3 (q e h1)⟩
theorem ex_S_dead {tk fo : Nat → Int64} {fi : Int64} {m b k : Nat} {w : List Int32} (h : ∀ q, ¬ ex_S tk fo fi m w b k q) : ∀ j q, ¬ ex_S tk fo fi m w b (k + j) q := by
  intro j
  induction j with
  | zero => exact h
  | succ j ih =>
    rintro q ⟨p, -, h2, -⟩
    exact ih p h2
section
variable {l : Launch} {E : We} {n0 d nx : Nat} {t : Wt} {r : Wr} {i : Wi} {g : Wl}
theorem c_Exp_longestFrom {a tk fo fi la me m b c s n : Nat} {w : List Int32} (hA : ex_at t r a tk fo fi la me) (hm : i a 5 = nI m) (hm60 : m ≤ 60) (hC : rw_at t r c s n) (hw : rw_is i c s w) (hl : w.length ≤ n) (hsg : sg_ok w) (hb : b ≤ w.length) :
    Ct l E n0 mt_Exp_longestFrom (d + 1) 0 0 [.ref a, .ref c, .int (nI b)] nx t r i g (qI nx t r g (fun z i' => mx_is (ex_A (g tk) (g fo) (g fi) (g la) (i me) m w b) w.length z ∧ i' = i)) := by
  have hA' := hA
  obtain ⟨ha, ⟨r0, t0⟩, ⟨r1, t1⟩, ⟨r2, t2⟩, ⟨r3, t3⟩, ⟨r4, t4⟩, hne⟩ := hA
  obtain ⟨hc, hr, hs, hn⟩ := hC
  obtain ⟨w1, w2⟩ := hw
  have hk1 := pq_lt b w.length
  refine Ct.of (by decide) (Nat.le_of_ble_eq_true rfl) ?_
  refine wf_aload_n dc_Exp_longestFrom_0 rfl ?_
  refine wf_getr dc_Exp_longestFrom_1 fl_Exp_24 rfl (by assumption) (by assumption) ?_
  refine wf_iload_n dc_Exp_longestFrom_4 rfl ?_
  refine wf_aload_n dc_Exp_longestFrom_5 rfl ?_
  refine wf_geti dc_Exp_longestFrom_6 fl_Exp_38 rfl (by assumption) ?_
  rw [w1]
  refine wf_is2 (M' := mt_Exp_kindOf) dc_Exp_longestFrom_9 tg_Exp_kindOf ml_Exp_47 sm_Exp_kindOf (Nat.le_of_ble_eq_true rfl) (Nat.le_refl _) (Nat.le_refl _) (c_Exp_kindOf (p := b) (n := w.length) (by omega) (by omega)) qI_nt (qI_go (fun x2 i2 hp => ?_))
  obtain ⟨rfl, rfl⟩ := hp
  refine wf_zaload (y := 1) dc_Exp_longestFrom_12 rfl (by assumption) (vp_in_nI hk1 (by omega)) ?_
  rw [nI_clamp (by omega)]
  have rest : ∀ z : Int32, mx_is (ex_A (g tk) (g fo) (g fi) (g la) (i2 me) m w b) b z → Wf l E n0 mt_Exp_longestFrom (d + 1) 0 0 (qI nx t r g (fun z i' => mx_is (ex_A (g tk) (g fo) (g fi) (g la) (i2 me) m w b) w.length z ∧ i' = i2)) 0 0 21 [(0, .ref a), (1, .ref c), (2, .int (nI b))] [.int z] nx t r i2 g := by
    intro z hz
    refine wf_istore_n dc_Exp_longestFrom_21 (by decide) ?_
    refine wf_aload_n dc_Exp_longestFrom_22 rfl ?_
    refine wf_getr dc_Exp_longestFrom_23 fl_Exp_18 rfl (by assumption) (by assumption) ?_
    refine wf_iload_n dc_Exp_longestFrom_26 rfl ?_
    refine wf_aload_n dc_Exp_longestFrom_27 rfl ?_
    refine wf_geti dc_Exp_longestFrom_28 fl_Exp_38 rfl (by assumption) ?_
    rw [w1]
    refine wf_is2 (M' := mt_Exp_kindOf) dc_Exp_longestFrom_31 tg_Exp_kindOf ml_Exp_47 sm_Exp_kindOf (Nat.le_of_ble_eq_true rfl) (Nat.le_refl _) (Nat.le_refl _) (c_Exp_kindOf (p := b) (n := w.length) (by omega) (by omega)) qI_nt (qI_go (fun x2 i2 hp => ?_))
    obtain ⟨rfl, rfl⟩ := hp
    refine wf_laload (y := 2) dc_Exp_longestFrom_34 rfl (by assumption) (vp_in_nI hk1 (by omega)) ?_
    rw [nI_clamp (by omega)]
    refine wf_lstore dc_Exp_longestFrom_35 (by decide) ?_
    refine wf_iload_n dc_Exp_longestFrom_37 rfl ?_
    refine wf_istore dc_Exp_longestFrom_38 (by decide) ?_
    have loop : ∀ (q k : Nat) (z x : Int64) (y : Int32), b + k + q = w.length → (∀ p, lb x p = true ↔ ex_S (g tk) (g fo) (g fi (pq_of b w.length)) m w b k p) → mx_is (ex_A (g tk) (g fo) (g fi) (g la) (i2 me) m w b) (b + k) y →
        Wf l E n0 mt_Exp_longestFrom (d + 1) 0 0 (qI nx t r g (fun z i' => mx_is (ex_A (g tk) (g fo) (g fi) (g la) (i2 me) m w b) w.length z ∧ i' = i2)) 0 0 40 [(0, .ref a), (1, .ref c), (3, .int y), (4, .long x), (6, .int (nI (b + k)))] [] nx t r i2 g := by
      intro q
      induction q with
      | zero =>
        intro k z x y hq hx hy
        refine wf_iload dc_Exp_longestFrom_40 rfl ?_
        refine wf_aload_n dc_Exp_longestFrom_42 rfl ?_
        refine wf_geti dc_Exp_longestFrom_43 fl_Exp_38 rfl (by assumption) ?_
        rw [w1]
        refine wf_icmp_ge 116 dc_Exp_longestFrom_46 (by decide) (fun hc => ?_) (fun hc => absurd ((nI_leI (by omega) (by omega)).mpr (by omega)) hc)
        refine wf_iload_n dc_Exp_longestFrom_116 rfl ?_
        rw [show b + k = w.length by omega] at hy
        exact wf_ireturn rfl dc_Exp_longestFrom_117 ⟨_, rfl, rfl, rfl, rfl, rfl, hy, rfl⟩
      | succ q ih =>
        intro k z x y hq hx hy
        refine wf_iload dc_Exp_longestFrom_40 rfl ?_
        refine wf_aload_n dc_Exp_longestFrom_42 rfl ?_
        refine wf_geti dc_Exp_longestFrom_43 fl_Exp_38 rfl (by assumption) ?_
        rw [w1]
        refine wf_icmp_ge 116 dc_Exp_longestFrom_46 (by decide) (fun hc => absurd ((nI_leI (by omega) (by omega)).mp hc) (by omega)) (fun hc => ?_)
        refine wf_lload dc_Exp_longestFrom_49 rfl ?_
        refine wf_lconst 0 dc_Exp_longestFrom_51 (by decide) ?_
        refine wf_lcmp dc_Exp_longestFrom_52 ?_
        refine wf_if_eq 116 dc_Exp_longestFrom_53 (by decide) (fun hc2 => ?_) (fun hc2 => ?_)
        · have hx0 := (lg_cmp_eq _ _).mp hc2
          refine wf_iload_n dc_Exp_longestFrom_116 rfl ?_
          refine wf_ireturn rfl dc_Exp_longestFrom_117 ⟨_, rfl, rfl, rfl, rfl, rfl, ?_, rfl⟩
          refine mx_no hy (by omega) (fun e h1 h2 hA => ?_)
          rcases hA with ⟨h3, -⟩ | ⟨k', p, h3, h4, -⟩
          · omega
          · refine ex_S_dead (k := k) (fun q h => ?_) (k' - k) p (by rw [show k + (k' - k) = k' by omega]; exact h4)
            have h5 := (hx q).mpr h
            rw [hx0, lb_0] at h5
            cases h5
        · have hlt : b + k < w.length := by omega
          have hcl : (nI (b + k)).toNatClampNeg = b + k := nI_clamp (by omega)
          refine wf_lload dc_Exp_longestFrom_56 rfl ?_
          refine wf_aload_n dc_Exp_longestFrom_58 rfl ?_
          refine wf_getr dc_Exp_longestFrom_59 fl_Exp_9 rfl (by assumption) (by assumption) ?_
          refine wf_aload_n dc_Exp_longestFrom_62 rfl ?_
          refine wf_getr dc_Exp_longestFrom_63 fl_Exp_51 rfl (by assumption) (by assumption) ?_
          refine wf_iload dc_Exp_longestFrom_66 rfl ?_
          refine wf_iaload (y := 0) dc_Exp_longestFrom_68 rfl (by assumption) (vp_in_nI (by omega) (by omega)) ?_
          rw [hcl, w2 _ hlt]
          have hk2 := pq_lt (b + k + 1) w.length
          refine wf_laload (y := 2) dc_Exp_longestFrom_69 rfl (by assumption) (hsg _ hlt) ?_
          refine wf_land dc_Exp_longestFrom_70 ?_
          refine wf_lstore dc_Exp_longestFrom_71 (by decide) ?_
          refine wf_lload dc_Exp_longestFrom_73 rfl ?_
          refine wf_aload_n dc_Exp_longestFrom_75 rfl ?_
          refine wf_getr dc_Exp_longestFrom_76 fl_Exp_21 rfl (by assumption) (by assumption) ?_
          refine wf_iload dc_Exp_longestFrom_79 rfl ?_
          refine wf_iconst 1 dc_Exp_longestFrom_81 (by decide) ?_
          refine wf_iadd dc_Exp_longestFrom_82 ?_
          rw [nI_1]
          refine wf_aload_n dc_Exp_longestFrom_83 rfl ?_
          refine wf_geti dc_Exp_longestFrom_84 fl_Exp_38 rfl (by assumption) ?_
          rw [w1]
          refine wf_is2 (M' := mt_Exp_kindOf) dc_Exp_longestFrom_87 tg_Exp_kindOf ml_Exp_47 sm_Exp_kindOf (Nat.le_of_ble_eq_true rfl) (Nat.le_refl _) (Nat.le_refl _) (c_Exp_kindOf (p := b + k + 1) (n := w.length) (by omega) (by omega)) qI_nt (qI_go (fun x2 i2 hp => ?_))
          obtain ⟨rfl, rfl⟩ := hp
          refine wf_laload (y := 2) dc_Exp_longestFrom_90 rfl (by assumption) (vp_in_nI hk2 (by omega)) ?_
          rw [nI_clamp (by omega)]
          refine wf_land dc_Exp_longestFrom_91 ?_
          refine wf_lconst 0 dc_Exp_longestFrom_92 (by decide) ?_
          refine wf_lcmp dc_Exp_longestFrom_93 ?_
          have go : ∀ y' : Int32, mx_is (ex_A (g tk) (g fo) (g fi) (g la) (i2 me) m w b) (b + k + 1) y' → Wf l E n0 mt_Exp_longestFrom (d + 1) 0 0 (qI nx t r g (fun z i' => mx_is (ex_A (g tk) (g fo) (g fi) (g la) (i2 me) m w b) w.length z ∧ i' = i2)) 0 0 102 [(0, .ref a), (1, .ref c), (3, .int y'), (4, .long x), (6, .int (nI (b + k))), (7, .long (x &&& g tk (sg_of w (b + k))))] [] nx t r i2 g := by
            intro y' hy'
            refine wf_aload_n dc_Exp_longestFrom_102 rfl ?_
            refine wf_lload dc_Exp_longestFrom_103 rfl ?_
            refine wf_iv1 (M' := mt_Exp_followersOf) (c := 2) dc_Exp_longestFrom_105 tg_Exp_followersOf ml_Exp_55 im_Exp_followersOf se_Exp_followersOf ⟨_, rfl, rfl⟩ (by assumption) (Nat.le_of_ble_eq_true rfl) (Nat.le_refl _) (Nat.le_refl _) (c_Exp_followersOf hA' hm hm60) qL_nt (qL_go (fun x2 i2 hp => ?_))
            obtain ⟨hx2, rfl⟩ := hp
            refine wf_lstore dc_Exp_longestFrom_108 (by decide) ?_
            refine wf_iinc _ dc_Exp_longestFrom_110 rfl (nI_1 (b + k)) (by decide) ?_
            refine wf_goto 40 dc_Exp_longestFrom_113 (by decide) ?_
            refine Wf.to (by exact ⟨rfl, rfl, rfl, rfl, rfl, trivial⟩) (ih (k + 1) 0 _ y' (by omega) (fun p => ?_) hy')
            rw [hx2 p]
            constructor
            · rintro ⟨j, h1, h2, h3⟩
              rw [lb_and, Bool.and_eq_true] at h2
              exact ⟨j, h1, (hx j).mp h2.1, h2.2, h3⟩
            · rintro ⟨j, h1, h2, h3, h4⟩
              refine ⟨j, h1, ?_, h4⟩
              rw [lb_and, Bool.and_eq_true]
              exact ⟨(hx j).mpr h2, h3⟩
          refine wf_if_eq 102 dc_Exp_longestFrom_94 (by decide) (fun hc3 => ?_) (fun hc3 => ?_)
          · have h0 := lb_eq0.mp ((lg_cmp_eq _ _).mp hc3)
            refine Wf.to (by exact ⟨rfl, rfl, rfl, rfl, rfl, rfl, trivial⟩) (go y (mx_no hy (by omega) (fun e h1 h2 hA => ?_)))
            have he : e = b + k + 1 := by omega
            rcases hA with ⟨h3, -⟩ | ⟨k', p, h3, h4, h5, h6⟩
            · omega
            · have hk' : k' = k := by omega
              subst hk'
              have h7 := h0 p
              rw [he] at h6
              rw [lb_and, lb_and, (hx p).mpr h4] at h7
              unfold sg_of at h5
              rw [h5, h6] at h7
              cases h7
          · obtain ⟨p, h0⟩ := lb_ne0.mp (fun q => hc3 ((lg_cmp_eq _ _).mpr q))
            rw [lb_and, lb_and, Bool.and_eq_true, Bool.and_eq_true] at h0
            refine wf_iload dc_Exp_longestFrom_97 rfl ?_
            refine wf_iconst 1 dc_Exp_longestFrom_99 (by decide) ?_
            refine wf_iadd dc_Exp_longestFrom_100 ?_
            rw [nI_1]
            refine wf_istore_n dc_Exp_longestFrom_101 (by decide) ?_
            exact Wf.to (by exact ⟨rfl, rfl, rfl, rfl, rfl, rfl, trivial⟩) (go _ (mx_yes (Or.inr ⟨k, p, rfl, (hx p).mp h0.1.1, h0.1.2, h0.2⟩)))
    exact Wf.to (by exact ⟨rfl, rfl, rfl, rfl, rfl, trivial⟩) (loop (w.length - b) 0 0 _ z (by omega) (fun p => Iff.rfl) hz)
  refine wf_if_eq 20 dc_Exp_longestFrom_13 (by decide) (fun hc => ?_) (fun hc => ?_)
  · refine wf_iconst (-1) dc_Exp_longestFrom_20 (by decide) ?_
    refine Wf.to (by exact ⟨rfl, rfl, rfl, trivial⟩) (rest (-1) (Or.inl ⟨rfl, fun e he hA => ?_⟩))
    rcases hA with ⟨h1, h2⟩ | ⟨k, p, h1, -⟩
    · exact h2 hc
    · omega
  · refine wf_iload_n dc_Exp_longestFrom_16 rfl ?_
    refine wf_goto 21 dc_Exp_longestFrom_17 (by decide) ?_
    exact Wf.to (by exact ⟨rfl, rfl, rfl, trivial⟩) (rest (nI b) (mx_yes (Or.inl ⟨rfl, hc⟩)))
/-- the least place from p on from which there is a run -/
theorem c_Exp_firstFrom {a tk fo fi la me m b c s n : Nat} {w : List Int32} (hA : ex_at t r a tk fo fi la me) (hm : i a 5 = nI m) (hm60 : m ≤ 60) (hC : rw_at t r c s n) (hw : rw_is i c s w) (hl : w.length ≤ n) (hsg : sg_ok w) (hb : b ≤ w.length + 1) :
    Ct l E n0 mt_Exp_firstFrom (d + 2) 0 0 [.ref a, .ref c, .int (nI b)] nx t r i g (qI nx t r g (fun z i' => ((z = -1 ∧ ∀ p, b ≤ p → p ≤ w.length → ∀ e, e ≤ w.length → ¬ ex_A (g tk) (g fo) (g fi) (g la) (i me) m w p e) ∨ ∃ p, b ≤ p ∧ p ≤ w.length ∧ z = nI p ∧ (∃ e, e ≤ w.length ∧ ex_A (g tk) (g fo) (g fi) (g la) (i me) m w p e) ∧ ∀ p', b ≤ p' → p' < p → ∀ e, e ≤ w.length → ¬ ex_A (g tk) (g fo) (g fi) (g la) (i me) m w p' e) ∧ i' = i)) := by
  have hA' := hA
  have hC' := hC
  have hw' := hw
  obtain ⟨ha, -⟩ := hA
  obtain ⟨hc, hr, hs, hn⟩ := hC
  obtain ⟨w1, w2⟩ := hw
  refine Ct.of (by decide) (Nat.le_of_ble_eq_true rfl) ?_
  refine wf_iload_n dc_Exp_firstFrom_0 rfl ?_
  refine wf_istore_n dc_Exp_firstFrom_1 (by decide) ?_
  have loop : ∀ (k p : Nat), p + k = w.length + 1 → b ≤ p → (∀ p', b ≤ p' → p' < p → ∀ e, e ≤ w.length → ¬ ex_A (g tk) (g fo) (g fi) (g la) (i me) m w p' e) →
      Wf l E n0 mt_Exp_firstFrom (d + 2) 0 0 (qI nx t r g (fun z i' => ((z = -1 ∧ ∀ p, b ≤ p → p ≤ w.length → ∀ e, e ≤ w.length → ¬ ex_A (g tk) (g fo) (g fi) (g la) (i me) m w p e) ∨ ∃ p, b ≤ p ∧ p ≤ w.length ∧ z = nI p ∧ (∃ e, e ≤ w.length ∧ ex_A (g tk) (g fo) (g fi) (g la) (i me) m w p e) ∧ ∀ p', b ≤ p' → p' < p → ∀ e, e ≤ w.length → ¬ ex_A (g tk) (g fo) (g fi) (g la) (i me) m w p' e) ∧ i' = i)) 0 0 2 [(0, .ref a), (1, .ref c), (3, .int (nI p))] [] nx t r i g := by
    intro k
    induction k with
    | zero =>
      intro p hp hbp hno
      refine wf_iload_n dc_Exp_firstFrom_2 rfl ?_
      refine wf_aload_n dc_Exp_firstFrom_3 rfl ?_
      refine wf_geti dc_Exp_firstFrom_4 fl_Exp_38 rfl (by assumption) ?_
      rw [w1]
      refine wf_icmp_gt 28 dc_Exp_firstFrom_7 (by decide) (fun hc => ?_) (fun hc => absurd ((nI_ltI (by omega) (by omega)).mpr (by omega)) hc)
      refine wf_iconst (-1) dc_Exp_firstFrom_28 (by decide) ?_
      exact wf_ireturn rfl dc_Exp_firstFrom_29 ⟨_, rfl, rfl, rfl, rfl, rfl, Or.inl ⟨rfl, fun p' h1 h2 => hno p' h1 (by omega)⟩, rfl⟩
    | succ k ih =>
      intro p hp hbp hno
      refine wf_iload_n dc_Exp_firstFrom_2 rfl ?_
      refine wf_aload_n dc_Exp_firstFrom_3 rfl ?_
      refine wf_geti dc_Exp_firstFrom_4 fl_Exp_38 rfl (by assumption) ?_
      rw [w1]
      refine wf_icmp_gt 28 dc_Exp_firstFrom_7 (by decide) (fun hc => absurd ((nI_ltI (by omega) (by omega)).mp hc) (by omega)) (fun hc => ?_)
      refine wf_aload_n dc_Exp_firstFrom_10 rfl ?_
      refine wf_aload_n dc_Exp_firstFrom_11 rfl ?_
      refine wf_iload_n dc_Exp_firstFrom_12 rfl ?_
      refine wf_iv2 (M' := mt_Exp_longestFrom) (c := 2) dc_Exp_firstFrom_13 tg_Exp_longestFrom ml_Exp_43 im_Exp_longestFrom se_Exp_longestFrom ⟨_, rfl, rfl⟩ (by assumption) (Nat.le_of_ble_eq_true rfl) (Nat.le_refl _) (Nat.le_refl _) (c_Exp_longestFrom hA' hm hm60 hC' hw' hl hsg (by omega)) qI_nt (qI_go (fun x2 i2 hp => ?_))
      obtain ⟨hmx, rfl⟩ := hp
      refine wf_iconst (-1) dc_Exp_firstFrom_16 (by decide) ?_
      refine wf_icmp_eq 22 dc_Exp_firstFrom_17 (by decide) (fun hc2 => ?_) (fun hc2 => ?_)
      · have h0 := (mx_none hmx (by omega)).mp hc2
        refine wf_iinc _ dc_Exp_firstFrom_22 rfl (nI_1 p) (by decide) ?_
        refine wf_goto 2 dc_Exp_firstFrom_25 (by decide) ?_
        refine Wf.to (by exact ⟨rfl, rfl, rfl, trivial⟩) (ih (p + 1) (by omega) (by omega) (fun p' h1 h2 => ?_))
        by_cases hpp : p' = p
        · rw [hpp]; exact h0
        · exact hno p' h1 (by omega)
      · refine wf_iload_n dc_Exp_firstFrom_20 rfl ?_
        refine wf_ireturn rfl dc_Exp_firstFrom_21 ⟨_, rfl, rfl, rfl, rfl, rfl, Or.inr ⟨p, hbp, by omega, rfl, ?_, hno⟩, rfl⟩
        rcases hmx with ⟨h1, -⟩ | ⟨e, h1, h2, h3, h4⟩
        · exact absurd h1 hc2
        · exact ⟨e, h1, h3⟩
  exact Wf.to (by exact ⟨rfl, rfl, rfl, trivial⟩) (loop (w.length + 1 - b) b (by omega) (Nat.le_refl _) (fun p' h1 h2 => by omega))
end
