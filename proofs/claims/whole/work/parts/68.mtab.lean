/-! the reference: compared, copyKey, grow -/
theorem sg_lt {a b : Nat} (ha : a < 2 ^ 30) (hb : b < 2 ^ 30) : nI a - nI b < 0 ↔ a < b := by
  rw [Int32.lt_iff_toInt_lt, pk_sub_toInt ha hb, show (0 : Int32).toInt = 0 from rfl]
  omega
theorem sg_eq {a b : Nat} (ha : a < 2 ^ 30) (hb : b < 2 ^ 30) : nI a - nI b = 0 ↔ a = b := by
  rw [← Int32.toInt_inj, pk_sub_toInt ha hb, show (0 : Int32).toInt = 0 from rfl]
  omega
/-- key k in the reference -/
def mk_is (i : Wi) (m k : Nat) (q : List Int32 × Int32) : Prop := i (m + 16) k = nI q.1.length ∧ i (m + 17) k = q.2 ∧ mz i (m + 15) (120 * k) q.1
def mk_S (k : Nat) : Ms := [(16, k, k + 1), (17, k, k + 1), (15, 120 * k, 120 * k + 120)]
def mK_S : Ms := [(0, 19, 20), (16, 0, 40), (17, 0, 40), (15, 0, 4800)]
section
variable {l : Launch} {E : We} {n0 d nx : Nat} {t : Wt} {r : Wr} {i i' : Wi} {g : Wl} {m : Nat} {S : Ms}
theorem mk_no {a b : Nat} (h : a ≠ b) : ms_no (mk_S b) 16 a (a + 1) ∧ ms_no (mk_S b) 17 a (a + 1) ∧ ms_no (mk_S b) 15 (120 * a) (120 * a + 120) := by
  refine ⟨?_, ?_, ?_⟩ <;> intro q hq z <;> simp only [mk_S, List.mem_cons, List.not_mem_nil, or_false] at hq <;> rcases hq with rfl | rfl | rfl <;> simp only at z ⊢ <;> omega
theorem mk_is.fr {a b : Nat} {q : List Int32 × Int32} (h : mk_is i m a q) (hl : q.1.length ≤ 120) (hf : mf m (mk_S b) i i') (hab : a ≠ b) : mk_is i' m a q := by
  obtain ⟨n1, n2, n3⟩ := mk_no hab
  exact ⟨(hf.at n1).trans h.1, (hf.at n2).trans h.2.1, h.2.2.fr hf (n3.mono (Nat.le_refl _) (by omega))⟩
theorem mp_fld.mK {F : List (List Int32)} (h : mp_fld i m F) (hf : mf m mK_S i i') : mp_fld i' m F := h.fr hf (by simp [ms_no, mK_S]) (fun c c1 c2 q hq => by simp only [mK_S, List.mem_cons, List.not_mem_nil, or_false] at hq; rcases hq with rfl | rfl | rfl | rfl <;> simp only <;> omega)
theorem mk_mK {k : Nat} (hk : k < 40) (hf : mf m (mk_S k) i i') : mf m mK_S i i' := mf_mo hf (fun q hq => by
  simp only [mk_S, List.mem_cons, List.not_mem_nil, or_false] at hq
  rcases hq with rfl | rfl | rfl
  · exact ⟨(16, 0, 40), by simp [mK_S], rfl, Nat.zero_le _, by simp only; omega⟩
  · exact ⟨(17, 0, 40), by simp [mK_S], rfl, Nat.zero_le _, by simp only; omega⟩
  · exact ⟨(15, 0, 4800), by simp [mK_S], rfl, Nat.zero_le _, by simp only; omega⟩)
theorem c_Mod_compared {f k : Nat} {F : List (List Int32)} {v : List Int32} {x : Int32} (hA : mo_at t r m) (hF : mp_fld i m F) (h30 : F.length ≤ 30) (h1 : 1 ≤ f) (h2 : f ≤ 30) (hw : s1 (fdn F f)) (hk : k < 40) (hK : mk_is i m k (v, x)) (hv : s1 v) : Ct l E n0 mt_Mod_compared (d + 1) 0 0 [.ref (m + 0), .int (nI f), .int (nI k)] nx t r i g (qI nx t r g (fun z i' => ((0 < z ↔ cm_go v (fdn F f) < 0) ∧ (z = 0 ↔ cm_go v (fdn F f) = 0)) ∧ i' = i)) := by
  have t0 := hA.1.1
  have r20 : r (m + 0) 20 = some (m + 15) := hA.2 (0, 20, 15) (by decide +kernel)
  have r21 : r (m + 0) 21 = some (m + 16) := hA.2 (0, 21, 16) (by decide +kernel)
  have t15 := hA.1.2 15 (15, .inr (0, 4800)) (by decide +kernel)
  have t16 := hA.1.2 16 (16, .inr (0, 40)) (by decide +kernel)
  have ck : (nI k).toNatClampNeg = k := nI_clamp (by omega)
  have hwl := hw.1
  have hvl := hv.1
  have hsz := c_Mod_sizeOf (l := l) (E := E) (n0 := n0) (d := d) (nx := nx) (g := g) hA hF h30 h1 h2
  generalize hw0 : fdn F f = w at hsz hw hwl ⊢
  have hsg : ∀ j, j < w.length → Ct l E n0 mt_Mod_signOf d 0 0 [.ref (m + 0), .int (nI f), .int (nI j)] nx t r i g (qI nx t r g (fun z i' => z = w.getD j 0 ∧ i' = i)) := fun j hj => by
    rw [← hw0] at hj hwl ⊢
    exact c_Mod_signOf hA hF h30 h1 hj hwl
  have kl : i (m + 16) k = nI v.length := hK.1
  refine Ct.of (by decide) (Nat.le_of_ble_eq_true rfl) ?_
  refine wf_aload_n dc_Mod_compared_0 rfl ?_
  refine wf_iload_n dc_Mod_compared_1 rfl ?_
  refine wf_iv1 (M' := mt_Mod_sizeOf) (c := 8) dc_Mod_compared_2 tg_Mod_sizeOf ml_Mod_184 im_Mod_sizeOf se_Mod_sizeOf ⟨_, rfl, rfl⟩ (by assumption) (Nat.le_of_ble_eq_true rfl) (Nat.le_refl _) (Nat.le_refl _) (hsz) qI_nt (qI_go (fun x2 i2 hp => ?_))
  refine wf_istore_n dc_Mod_compared_5 (by decide) ?_
  refine wf_iconst 0 dc_Mod_compared_6 (by decide) ?_
  refine wf_istore dc_Mod_compared_7 (by decide) ?_
  obtain ⟨rfl, hq⟩ := hp; subst i2
  have fin : ∀ j, j ≤ w.length → j ≤ v.length → (j = w.length ∨ j = v.length) → cm_go (v.drop j) (w.drop j) = cm_go v w → Wf l E n0 mt_Mod_compared (d + 1) 0 0 (qI nx t r g (fun z i' => ((0 < z ↔ cm_go v w < 0) ∧ (z = 0 ↔ cm_go v w = 0)) ∧ i' = i)) 0 0 75 [(0, .ref (m + 0)), (1, .int (nI f)), (2, .int (nI k)), (3, .int (nI w.length)), (4, .int (nI j))] [] nx t r i g := by
    intro j j1 j2 j3 he
    rw [cm_end j2 j1 j3.symm (by omega) (by omega)] at he
    rw [← he]
    refine wf_iload_n dc_Mod_compared_75 rfl ?_
    refine wf_aload_n dc_Mod_compared_76 rfl ?_
    refine wf_getr dc_Mod_compared_77 fl_Mod_59 rfl (by assumption) (by assumption) ?_
    refine wf_iload_n dc_Mod_compared_80 rfl ?_
    refine wf_iaload (y := 0) dc_Mod_compared_81 rfl (by assumption) (vp_in_nI (by omega) (by omega)) ?_
    rw [ck, kl]
    by_cases c1 : w.length < v.length
    · refine wf_icmp_ge 89 dc_Mod_compared_82 (by decide) (fun hc => absurd ((nI_leI (by omega) (by omega)).mp hc) (by omega)) (fun hc => ?_)
      refine wf_iconst (-1) dc_Mod_compared_85 (by decide) ?_
      refine wf_goto 104 dc_Mod_compared_86 (by decide) ?_
      exact wf_ireturn rfl dc_Mod_compared_104 ⟨_, rfl, rfl, rfl, rfl, rfl, ⟨⟨fun z => absurd z (by decide), fun z => absurd ((sg_lt (by omega) (by omega)).mp z) (by omega)⟩, ⟨fun z => absurd z (by decide), fun z => absurd ((sg_eq (by omega) (by omega)).mp z) (by omega)⟩⟩, rfl⟩
    · refine wf_icmp_ge 89 dc_Mod_compared_82 (by decide) (fun hc => ?_) (fun hc => absurd ((nI_leI (by omega) (by omega)).mpr (by omega)) hc)
      refine wf_iload_n dc_Mod_compared_89 rfl ?_
      refine wf_aload_n dc_Mod_compared_90 rfl ?_
      refine wf_getr dc_Mod_compared_91 fl_Mod_59 rfl (by assumption) (by assumption) ?_
      refine wf_iload_n dc_Mod_compared_94 rfl ?_
      refine wf_iaload (y := 0) dc_Mod_compared_95 rfl (by assumption) (vp_in_nI (by omega) (by omega)) ?_
      rw [ck, kl]
      by_cases c2 : v.length < w.length
      · refine wf_icmp_le 103 dc_Mod_compared_96 (by decide) (fun hc => absurd ((nI_leI (by omega) (by omega)).mp hc) (by omega)) (fun hc => ?_)
        refine wf_iconst 1 dc_Mod_compared_99 (by decide) ?_
        refine wf_goto 104 dc_Mod_compared_100 (by decide) ?_
        exact wf_ireturn rfl dc_Mod_compared_104 ⟨_, rfl, rfl, rfl, rfl, rfl, ⟨⟨fun _ => (sg_lt (by omega) (by omega)).mpr c2, fun _ => by decide⟩, ⟨fun z => absurd z (by decide), fun z => absurd ((sg_eq (by omega) (by omega)).mp z) (by omega)⟩⟩, rfl⟩
      · refine wf_icmp_le 103 dc_Mod_compared_96 (by decide) (fun hc => ?_) (fun hc => absurd ((nI_leI (by omega) (by omega)).mpr (by omega)) hc)
        refine wf_iconst 0 dc_Mod_compared_103 (by decide) ?_
        exact wf_ireturn rfl dc_Mod_compared_104 ⟨_, rfl, rfl, rfl, rfl, rfl, ⟨⟨fun z => absurd z (by decide), fun z => absurd ((sg_lt (by omega) (by omega)).mp z) (by omega)⟩, ⟨fun _ => (sg_eq (by omega) (by omega)).mpr (by omega), fun _ => rfl⟩⟩, rfl⟩
  have loop : ∀ c j : Nat, j + c = w.length → j ≤ v.length → cm_go (v.drop j) (w.drop j) = cm_go v w → Wf l E n0 mt_Mod_compared (d + 1) 0 0 (qI nx t r g (fun z i' => ((0 < z ↔ cm_go v w < 0) ∧ (z = 0 ↔ cm_go v w = 0)) ∧ i' = i)) 0 0 9 [(0, .ref (m + 0)), (1, .int (nI f)), (2, .int (nI k)), (3, .int (nI w.length)), (4, .int (nI j))] [] nx t r i g := by
    intro c
    induction c with
    | zero =>
      intro j hj hjv he
      refine wf_iload dc_Mod_compared_9 rfl ?_
      refine wf_iload_n dc_Mod_compared_11 rfl ?_
      refine wf_icmp_ge 75 dc_Mod_compared_12 (by decide) (fun hc => ?_) (fun hc => absurd ((nI_leI (by omega) (by omega)).mpr (by omega)) hc)
      exact Wf.to (by exact ⟨rfl, rfl, rfl, rfl, rfl, trivial⟩) (fin j (by omega) hjv (Or.inl (by omega)) he)
    | succ c ih =>
      intro j hj hjv he
      refine wf_iload dc_Mod_compared_9 rfl ?_
      refine wf_iload_n dc_Mod_compared_11 rfl ?_
      refine wf_icmp_ge 75 dc_Mod_compared_12 (by decide) (fun hc => absurd ((nI_leI (by omega) (by omega)).mp hc) (by omega)) (fun hc => ?_)
      refine wf_iload dc_Mod_compared_15 rfl ?_
      refine wf_aload_n dc_Mod_compared_17 rfl ?_
      refine wf_getr dc_Mod_compared_18 fl_Mod_59 rfl (by assumption) (by assumption) ?_
      refine wf_iload_n dc_Mod_compared_21 rfl ?_
      refine wf_iaload (y := 0) dc_Mod_compared_22 rfl (by assumption) (vp_in_nI (by omega) (by omega)) ?_
      rw [ck, kl]
      by_cases hje : j = v.length
      · refine wf_icmp_ge 75 dc_Mod_compared_23 (by decide) (fun hc => ?_) (fun hc => absurd ((nI_leI (by omega) (by omega)).mpr (by omega)) hc)
        exact Wf.to (by exact ⟨rfl, rfl, rfl, rfl, rfl, trivial⟩) (fin j (by omega) hjv (Or.inr hje) he)
      refine wf_icmp_ge 75 dc_Mod_compared_23 (by decide) (fun hc => absurd ((nI_leI (by omega) (by omega)).mp hc) (by omega)) (fun hc => ?_)
      refine wf_aload_n dc_Mod_compared_26 rfl ?_
      refine wf_iload_n dc_Mod_compared_27 rfl ?_
      refine wf_iload dc_Mod_compared_28 rfl ?_
      refine wf_iv2 (M' := mt_Mod_signOf) (c := 8) dc_Mod_compared_30 tg_Mod_signOf ml_Mod_187 im_Mod_signOf se_Mod_signOf ⟨_, rfl, rfl⟩ (by assumption) (Nat.le_of_ble_eq_true rfl) (Nat.le_refl _) (Nat.le_refl _) (hsg j (by omega)) qI_nt (qI_go (fun x2 i2 hp => ?_))
      obtain ⟨rfl, hq⟩ := hp; subst i2
      refine wf_istore dc_Mod_compared_33 (by decide) ?_
      refine wf_aload_n dc_Mod_compared_35 rfl ?_
      refine wf_getr dc_Mod_compared_36 fl_Mod_56 rfl (by assumption) (by assumption) ?_
      refine wf_bipush 120 dc_Mod_compared_39 (by decide) ?_
      refine wf_iload_n dc_Mod_compared_41 rfl ?_
      refine wf_imul dc_Mod_compared_42 ?_
      rw [n120]
      refine wf_iload dc_Mod_compared_43 rfl ?_
      refine wf_iadd dc_Mod_compared_45 ?_
      rw [nI_add]
      refine wf_iaload (y := 0) dc_Mod_compared_46 rfl (by assumption) (vp_in_nI (by omega) (by omega)) ?_
      rw [nI_clamp (show 120 * k + j < 2 ^ 31 by omega), show i (m + 15) (120 * k + j) = v.getD j 0 from hK.2.2 j (show j < v.length by omega)]
      rw [cm_step (by omega) (by omega)] at he
      refine wf_istore dc_Mod_compared_47 (by decide) ?_
      refine wf_iload dc_Mod_compared_49 rfl ?_
      refine wf_iload dc_Mod_compared_51 rfl ?_
      by_cases hab : v.getD j 0 = w.getD j 0
      · rw [if_pos hab] at he
        refine wf_icmp_eq 69 dc_Mod_compared_53 (by decide) (fun hc => ?_) (fun hc => absurd hab.symm hc)
        refine wf_iinc _ dc_Mod_compared_69 rfl (nI_1 j) (by decide) ?_
        refine wf_goto 9 dc_Mod_compared_72 (by decide) ?_
        exact Wf.to (by exact ⟨rfl, rfl, rfl, rfl, rfl, trivial⟩) (ih (j + 1) (by omega) (by omega) he)
      · rw [if_neg hab] at he
        refine wf_icmp_eq 69 dc_Mod_compared_53 (by decide) (fun hc => absurd hc.symm hab) (fun hc => ?_)
        obtain ⟨ca, a1, a2, a3⟩ := hw.2 j (by omega)
        obtain ⟨cb, b1, b2, b3⟩ := hv.2 j (by omega)
        rw [a3, b3] at he hab ⊢
        have hne : ca ≠ cb := fun z => hab (by rw [z])
        rw [← he]
        refine wf_iload dc_Mod_compared_56 rfl ?_
        refine wf_iload dc_Mod_compared_58 rfl ?_
        by_cases c1 : ca < cb
        · refine wf_icmp_ge 67 dc_Mod_compared_60 (by decide) (fun hc => absurd ((nI_leI (by omega) (by omega)).mp hc) (by omega)) (fun hc => ?_)
          refine wf_iconst (-1) dc_Mod_compared_63 (by decide) ?_
          refine wf_goto 68 dc_Mod_compared_64 (by decide) ?_
          exact wf_ireturn rfl dc_Mod_compared_68 ⟨_, rfl, rfl, rfl, rfl, rfl, ⟨⟨fun z => absurd z (by decide), fun z => absurd ((sg_lt (by omega) (by omega)).mp z) (by omega)⟩, ⟨fun z => absurd z (by decide), fun z => absurd ((sg_eq (by omega) (by omega)).mp z) (by omega)⟩⟩, rfl⟩
        · refine wf_icmp_ge 67 dc_Mod_compared_60 (by decide) (fun hc => ?_) (fun hc => absurd ((nI_leI (by omega) (by omega)).mpr (by omega)) hc)
          refine wf_iconst 1 dc_Mod_compared_67 (by decide) ?_
          exact wf_ireturn rfl dc_Mod_compared_68 ⟨_, rfl, rfl, rfl, rfl, rfl, ⟨⟨fun _ => (sg_lt (by omega) (by omega)).mpr (by omega), fun _ => by decide⟩, ⟨fun z => absurd z (by decide), fun z => absurd ((sg_eq (by omega) (by omega)).mp z) (by omega)⟩⟩, rfl⟩
  exact Wf.to (by exact ⟨rfl, rfl, rfl, rfl, rfl, trivial⟩) (loop w.length 0 (Nat.zero_add _) (Nat.zero_le _) rfl)
theorem c_Mod_copyKey {a b : Nat} {q : List Int32 × Int32} (hA : mo_at t r m) (ha : a < 40) (hb : b < 40) (hab : a ≠ b) (hq : mk_is i m a q) (hl : q.1.length ≤ 120) : Ct l E n0 mt_Mod_copyKey d 0 0 [.ref (m + 0), .int (nI a), .int (nI b)] nx t r i g (qV nx t r g (fun i' => mk_is i' m b q ∧ mf m (mk_S b) i i')) := by
  have t0 := hA.1.1
  have r20 : r (m + 0) 20 = some (m + 15) := hA.2 (0, 20, 15) (by decide +kernel)
  have r21 : r (m + 0) 21 = some (m + 16) := hA.2 (0, 21, 16) (by decide +kernel)
  have r22 : r (m + 0) 22 = some (m + 17) := hA.2 (0, 22, 17) (by decide +kernel)
  have t15 := hA.1.2 15 (15, .inr (0, 4800)) (by decide +kernel)
  have t16 := hA.1.2 16 (16, .inr (0, 40)) (by decide +kernel)
  have t17 := hA.1.2 17 (17, .inr (0, 40)) (by decide +kernel)
  have ca : (nI a).toNatClampNeg = a := nI_clamp (by omega)
  have cb : (nI b).toNatClampNeg = b := nI_clamp (by omega)
  obtain ⟨w, x⟩ := q
  obtain ⟨k1, k2, k3⟩ := hq
  simp only at k1 k2 k3 hl
  refine Ct.of (by decide) (Nat.le_of_ble_eq_true rfl) ?_
  refine wf_aload_n dc_Mod_copyKey_0 rfl ?_
  refine wf_getr dc_Mod_copyKey_1 fl_Mod_59 rfl (by assumption) (by assumption) ?_
  refine wf_iload_n dc_Mod_copyKey_4 rfl ?_
  refine wf_aload_n dc_Mod_copyKey_5 rfl ?_
  refine wf_getr dc_Mod_copyKey_6 fl_Mod_59 rfl (by assumption) (by assumption) ?_
  refine wf_iload_n dc_Mod_copyKey_9 rfl ?_
  refine wf_iaload (y := 0) dc_Mod_copyKey_10 rfl (by assumption) (vp_in_nI (by omega) (by omega)) ?_
  rw [ca, k1]
  refine wf_iastore (y := 0) dc_Mod_copyKey_11 rfl (by decide) (by assumption) (vp_in_nI (by omega) (by omega)) ?_
  refine wf_aload_n dc_Mod_copyKey_12 rfl ?_
  refine wf_getr dc_Mod_copyKey_13 fl_Mod_62 rfl (by assumption) (by assumption) ?_
  refine wf_iload_n dc_Mod_copyKey_16 rfl ?_
  refine wf_aload_n dc_Mod_copyKey_17 rfl ?_
  refine wf_getr dc_Mod_copyKey_18 fl_Mod_62 rfl (by assumption) (by assumption) ?_
  refine wf_iload_n dc_Mod_copyKey_21 rfl ?_
  refine wf_iaload (y := 0) dc_Mod_copyKey_22 rfl (by assumption) (vp_in_nI (by omega) (by omega)) ?_
  rw [ca, cb, wf_up_a (by omega), k2]
  refine wf_iastore (y := 0) dc_Mod_copyKey_23 rfl (by decide) (by assumption) (vp_in_nI (by omega) (by omega)) ?_
  refine wf_iconst 0 dc_Mod_copyKey_24 (by decide) ?_
  refine wf_istore_n dc_Mod_copyKey_25 (by decide) ?_
  rw [cb]
  have loop : ∀ (c j : Nat) (i1 : Wi), j + c = w.length → i1 (m + 16) b = nI w.length → i1 (m + 17) b = x → mz i1 (m + 15) (120 * b) (w.take j) → mf m (mk_S b) i i1 → Wf l E n0 mt_Mod_copyKey d 0 0 (qV nx t r g (fun i' => mk_is i' m b (w, x) ∧ mf m (mk_S b) i i')) 0 0 26 [(0, .ref (m + 0)), (1, .int (nI a)), (2, .int (nI b)), (3, .int (nI j))] [] nx t r i1 g := by
    intro c
    induction c with
    | zero =>
      intro j i1 hj q1 q2 q3 q4
      have hq1 : mk_is i1 m a (w, x) := mk_is.fr (q := (w, x)) ⟨k1, k2, k3⟩ hl q4 hab
      refine wf_iload_n dc_Mod_copyKey_26 rfl ?_
      refine wf_aload_n dc_Mod_copyKey_27 rfl ?_
      refine wf_getr dc_Mod_copyKey_28 fl_Mod_59 rfl (by assumption) (by assumption) ?_
      refine wf_iload_n dc_Mod_copyKey_31 rfl ?_
      refine wf_iaload (y := 0) dc_Mod_copyKey_32 rfl (by assumption) (vp_in_nI (by omega) (by omega)) ?_
      rw [ca, show i1 (m + 16) a = nI w.length from hq1.1]
      refine wf_icmp_ge 64 dc_Mod_copyKey_33 (by decide) (fun hc => ?_) (fun hc => absurd ((nI_leI (by omega) (by omega)).mpr (by omega)) hc)
      rw [List.take_of_length_le (by omega)] at q3
      exact wf_return rfl dc_Mod_copyKey_64 ⟨rfl, rfl, rfl, rfl, rfl, ⟨q1, q2, q3⟩, q4⟩
    | succ c ih =>
      intro j i1 hj q1 q2 q3 q4
      have hq1 : mk_is i1 m a (w, x) := mk_is.fr (q := (w, x)) ⟨k1, k2, k3⟩ hl q4 hab
      refine wf_iload_n dc_Mod_copyKey_26 rfl ?_
      refine wf_aload_n dc_Mod_copyKey_27 rfl ?_
      refine wf_getr dc_Mod_copyKey_28 fl_Mod_59 rfl (by assumption) (by assumption) ?_
      refine wf_iload_n dc_Mod_copyKey_31 rfl ?_
      refine wf_iaload (y := 0) dc_Mod_copyKey_32 rfl (by assumption) (vp_in_nI (by omega) (by omega)) ?_
      rw [ca, show i1 (m + 16) a = nI w.length from hq1.1]
      refine wf_icmp_ge 64 dc_Mod_copyKey_33 (by decide) (fun hc => absurd ((nI_leI (by omega) (by omega)).mp hc) (by omega)) (fun hc => ?_)
      refine wf_aload_n dc_Mod_copyKey_36 rfl ?_
      refine wf_getr dc_Mod_copyKey_37 fl_Mod_56 rfl (by assumption) (by assumption) ?_
      refine wf_bipush 120 dc_Mod_copyKey_40 (by decide) ?_
      refine wf_iload_n dc_Mod_copyKey_42 rfl ?_
      refine wf_imul dc_Mod_copyKey_43 ?_
      rw [n120]
      refine wf_iload_n dc_Mod_copyKey_44 rfl ?_
      refine wf_iadd dc_Mod_copyKey_45 ?_
      rw [nI_add]
      refine wf_aload_n dc_Mod_copyKey_46 rfl ?_
      refine wf_getr dc_Mod_copyKey_47 fl_Mod_56 rfl (by assumption) (by assumption) ?_
      refine wf_bipush 120 dc_Mod_copyKey_50 (by decide) ?_
      refine wf_iload_n dc_Mod_copyKey_52 rfl ?_
      refine wf_imul dc_Mod_copyKey_53 ?_
      rw [n120]
      refine wf_iload_n dc_Mod_copyKey_54 rfl ?_
      refine wf_iadd dc_Mod_copyKey_55 ?_
      rw [nI_add]
      refine wf_iaload (y := 0) dc_Mod_copyKey_56 rfl (by assumption) (vp_in_nI (by omega) (by omega)) ?_
      refine wf_iastore (y := 0) dc_Mod_copyKey_57 rfl (by decide) (by assumption) (vp_in_nI (by omega) (by omega)) ?_
      refine wf_iinc _ dc_Mod_copyKey_58 rfl (nI_1 j) (by decide) ?_
      refine wf_goto 26 dc_Mod_copyKey_61 (by decide) ?_
      rw [nI_clamp (show 120 * a + j < 2 ^ 31 by omega), nI_clamp (show 120 * b + j < 2 ^ 31 by omega), show i1 (m + 15) (120 * a + j) = w.getD j 0 from hq1.2.2 j (show j < w.length by omega)]
      refine Wf.to (by exact ⟨rfl, rfl, rfl, rfl, trivial⟩) (ih (j + 1) _ (by omega) ((wf_up_a (by omega)).trans q1) ((wf_up_a (by omega)).trans q2) ?_ (mf_up q4 ⟨(15, 120 * b, 120 * b + 120), by simp [mk_S], rfl, by simp only; omega, by simp only; omega⟩))
      rw [tk_s (by omega)]
      have h4 : mz (wf_up i1 (m + 15) (120 * b + j) (w.getD j 0)) (m + 15) (120 * b) (w.take j) := fun p hp => by
        rw [List.length_take] at hp
        rw [wf_up_k (by omega)]
        exact q3 p (by rw [List.length_take]; exact hp)
      refine h4.snoc ?_
      rw [List.length_take, Nat.min_eq_left (by omega)]
      exact wf_up_s
  refine Wf.to (by exact ⟨rfl, rfl, rfl, rfl, trivial⟩) (loop w.length 0 _ (Nat.zero_add _) ((wf_up_a (by omega)).trans wf_up_s) wf_up_s mz_nil (mf_up (mf_up mf_rf ⟨(16, b, b + 1), by simp [mk_S], rfl, Nat.le_refl _, Nat.le_refl _⟩) ⟨(17, b, b + 1), by simp [mk_S], rfl, Nat.le_refl _, Nat.le_refl _⟩))
end
