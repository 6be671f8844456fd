/-! the reference: grow -/
section
variable {l : Launch} {E : We} {n0 d nx : Nat} {t : Wt} {r : Wr} {i i' : Wi} {g : Wl} {m : Nat} {S : Ms}
theorem c_Mod_grow {f : Nat} {F : List (List Int32)} {K : KtS} {x : Int32} (hA : mo_at t r m) (hF : mp_fld i m F) (h30 : F.length ≤ 30) (h1 : 1 ≤ f) (h2 : f ≤ 30) (hw : s1 (fdn F f)) (hK : mp_tab i m K) (h40 : K.length ≤ 40) (hKs : ∀ k, k < K.length → s1 (kt_at K k).1) : Ct l E n0 mt_Mod_grow (d + 2) 0 0 [.ref (m + 0), .int (nI f), .int x] nx t r i g (qV nx t r g (fun i' => mp_tab i' m (kt_grow (fdn F f) x K) ∧ mf m mK_S i i')) := by
  have t0 := hA.1.1
  have r20 : r (m + 0) 20 = some (m + 15) := hA.2 (0, 20, 15) (by decide +kernel)
  have r21 : r (m + 0) 21 = some (m + 16) := hA.2 (0, 21, 16) (by decide +kernel)
  have r22 : r (m + 0) 22 = some (m + 17) := hA.2 (0, 22, 17) (by decide +kernel)
  have t15 := hA.1.2 15 (15, .inr (0, 4800)) (by decide +kernel)
  have t16 := hA.1.2 16 (16, .inr (0, 40)) (by decide +kernel)
  have t17 := hA.1.2 17 (17, .inr (0, 40)) (by decide +kernel)
  have hwl := hw.1
  have hpl := kt_place_le (fdn F f) K
  have key : ∀ k, k < K.length → mk_is i m k (kt_at K k) := fun k hk => hK.2 k hk
  have hcm : ∀ k, k < K.length → Ct l E n0 mt_Mod_compared (d + 1) 0 0 [.ref (m + 0), .int (nI f), .int (nI k)] nx t r i g (qI nx t r g (fun z i' => ((0 < z ↔ cm_go (kt_at K k).1 (fdn F f) < 0) ∧ (z = 0 ↔ cm_go (kt_at K k).1 (fdn F f) = 0)) ∧ i' = i)) := fun k hk => c_Mod_compared (x := (kt_at K k).2) hA hF h30 h1 h2 hw (by omega) (key k hk) (hKs k hk)
  have hsz : ∀ i1, mf m mK_S i i1 → Ct l E n0 mt_Mod_sizeOf (d + 1) 0 0 [.ref (m + 0), .int (nI f)] nx t r i1 g (qI nx t r g (fun z i' => z = nI (fdn F f).length ∧ i' = i1)) := fun i1 h => c_Mod_sizeOf hA (hF.mK h) h30 h1 h2
  have hsg : ∀ i1, mf m mK_S i i1 → ∀ j, j < (fdn F f).length → Ct l E n0 mt_Mod_signOf (d + 1) 0 0 [.ref (m + 0), .int (nI f), .int (nI j)] nx t r i1 g (qI nx t r g (fun z i' => z = (fdn F f).getD j 0 ∧ i' = i1)) := fun i1 h j hj => c_Mod_signOf hA (hF.mK h) h30 h1 hj hwl
  generalize hw0 : fdn F f = w at hsz hsg hcm hw hwl hpl ⊢
  refine Ct.of (by decide) (Nat.le_of_ble_eq_true rfl) ?_
  generalize hp0 : kt_place w K = p at hpl
  -- a new key
  have ins : ¬ (p < K.length ∧ cm_go (kt_at K p).1 w = 0) → Wf l E n0 mt_Mod_grow (d + 2) 0 0 (qV nx t r g (fun i' => mp_tab i' m (kt_grow w x K) ∧ mf m mK_S i i')) 0 0 59 [(0, .ref (m + 0)), (1, .int (nI f)), (2, .int x), (3, .int (nI p))] [] nx t r i g := by
    intro hno
    unfold kt_grow
    rw [hp0, if_neg hno]
    refine wf_aload_n dc_Mod_grow_59 rfl ?_
    refine wf_geti dc_Mod_grow_60 fl_Mod_200 rfl (by assumption) ?_
    rw [hK.1]
    refine wf_bipush 40 dc_Mod_grow_63 (by decide) ?_
    by_cases hK40 : K.length < 40
    · rw [if_pos hK40]
      refine wf_icmp_ge 162 dc_Mod_grow_65 (by decide) (fun hc => absurd ((nI_leI (a := 40) (by omega) (by omega)).mp hc) (by omega)) (fun hc => ?_)
      refine wf_aload_n dc_Mod_grow_68 rfl ?_
      refine wf_geti dc_Mod_grow_69 fl_Mod_200 rfl (by assumption) ?_
      rw [hK.1]
      refine wf_istore dc_Mod_grow_72 (by decide) ?_
      -- the signs of the new key
      have sgn : ∀ (c j : Nat) (i1 : Wi), j + c = w.length → i1 (m + 0) 19 = nI (K.length + 1) → (∀ k, k < K.length + 1 → k ≠ p → mk_is i1 m k (if k < p then kt_at K k else kt_at K (k - 1))) → i1 (m + 16) p = nI w.length → i1 (m + 17) p = x → mz i1 (m + 15) (120 * p) (w.take j) → mf m mK_S i i1 →
          Wf l E n0 mt_Mod_grow (d + 2) 0 0 (qV nx t r g (fun i' => mp_tab i' m (K.take p ++ (w, x) :: K.drop p) ∧ mf m mK_S i i')) 0 0 127 [(0, .ref (m + 0)), (1, .int (nI f)), (3, .int (nI p)), (4, .int (nI j))] [] nx t r i1 g := by
        intro c
        induction c with
        | zero =>
          intro j i1 hj q0 q1 q2 q3 q4 q5
          refine wf_iload dc_Mod_grow_127 rfl ?_
          refine wf_aload_n dc_Mod_grow_129 rfl ?_
          refine wf_iload_n dc_Mod_grow_130 rfl ?_
          refine wf_iv1 (M' := mt_Mod_sizeOf) (c := 8) dc_Mod_grow_131 tg_Mod_sizeOf ml_Mod_184 im_Mod_sizeOf se_Mod_sizeOf ⟨_, rfl, rfl⟩ (by assumption) (Nat.le_of_ble_eq_true rfl) (Nat.le_refl _) (Nat.le_refl _) (hsz i1 q5) qI_nt (qI_go (fun x2 i2 hp => ?_))
          obtain ⟨rfl, hq⟩ := hp; subst i2
          refine wf_icmp_ge 162 dc_Mod_grow_134 (by decide) (fun hc => ?_) (fun hc => absurd ((nI_leI (by omega) (by omega)).mpr (by omega)) hc)
          rw [List.take_of_length_le (by omega)] at q4
          have hlen : (K.take p ++ (w, x) :: K.drop p).length = K.length + 1 := by
            rw [List.length_append, List.length_cons, List.length_take, List.length_drop]; omega
          refine wf_return rfl dc_Mod_grow_162 ⟨rfl, rfl, rfl, rfl, rfl, ⟨by rw [hlen]; exact q0, fun k hk => ?_⟩, q5⟩
          rw [hlen] at hk
          rw [kt_ins hpl]
          by_cases hkp : k = p
          · subst hkp
            rw [if_neg (by omega), if_pos rfl]
            exact ⟨q2, q3, q4⟩
          · have := q1 k hk hkp
            by_cases hlt : k < p
            · rw [if_pos hlt] at this ⊢
              exact this
            · rw [if_neg hlt] at this ⊢
              rw [if_neg hkp]
              exact this
        | succ c ih =>
          intro j i1 hj q0 q1 q2 q3 q4 q5
          refine wf_iload dc_Mod_grow_127 rfl ?_
          refine wf_aload_n dc_Mod_grow_129 rfl ?_
          refine wf_iload_n dc_Mod_grow_130 rfl ?_
          refine wf_iv1 (M' := mt_Mod_sizeOf) (c := 8) dc_Mod_grow_131 tg_Mod_sizeOf ml_Mod_184 im_Mod_sizeOf se_Mod_sizeOf ⟨_, rfl, rfl⟩ (by assumption) (Nat.le_of_ble_eq_true rfl) (Nat.le_refl _) (Nat.le_refl _) (hsz i1 q5) qI_nt (qI_go (fun x2 i2 hp => ?_))
          obtain ⟨rfl, hq⟩ := hp; subst i2
          refine wf_icmp_ge 162 dc_Mod_grow_134 (by decide) (fun hc => absurd ((nI_leI (by omega) (by omega)).mp hc) (by omega)) (fun hc => ?_)
          refine wf_aload_n dc_Mod_grow_137 rfl ?_
          refine wf_getr dc_Mod_grow_138 fl_Mod_56 rfl (by assumption) (by assumption) ?_
          refine wf_bipush 120 dc_Mod_grow_141 (by decide) ?_
          refine wf_iload_n dc_Mod_grow_143 rfl ?_
          refine wf_imul dc_Mod_grow_144 ?_
          rw [n120]
          refine wf_iload dc_Mod_grow_145 rfl ?_
          refine wf_iadd dc_Mod_grow_147 ?_
          rw [nI_add]
          refine wf_aload_n dc_Mod_grow_148 rfl ?_
          refine wf_iload_n dc_Mod_grow_149 rfl ?_
          refine wf_iload dc_Mod_grow_150 rfl ?_
          refine wf_iv2 (M' := mt_Mod_signOf) (c := 8) dc_Mod_grow_152 tg_Mod_signOf ml_Mod_187 im_Mod_signOf se_Mod_signOf ⟨_, rfl, rfl⟩ (by assumption) (Nat.le_of_ble_eq_true rfl) (Nat.le_refl _) (Nat.le_refl _) (hsg i1 q5 j (by omega)) qI_nt (qI_go (fun x2 i2 hp => ?_))
          obtain ⟨rfl, hq⟩ := hp; subst i2
          refine wf_iastore (y := 0) dc_Mod_grow_155 rfl (by decide) (by assumption) (vp_in_nI (by omega) (by omega)) ?_
          refine wf_iinc _ dc_Mod_grow_156 rfl (nI_1 j) (by decide) ?_
          refine wf_goto 127 dc_Mod_grow_159 (by decide) ?_
          rw [nI_clamp (show 120 * p + j < 2 ^ 31 by omega)]
          have fk : mf m (mk_S p) i1 (wf_up i1 (m + 15) (120 * p + j) (w.getD j 0)) := mf_up mf_rf ⟨(15, 120 * p, 120 * p + 120), by simp [mk_S], rfl, by simp only; omega, by simp only; omega⟩
          refine Wf.to (by exact ⟨rfl, rfl, rfl, rfl, trivial⟩) (ih (j + 1) _ (by omega) ((wf_up_a (by omega)).trans q0) (fun k hk hkp => (q1 k hk hkp).fr ?_ fk hkp) ((wf_up_a (by omega)).trans q2) ((wf_up_a (by omega)).trans q3) ?_ (mf_ss q5 (mk_mK (by omega) fk)))
          · split
            · exact (hKs k (by omega)).1
            · exact (hKs (k - 1) (by omega)).1
          · rw [tk_s (by omega)]
            have h4 : mz (wf_up i1 (m + 15) (120 * p + j) (w.getD j 0)) (m + 15) (120 * p) (w.take j) := fun q hq => by
              rw [List.length_take] at hq
              rw [wf_up_k (by omega)]
              exact q4 q (by rw [List.length_take]; exact hq)
            refine h4.snoc ?_
            rw [List.length_take, Nat.min_eq_left (by omega)]
            exact wf_up_s
      -- the keys behind go one place on
      have shift : ∀ (c : Nat) (i1 : Wi), p + c ≤ K.length → i1 (m + 0) 19 = nI K.length → (∀ k, k < p + c → mk_is i1 m k (kt_at K k)) → (∀ k, p + c < k → k < K.length + 1 → mk_is i1 m k (kt_at K (k - 1))) → mf m mK_S i i1 →
          Wf l E n0 mt_Mod_grow (d + 2) 0 0 (qV nx t r g (fun i' => mp_tab i' m (K.take p ++ (w, x) :: K.drop p) ∧ mf m mK_S i i')) 0 0 74 [(0, .ref (m + 0)), (1, .int (nI f)), (2, .int x), (3, .int (nI p)), (4, .int (nI (p + c)))] [] nx t r i1 g := by
        intro c
        induction c with
        | zero =>
          intro i1 hc0 q0 q1 q2 q5
          refine wf_iload dc_Mod_grow_74 rfl ?_
          refine wf_iload_n dc_Mod_grow_76 rfl ?_
          refine wf_icmp_le 96 dc_Mod_grow_77 (by decide) (fun hc => ?_) (fun hc => absurd ((nI_leI (by omega) (by omega)).mpr (by omega)) hc)
          refine wf_aload_n dc_Mod_grow_96 rfl ?_
          refine wf_dup dc_Mod_grow_97 rfl ?_
          refine wf_geti dc_Mod_grow_98 fl_Mod_200 rfl (by assumption) ?_
          refine wf_iconst 1 dc_Mod_grow_101 (by decide) ?_
          refine wf_iadd dc_Mod_grow_102 ?_
          rw [q0, nI_1]
          refine wf_puti dc_Mod_grow_103 fl_Mod_200 (Or.inl nf_Mod_19) rfl rfl rfl (by assumption) ?_
          refine wf_aload_n dc_Mod_grow_106 rfl ?_
          refine wf_getr dc_Mod_grow_107 fl_Mod_59 rfl (by assumption) (by assumption) ?_
          refine wf_iload_n dc_Mod_grow_110 rfl ?_
          have f1 : mf m [(0, 19, 20)] i1 (wf_up i1 (m + 0) 19 (nI (K.length + 1))) := mf_up mf_rf ⟨(0, 19, 20), by simp, rfl, Nat.le_refl _, Nat.le_refl _⟩
          have f2 := mf_ss q5 (mf_mo (S' := mK_S) f1 (fun q hq => by rw [List.mem_singleton.mp hq]; exact ⟨(0, 19, 20), by simp [mK_S], rfl, Nat.le_refl _, Nat.le_refl _⟩))
          refine wf_aload_n dc_Mod_grow_111 rfl ?_
          refine wf_iload_n dc_Mod_grow_112 rfl ?_
          refine wf_iv1 (M' := mt_Mod_sizeOf) (c := 8) dc_Mod_grow_113 tg_Mod_sizeOf ml_Mod_184 im_Mod_sizeOf se_Mod_sizeOf ⟨_, rfl, rfl⟩ (by assumption) (Nat.le_of_ble_eq_true rfl) (Nat.le_refl _) (Nat.le_refl _) (hsz _ f2) qI_nt (qI_go (fun x2 i2 hp => ?_))
          obtain ⟨rfl, hq⟩ := hp; subst i2
          refine wf_iastore (y := 0) dc_Mod_grow_116 rfl (by decide) (by assumption) (vp_in_nI (by omega) (by omega)) ?_
          refine wf_aload_n dc_Mod_grow_117 rfl ?_
          refine wf_getr dc_Mod_grow_118 fl_Mod_62 rfl (by assumption) (by assumption) ?_
          refine wf_iload_n dc_Mod_grow_121 rfl ?_
          refine wf_iload_n dc_Mod_grow_122 rfl ?_
          refine wf_iastore (y := 0) dc_Mod_grow_123 rfl (by decide) (by assumption) (vp_in_nI (by omega) (by omega)) ?_
          refine wf_iconst 0 dc_Mod_grow_124 (by decide) ?_
          refine wf_istore dc_Mod_grow_125 (by decide) ?_
          rw [nI_clamp (show p < 2 ^ 31 by omega)]
          generalize hi3 : wf_up (wf_up (wf_up i1 (m + 0) 19 (nI (K.length + 1))) (m + 16) p (nI w.length)) (m + 17) p x = i3
          have fk : mf m (mk_S p) (wf_up i1 (m + 0) 19 (nI (K.length + 1))) i3 := by
            rw [← hi3]
            exact mf_up (mf_up mf_rf ⟨(16, p, p + 1), by simp [mk_S], rfl, Nat.le_refl _, Nat.le_refl _⟩) ⟨(17, p, p + 1), by simp [mk_S], rfl, Nat.le_refl _, Nat.le_refl _⟩
          have up0 : ∀ k q, mk_is i1 m k q → mk_is (wf_up i1 (m + 0) 19 (nI (K.length + 1))) m k q := fun k q hq => ⟨(wf_up_a (by omega)).trans hq.1, (wf_up_a (by omega)).trans hq.2.1, fun j hj => (wf_up_a (by omega)).trans (hq.2.2 j hj)⟩
          refine Wf.to (by exact ⟨rfl, rfl, rfl, rfl, trivial⟩) (sgn w.length 0 i3 (Nat.zero_add _) ?_ (fun k hk hkp => ?_) ?_ ?_ mz_nil (mf_ss f2 (mk_mK (by omega) fk)))
          · rw [← hi3, wf_up_a (by omega), wf_up_a (by omega)]; exact wf_up_s
          · by_cases hlt : k < p
            · rw [if_pos hlt]
              exact (up0 k _ (q1 k (by omega))).fr (hKs k (by omega)).1 fk hkp
            · rw [if_neg hlt]
              exact (up0 k _ (q2 k (by omega) hk)).fr (hKs (k - 1) (by omega)).1 fk hkp
          · rw [← hi3, wf_up_a (by omega)]; exact wf_up_s
          · rw [← hi3]; exact wf_up_s
        | succ c ih =>
          intro i1 hc0 q0 q1 q2 q5
          refine wf_iload dc_Mod_grow_74 rfl ?_
          refine wf_iload_n dc_Mod_grow_76 rfl ?_
          refine wf_icmp_le 96 dc_Mod_grow_77 (by decide) (fun hc => absurd ((nI_leI (by omega) (by omega)).mp hc) (by omega)) (fun hc => ?_)
          refine wf_aload_n dc_Mod_grow_80 rfl ?_
          refine wf_iload dc_Mod_grow_81 rfl ?_
          refine wf_iconst 1 dc_Mod_grow_83 (by decide) ?_
          refine wf_isub dc_Mod_grow_84 ?_
          rw [show p + (c + 1) = (p + c) + 1 by omega, nI_pred]
          refine wf_iload dc_Mod_grow_85 rfl ?_
          refine wf_iv2 (M' := mt_Mod_copyKey) (c := 8) dc_Mod_grow_87 tg_Mod_copyKey ml_Mod_206 im_Mod_copyKey se_Mod_copyKey ⟨_, rfl, rfl⟩ (by assumption) (Nat.le_of_ble_eq_true rfl) (Nat.le_refl _) (Nat.le_refl _) (c_Mod_copyKey hA (by omega) (by omega) (by omega) (q1 (p + c) (by omega)) (hKs (p + c) (by omega)).1) qV_nt (qV_go (fun i2 hp => ?_))
          obtain ⟨k1, k2⟩ := hp
          refine wf_iinc _ dc_Mod_grow_90 rfl (pk_m1 (p + c)) (by decide) ?_
          refine wf_goto 74 dc_Mod_grow_93 (by decide) ?_
          refine Wf.to (by exact ⟨rfl, rfl, rfl, rfl, rfl, trivial⟩) (ih i2 (by omega) ((k2.at (by simp [ms_no, mk_S])).trans q0) (fun k hk => (q1 k (by omega)).fr (hKs k (by omega)).1 k2 (by omega)) (fun k hk hk2 => ?_) (mf_ss q5 (mk_mK (by omega) k2)))
          by_cases hke : k = p + c + 1
          · subst hke
            exact k1
          · exact (q2 k (by omega) hk2).fr (hKs (k - 1) (by omega)).1 k2 hke
      have hsh := shift (K.length - p) i (by omega) hK.1 (fun k hk => key k (by omega)) (fun k hk hk2 => by omega) mf_rf
      rw [show p + (K.length - p) = K.length by omega] at hsh
      exact Wf.to (by exact ⟨rfl, rfl, rfl, rfl, rfl, trivial⟩) hsh
    · rw [if_neg hK40]
      refine wf_icmp_ge 162 dc_Mod_grow_65 (by decide) (fun hc => ?_) (fun hc => absurd ((nI_leI (a := 40) (by omega) (by omega)).mpr (by omega)) hc)
      exact wf_return rfl dc_Mod_grow_162 ⟨rfl, rfl, rfl, rfl, rfl, hK, mf_rf⟩
  -- the place
  have found : Wf l E n0 mt_Mod_grow (d + 2) 0 0 (qV nx t r g (fun i' => mp_tab i' m (kt_grow w x K) ∧ mf m mK_S i i')) 0 0 25 [(0, .ref (m + 0)), (1, .int (nI f)), (2, .int x), (3, .int (nI p))] [] nx t r i g := by
    refine wf_iload_n dc_Mod_grow_25 rfl ?_
    refine wf_aload_n dc_Mod_grow_26 rfl ?_
    refine wf_geti dc_Mod_grow_27 fl_Mod_200 rfl (by assumption) ?_
    rw [hK.1]
    by_cases hpK : p < K.length
    · refine wf_icmp_ge 59 dc_Mod_grow_30 (by decide) (fun hc => absurd ((nI_leI (by omega) (by omega)).mp hc) (by omega)) (fun hc => ?_)
      refine wf_aload_n dc_Mod_grow_33 rfl ?_
      refine wf_iload_n dc_Mod_grow_34 rfl ?_
      refine wf_iload_n dc_Mod_grow_35 rfl ?_
      refine wf_iv2 (M' := mt_Mod_compared) (c := 8) dc_Mod_grow_36 tg_Mod_compared ml_Mod_203 im_Mod_compared se_Mod_compared ⟨_, rfl, rfl⟩ (by assumption) (Nat.le_of_ble_eq_true rfl) (Nat.le_refl _) (Nat.le_refl _) (hcm p hpK) qI_nt (qI_go (fun x2 i2 hp => ?_))
      obtain ⟨⟨z1, z2⟩, hq⟩ := hp; subst i2
      by_cases hc0 : cm_go (kt_at K p).1 w = 0
      · refine wf_if_ne 59 dc_Mod_grow_39 (by decide) (fun hc => absurd (z2.mpr hc0) hc) (fun hc => ?_)
        unfold kt_grow
        rw [hp0, if_pos ⟨hpK, hc0⟩]
        refine wf_aload_n dc_Mod_grow_42 rfl ?_
        refine wf_getr dc_Mod_grow_43 fl_Mod_62 rfl (by assumption) (by assumption) ?_
        refine wf_iload_n dc_Mod_grow_46 rfl ?_
        refine wf_aload_n dc_Mod_grow_47 rfl ?_
        refine wf_getr dc_Mod_grow_48 fl_Mod_62 rfl (by assumption) (by assumption) ?_
        refine wf_iload_n dc_Mod_grow_51 rfl ?_
        refine wf_iaload (y := 0) dc_Mod_grow_52 rfl (by assumption) (vp_in_nI (by omega) (by omega)) ?_
        rw [nI_clamp (show p < 2 ^ 31 by omega), (hK.2 p hpK).2.1]
        refine wf_iload_n dc_Mod_grow_53 rfl ?_
        refine wf_iadd dc_Mod_grow_54 ?_
        refine wf_iastore (y := 0) dc_Mod_grow_55 rfl (by decide) (by assumption) (vp_in_nI (by omega) (by omega)) ?_
        refine wf_goto 162 dc_Mod_grow_56 (by decide) ?_
        rw [nI_clamp (show p < 2 ^ 31 by omega)]
        refine wf_return rfl dc_Mod_grow_162 ⟨rfl, rfl, rfl, rfl, rfl, ⟨by rw [List.length_set]; exact (wf_up_a (by omega)).trans hK.1, fun k hk => ?_⟩, mf_up mf_rf ⟨(17, 0, 40), by simp [mK_S], rfl, Nat.zero_le _, by simp only; omega⟩⟩
        rw [List.length_set] at hk
        obtain ⟨a1, a2, a3⟩ := hK.2 k hk
        have hz : mz (wf_up i (m + 17) p ((kt_at K p).2 + x)) (m + 15) (120 * k) (kt_at K k).1 := fun j hj => (wf_up_a (by omega)).trans (a3 j hj)
        by_cases hkp : k = p
        · subst hkp
          have hd : kt_at (K.set k ((kt_at K k).1, (kt_at K k).2 + x)) k = ((kt_at K k).1, (kt_at K k).2 + x) := by
            conv => lhs; unfold kt_at
            rw [List.getD_eq_getElem?_getD, List.getElem?_set_self hk]
            rfl
          rw [hd]
          exact ⟨(wf_up_a (by omega)).trans a1, wf_up_s, hz⟩
        · have hd : kt_at (K.set p ((kt_at K p).1, (kt_at K p).2 + x)) k = kt_at K k := by
            conv => lhs; unfold kt_at
            rw [List.getD_eq_getElem?_getD, List.getElem?_set_ne (fun v => hkp v.symm), ← List.getD_eq_getElem?_getD]
            rfl
          rw [hd]
          exact ⟨(wf_up_a (by omega)).trans a1, (wf_up_k hkp).trans a2, hz⟩
      · refine wf_if_ne 59 dc_Mod_grow_39 (by decide) (fun hc => ?_) (fun hc => absurd (z2.mp (hc)) hc0)
        exact Wf.to (by exact ⟨rfl, rfl, rfl, rfl, trivial⟩) (ins (fun z => hc0 z.2))
    · refine wf_icmp_ge 59 dc_Mod_grow_30 (by decide) (fun hc => ?_) (fun hc => absurd ((nI_leI (by omega) (by omega)).mpr (by omega)) hc)
      exact Wf.to (by exact ⟨rfl, rfl, rfl, rfl, trivial⟩) (ins (fun z => hpK z.1))
  refine wf_iconst 0 dc_Mod_grow_0 (by decide) ?_
  refine wf_istore_n dc_Mod_grow_1 (by decide) ?_
  have loop : ∀ c j : Nat, j + c = K.length → j + kt_place w (K.drop j) = p → Wf l E n0 mt_Mod_grow (d + 2) 0 0 (qV nx t r g (fun i' => mp_tab i' m (kt_grow w x K) ∧ mf m mK_S i i')) 0 0 2 [(0, .ref (m + 0)), (1, .int (nI f)), (2, .int x), (3, .int (nI j))] [] nx t r i g := by
    intro c
    induction c with
    | zero =>
      intro j hj he
      rw [List.drop_of_length_le (by omega)] at he
      have hjp : j = p := he
      subst hjp
      refine wf_iload_n dc_Mod_grow_2 rfl ?_
      refine wf_aload_n dc_Mod_grow_3 rfl ?_
      refine wf_geti dc_Mod_grow_4 fl_Mod_200 rfl (by assumption) ?_
      rw [hK.1]
      refine wf_icmp_ge 25 dc_Mod_grow_7 (by decide) (fun hc => ?_) (fun hc => absurd ((nI_leI (by omega) (by omega)).mpr (by omega)) hc)
      exact Wf.to (by exact ⟨rfl, rfl, rfl, rfl, trivial⟩) found
    | succ c ih =>
      intro j hj he
      rw [kt_place_drop (by omega)] at he
      refine wf_iload_n dc_Mod_grow_2 rfl ?_
      refine wf_aload_n dc_Mod_grow_3 rfl ?_
      refine wf_geti dc_Mod_grow_4 fl_Mod_200 rfl (by assumption) ?_
      rw [hK.1]
      refine wf_icmp_ge 25 dc_Mod_grow_7 (by decide) (fun hc => absurd ((nI_leI (by omega) (by omega)).mp hc) (by omega)) (fun hc => ?_)
      refine wf_aload_n dc_Mod_grow_10 rfl ?_
      refine wf_iload_n dc_Mod_grow_11 rfl ?_
      refine wf_iload_n dc_Mod_grow_12 rfl ?_
      refine wf_iv2 (M' := mt_Mod_compared) (c := 8) dc_Mod_grow_13 tg_Mod_compared ml_Mod_203 im_Mod_compared se_Mod_compared ⟨_, rfl, rfl⟩ (by assumption) (Nat.le_of_ble_eq_true rfl) (Nat.le_refl _) (Nat.le_refl _) (hcm j (by omega)) qI_nt (qI_go (fun x2 i2 hp => ?_))
      obtain ⟨⟨z1, z2⟩, hq⟩ := hp; subst i2
      by_cases hlt : cm_go (kt_at K j).1 w < 0
      · rw [if_pos hlt] at he
        refine wf_if_le 25 dc_Mod_grow_16 (by decide) (fun hc => absurd (z1.mpr hlt) (Int32.not_lt.mpr hc)) (fun hc => ?_)
        refine wf_iinc _ dc_Mod_grow_19 rfl (nI_1 j) (by decide) ?_
        refine wf_goto 2 dc_Mod_grow_22 (by decide) ?_
        exact Wf.to (by exact ⟨rfl, rfl, rfl, rfl, trivial⟩) (ih (j + 1) (by omega) (by omega))
      · rw [if_neg hlt, Nat.add_zero] at he
        subst he
        refine wf_if_le 25 dc_Mod_grow_16 (by decide) (fun hc => ?_) (fun hc => absurd (z1.mp (Int32.not_le.mp hc)) hlt)
        exact Wf.to (by exact ⟨rfl, rfl, rfl, rfl, trivial⟩) found
  exact Wf.to (by exact ⟨rfl, rfl, rfl, rfl, trivial⟩) (loop K.length 0 (Nat.zero_add _) (by rw [Nat.zero_add]; exact hp0))
end
