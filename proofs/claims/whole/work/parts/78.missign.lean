/-! the reference: isSign -/
/-- a text all of whose places hold signs -/
def sgT (T : List Int32) : Prop := ∀ q, q < T.length → ∃ c : Nat, 1 ≤ c ∧ c < 256 ∧ nx_of T q = nI c
theorem sgT.n {T : List Int32} (h : sgT T) {q : Nat} (hq : q < T.length) : nx_of T q = nI (nxN T q) ∧ 1 ≤ nxN T q ∧ nxN T q < 256 := by
  obtain ⟨c, h1, h2, h3⟩ := h q hq
  have : nxN T q = c := by unfold nxN; rw [h3, nI_clamp (by omega)]
  rw [this]
  exact ⟨h3, h1, h2⟩
theorem rg_1 {n c : Nat} : ps_rg ps_no n n c = decide (n = c) := by
  unfold ps_rg ps_no
  by_cases h : n = c
  · subst h; simp
  · rw [decide_eq_false h]
    by_cases h1 : n ≤ c
    · rw [decide_eq_true h1, decide_eq_false (by omega)]; rfl
    · rw [decide_eq_false h1]; rfl
section
variable {l : Launch} {E : We} {n0 d nx : Nat} {t : Wt} {r : Wr} {i i1 i2 : Wi} {g : Wl} {m : Nat} {S : Ms}
theorem c_Mod_isSign {b p c : Nat} {T : List Int32} (hA : mo_at t r m) (hT : mS i m b T) (hb : b ≤ 300) (h60 : T.length ≤ 60) (hs : sgT T) (hp : p < T.length) (h91 : nx_of T p = 91 → ∃ z, ps_set T (p + 1) = .inr z) (h92 : nx_of T p = 92 → p + 1 < T.length) (c1 : 1 ≤ c) (c2 : c < 256) : Ct l E n0 mt_Mod_isSign d 0 0 [.ref (m + 0), .int (nI (b + p)), .int (nI c)] nx t r i g (qI nx t r g (fun z i' => z = wt_b (at_m T p c) ∧ i' = i)) := by
  have t0 := hA.1.1
  have r3 : r (m + 0) 3 = some (m + 3) := hA.2 (0, 3, 3) (by decide +kernel)
  have t3 := hA.1.2 3 (3, .inr (0, 360)) (by decide +kernel)
  have rd : ∀ q, q < T.length → i (m + 3) (nI (b + q)).toNatClampNeg = nx_of T q := fun q hq => by
    rw [nI_clamp (by omega)]
    exact hT q hq
  refine Ct.of (by decide) (Nat.le_of_ble_eq_true rfl) ?_
  refine wf_aload_n dc_Mod_isSign_0 rfl ?_
  refine wf_getr dc_Mod_isSign_1 fl_Mod_16 rfl (by assumption) (by assumption) ?_
  refine wf_iload_n dc_Mod_isSign_4 rfl ?_
  refine wf_iaload (y := 0) dc_Mod_isSign_5 rfl (by assumption) (vp_in_nI (by omega) (by omega)) ?_
  rw [rd p hp]
  have ham : at_m T p c = at_m T p c := rfl
  conv at ham => rhs; unfold at_m
  refine wf_istore_n dc_Mod_isSign_6 (by decide) ?_
  refine wf_iload_n dc_Mod_isSign_7 rfl ?_
  refine wf_bipush 46 dc_Mod_isSign_8 (by decide) ?_
  by_cases c46 : nx_of T p = 46
  · refine wf_icmp_ne 15 dc_Mod_isSign_10 (by decide) (fun hc => absurd c46 hc) (fun hc => ?_)
    refine wf_iconst 1 dc_Mod_isSign_13 (by decide) ?_
    refine wf_zreturn rfl rfl dc_Mod_isSign_14 ⟨1, rfl, rfl, rfl, rfl, rfl, ?_, rfl⟩
    rw [ham, if_pos c46]
    unfold ps_rg
    rw [decide_eq_true c1, decide_eq_true (show c ≤ 255 by omega)]
    simp [wt_b]
  refine wf_icmp_ne 15 dc_Mod_isSign_10 (by decide) (fun hc => ?_) (fun hc => absurd hc c46)
  rw [if_neg c46] at ham
  refine wf_iload_n dc_Mod_isSign_15 rfl ?_
  refine wf_bipush 92 dc_Mod_isSign_16 (by decide) ?_
  by_cases c92 : nx_of T p = 92
  · refine wf_icmp_ne 39 dc_Mod_isSign_18 (by decide) (fun hc => absurd c92 hc) (fun hc => ?_)
    rw [if_pos c92, rg_1] at ham
    have hp1 := h92 c92
    obtain ⟨n1, n2, n3⟩ := hs.n hp1
    refine wf_aload_n dc_Mod_isSign_21 rfl ?_
    refine wf_getr dc_Mod_isSign_22 fl_Mod_16 rfl (by assumption) (by assumption) ?_
    refine wf_iload_n dc_Mod_isSign_25 rfl ?_
    refine wf_iconst 1 dc_Mod_isSign_26 (by decide) ?_
    refine wf_iadd dc_Mod_isSign_27 ?_
    rw [nI_1, show b + p + 1 = b + (p + 1) by omega]
    refine wf_iaload (y := 0) dc_Mod_isSign_28 rfl (by assumption) (vp_in_nI (by omega) (by omega)) ?_
    refine wf_iload_n dc_Mod_isSign_29 rfl ?_
    rw [rd (p + 1) hp1, n1]
    rw [ham]
    by_cases he : nxN T (p + 1) = c
    · refine wf_icmp_ne 37 dc_Mod_isSign_30 (by decide) (fun hc => absurd (by rw [he]) hc) (fun hc => ?_)
      refine wf_iconst 1 dc_Mod_isSign_33 (by decide) ?_
      refine wf_goto 38 dc_Mod_isSign_34 (by decide) ?_
      exact wf_zreturn rfl rfl dc_Mod_isSign_38 ⟨1, rfl, rfl, rfl, rfl, rfl, by rw [decide_eq_true he]; rfl, rfl⟩
    · refine wf_icmp_ne 37 dc_Mod_isSign_30 (by decide) (fun hc => ?_) (fun hc => absurd ((nI_eq (by omega) (by omega)).mp hc) he)
      refine wf_iconst 0 dc_Mod_isSign_37 (by decide) ?_
      exact wf_zreturn rfl rfl dc_Mod_isSign_38 ⟨0, rfl, rfl, rfl, rfl, rfl, by rw [decide_eq_false he]; rfl, rfl⟩
  refine wf_icmp_ne 39 dc_Mod_isSign_18 (by decide) (fun hc => ?_) (fun hc => absurd hc c92)
  rw [if_neg c92] at ham
  refine wf_iload_n dc_Mod_isSign_39 rfl ?_
  refine wf_bipush 91 dc_Mod_isSign_40 (by decide) ?_
  by_cases c91 : ¬ nx_of T p = 91
  · refine wf_icmp_eq 56 dc_Mod_isSign_42 (by decide) (fun hc => absurd hc c91) (fun hc => ?_)
    rw [if_neg c91, rg_1] at ham
    obtain ⟨n1, n2, n3⟩ := hs.n hp
    refine wf_iload_n dc_Mod_isSign_45 rfl ?_
    refine wf_iload_n dc_Mod_isSign_46 rfl ?_
    rw [n1, ham]
    by_cases he : nxN T p = c
    · refine wf_icmp_ne 54 dc_Mod_isSign_47 (by decide) (fun hc => absurd (by rw [he]) hc) (fun hc => ?_)
      refine wf_iconst 1 dc_Mod_isSign_50 (by decide) ?_
      refine wf_goto 55 dc_Mod_isSign_51 (by decide) ?_
      exact wf_zreturn rfl rfl dc_Mod_isSign_55 ⟨1, rfl, rfl, rfl, rfl, rfl, by rw [decide_eq_true he]; rfl, rfl⟩
    · refine wf_icmp_ne 54 dc_Mod_isSign_47 (by decide) (fun hc => ?_) (fun hc => absurd ((nI_eq (by omega) (by omega)).mp hc) he)
      refine wf_iconst 0 dc_Mod_isSign_54 (by decide) ?_
      exact wf_zreturn rfl rfl dc_Mod_isSign_55 ⟨0, rfl, rfl, rfl, rfl, rfl, by rw [decide_eq_false he]; rfl, rfl⟩
  have c91 := Classical.not_not.mp c91
  refine wf_icmp_eq 56 dc_Mod_isSign_42 (by decide) (fun hc => ?_) (fun hc => absurd c91 hc)
  obtain ⟨⟨qe, mk⟩, hset⟩ := h91 c91
  rw [if_pos c91, hset] at ham
  dsimp only at ham
  have hqe := (ps_set_ok (S := T) (p := p + 1) (by omega)).2 _ hset
  simp only at hqe
  rw [ham]
  clear ham
  -- the end: is it in, is it not
  have fin : ∀ (m2 : Nat → Bool) (k : Int32), mk = (if nx_of T (p + 1) = 94 then ps_cm m2 else m2) → Wf l E n0 mt_Mod_isSign d 0 0 (qI nx t r g (fun z i' => z = wt_b (mk c) ∧ i' = i)) 0 0 203 [(0, .ref (m + 0)), (2, .int (nI c)), (4, .int (wt_b (decide (nx_of T (p + 1) = 94)))), (5, .int k), (6, .int (wt_b (m2 c)))] [] nx t r i g := fun m2 k hm => by
    refine wf_iload dc_Mod_isSign_203 rfl ?_
    refine wf_iload dc_Mod_isSign_205 rfl ?_
    by_cases h94 : nx_of T (p + 1) = 94
    · rw [if_pos h94] at hm
      have hmc : mk c = !m2 c := by
        rw [hm]
        unfold ps_cm
        rw [if_pos ⟨c1, by omega⟩]
      rw [hmc, decide_eq_true h94]
      cases m2 c with
      | true =>
        refine wf_icmp_eq 214 dc_Mod_isSign_207 (by decide) (fun hc => ?_) (fun hc => absurd rfl hc)
        refine wf_iconst 0 dc_Mod_isSign_214 (by decide) ?_
        exact wf_zreturn rfl rfl dc_Mod_isSign_215 ⟨0, rfl, rfl, rfl, rfl, rfl, rfl, rfl⟩
      | false =>
        refine wf_icmp_eq 214 dc_Mod_isSign_207 (by decide) (fun hc => absurd hc (by decide)) (fun hc => ?_)
        refine wf_iconst 1 dc_Mod_isSign_210 (by decide) ?_
        refine wf_goto 215 dc_Mod_isSign_211 (by decide) ?_
        exact wf_zreturn rfl rfl dc_Mod_isSign_215 ⟨1, rfl, rfl, rfl, rfl, rfl, rfl, rfl⟩
    · rw [if_neg h94] at hm
      rw [hm, decide_eq_false h94]
      cases m2 c with
      | true =>
        refine wf_icmp_eq 214 dc_Mod_isSign_207 (by decide) (fun hc => absurd hc (by decide)) (fun hc => ?_)
        refine wf_iconst 1 dc_Mod_isSign_210 (by decide) ?_
        refine wf_goto 215 dc_Mod_isSign_211 (by decide) ?_
        exact wf_zreturn rfl rfl dc_Mod_isSign_215 ⟨1, rfl, rfl, rfl, rfl, rfl, rfl, rfl⟩
      | false =>
        refine wf_icmp_eq 214 dc_Mod_isSign_207 (by decide) (fun hc => ?_) (fun hc => absurd rfl hc)
        refine wf_iconst 0 dc_Mod_isSign_214 (by decide) ?_
        exact wf_zreturn rfl rfl dc_Mod_isSign_215 ⟨0, rfl, rfl, rfl, rfl, rfl, rfl, rfl⟩
  -- one item
  have item : ∀ (q : Nat) (m0 : Nat → Bool) (q' : Nat) (m' : Nat → Bool), ps_item T q m0 = .inr (q', m') → q' < T.length → Wf l E n0 mt_Mod_isSign d 0 0 (qI nx t r g (fun z i' => z = wt_b (mk c) ∧ i' = i)) 0 0 95 [(0, .ref (m + 0)), (2, .int (nI c)), (4, .int (wt_b (decide (nx_of T (p + 1) = 94)))), (5, .int (nI (b + q'))), (6, .int (wt_b (m' c)))] [] nx t r i g → Wf l E n0 mt_Mod_isSign d 0 0 (qI nx t r g (fun z i' => z = wt_b (mk c) ∧ i' = i)) 0 0 95 [(0, .ref (m + 0)), (2, .int (nI c)), (4, .int (wt_b (decide (nx_of T (p + 1) = 94)))), (5, .int (nI (b + q))), (6, .int (wt_b (m0 c)))] [] nx t r i g := by
    intro q m0 q' m' hit hq' k
    unfold ps_item at hit
    by_cases hpi : ps_it (nx_of T q) = false
    · rw [if_pos hpi] at hit; cases hit
    rw [if_neg hpi] at hit
    have hql := ps_it_lt hpi
    have hn93 : ¬ nx_of T q = 93 := fun z => hpi (by rw [z]; rfl)
    obtain ⟨n1, n2, n3⟩ := hs.n hql
    -- behind the range's last sign
    have rng : ∀ (hi : Nat) (two : Bool), hi < 256 → m' = ps_rg m0 (nxN T q) hi → q' = q + (if two = true then 3 else 1) → Wf l E n0 mt_Mod_isSign d 0 0 (qI nx t r g (fun z i' => z = wt_b (mk c) ∧ i' = i)) 0 0 156 [(0, .ref (m + 0)), (2, .int (nI c)), (4, .int (wt_b (decide (nx_of T (p + 1) = 94)))), (5, .int (nI (b + q))), (6, .int (wt_b (m0 c))), (7, .int (nx_of T q)), (8, .int (wt_b two))] [.int (nI hi)] nx t r i g := by
      intro hi two hhi hm' hq2
      have go : ∀ y : Bool, y = m' c → Wf l E n0 mt_Mod_isSign d 0 0 (qI nx t r g (fun z i' => z = wt_b (mk c) ∧ i' = i)) 0 0 180 [(0, .ref (m + 0)), (2, .int (nI c)), (4, .int (wt_b (decide (nx_of T (p + 1) = 94)))), (5, .int (nI (b + q))), (8, .int (wt_b two))] [.int (wt_b y)] nx t r i g := fun y hy => by
        subst hy
        refine wf_istore dc_Mod_isSign_180 (by decide) ?_
        refine wf_iload dc_Mod_isSign_182 rfl ?_
        cases two with
        | true =>
          refine wf_if_eq 194 dc_Mod_isSign_184 (by decide) (fun hc => absurd hc (by decide)) (fun hc => ?_)
          refine wf_iload dc_Mod_isSign_187 rfl ?_
          refine wf_iconst 3 dc_Mod_isSign_189 (by decide) ?_
          refine wf_iadd dc_Mod_isSign_190 ?_
          rw [show nI (b + q) + 3 = nI (b + q + 3) from nI_add (b + q) 3]
          refine wf_goto 198 dc_Mod_isSign_191 (by decide) ?_
          refine wf_istore dc_Mod_isSign_198 (by decide) ?_
          refine wf_goto 95 dc_Mod_isSign_200 (by decide) ?_
          rw [if_pos rfl] at hq2
          rw [show b + q + 3 = b + q' by omega]
          exact Wf.to (by exact ⟨rfl, rfl, rfl, rfl, rfl, trivial⟩) k
        | false =>
          refine wf_if_eq 194 dc_Mod_isSign_184 (by decide) (fun hc => ?_) (fun hc => absurd rfl hc)
          refine wf_iload dc_Mod_isSign_194 rfl ?_
          refine wf_iconst 1 dc_Mod_isSign_196 (by decide) ?_
          refine wf_iadd dc_Mod_isSign_197 ?_
          rw [nI_1]
          refine wf_istore dc_Mod_isSign_198 (by decide) ?_
          refine wf_goto 95 dc_Mod_isSign_200 (by decide) ?_
          rw [if_neg (by decide)] at hq2
          rw [show b + q + 1 = b + q' by omega]
          exact Wf.to (by exact ⟨rfl, rfl, rfl, rfl, rfl, trivial⟩) k
      refine wf_istore dc_Mod_isSign_156 (by decide) ?_
      refine wf_iload dc_Mod_isSign_158 rfl ?_
      cases hm0 : m0 c with
      | true =>
        refine wf_if_ne 175 dc_Mod_isSign_160 (by decide) (fun hc => ?_) (fun hc => absurd hc (by decide))
        refine wf_iconst 1 dc_Mod_isSign_175 (by decide) ?_
        refine wf_goto 180 dc_Mod_isSign_176 (by decide) ?_
        exact Wf.to (by exact ⟨rfl, rfl, rfl, rfl, rfl, trivial⟩) (go true (by rw [hm']; unfold ps_rg; rw [hm0]; rfl))
      | false =>
        refine wf_if_ne 175 dc_Mod_isSign_160 (by decide) (fun hc => absurd rfl hc) (fun hc => ?_)
        refine wf_iload_n dc_Mod_isSign_163 rfl ?_
        refine wf_iload dc_Mod_isSign_164 rfl ?_
        rw [n1]
        by_cases hlo : nxN T q ≤ c
        · refine wf_icmp_lt 179 dc_Mod_isSign_166 (by decide) (fun hc => absurd ((nI_ltI (by omega) (by omega)).mp hc) (by omega)) (fun hc => ?_)
          refine wf_iload_n dc_Mod_isSign_169 rfl ?_
          refine wf_iload dc_Mod_isSign_170 rfl ?_
          by_cases hh : c ≤ hi
          · refine wf_icmp_gt 179 dc_Mod_isSign_172 (by decide) (fun hc => absurd ((nI_ltI (by omega) (by omega)).mp hc) (by omega)) (fun hc => ?_)
            refine wf_iconst 1 dc_Mod_isSign_175 (by decide) ?_
            refine wf_goto 180 dc_Mod_isSign_176 (by decide) ?_
            exact Wf.to (by exact ⟨rfl, rfl, rfl, rfl, rfl, trivial⟩) (go true (by rw [hm']; unfold ps_rg; rw [hm0, decide_eq_true hlo, decide_eq_true hh]; rfl))
          · refine wf_icmp_gt 179 dc_Mod_isSign_172 (by decide) (fun hc => ?_) (fun hc => absurd ((nI_ltI (by omega) (by omega)).mpr (by omega)) hc)
            refine wf_iconst 0 dc_Mod_isSign_179 (by decide) ?_
            exact Wf.to (by exact ⟨rfl, rfl, rfl, rfl, rfl, trivial⟩) (go false (by rw [hm']; unfold ps_rg; rw [hm0, decide_eq_true hlo, decide_eq_false hh]; rfl))
        · refine wf_icmp_lt 179 dc_Mod_isSign_166 (by decide) (fun hc => ?_) (fun hc => absurd ((nI_ltI (by omega) (by omega)).mpr (by omega)) hc)
          refine wf_iconst 0 dc_Mod_isSign_179 (by decide) ?_
          exact Wf.to (by exact ⟨rfl, rfl, rfl, rfl, rfl, trivial⟩) (go false (by rw [hm']; unfold ps_rg; rw [hm0, decide_eq_false hlo]; rfl))
    have hlen : q + 1 < T.length := by
      by_cases h45 : nx_of T (q + 1) = 45
      · exact nx_lt2 h45 (by decide)
      · rw [if_neg h45] at hit
        cases hit
        exact hq'
    refine wf_aload_n dc_Mod_isSign_95 rfl ?_
    refine wf_getr dc_Mod_isSign_96 fl_Mod_16 rfl (by assumption) (by assumption) ?_
    refine wf_iload dc_Mod_isSign_99 rfl ?_
    refine wf_iaload (y := 0) dc_Mod_isSign_101 rfl (by assumption) (vp_in_nI (by omega) (by omega)) ?_
    refine wf_bipush 93 dc_Mod_isSign_102 (by decide) ?_
    rw [rd q hql]
    refine wf_icmp_eq 203 dc_Mod_isSign_104 (by decide) (fun hc => absurd hc hn93) (fun hc => ?_)
    refine wf_aload_n dc_Mod_isSign_107 rfl ?_
    refine wf_getr dc_Mod_isSign_108 fl_Mod_16 rfl (by assumption) (by assumption) ?_
    refine wf_iload dc_Mod_isSign_111 rfl ?_
    refine wf_iaload (y := 0) dc_Mod_isSign_113 rfl (by assumption) (vp_in_nI (by omega) (by omega)) ?_
    rw [rd q hql]
    refine wf_istore dc_Mod_isSign_114 (by decide) ?_
    refine wf_aload_n dc_Mod_isSign_116 rfl ?_
    refine wf_getr dc_Mod_isSign_117 fl_Mod_16 rfl (by assumption) (by assumption) ?_
    refine wf_iload dc_Mod_isSign_120 rfl ?_
    refine wf_iconst 1 dc_Mod_isSign_122 (by decide) ?_
    refine wf_iadd dc_Mod_isSign_123 ?_
    rw [nI_1, show b + q + 1 = b + (q + 1) by omega]
    refine wf_iaload (y := 0) dc_Mod_isSign_124 rfl (by assumption) (vp_in_nI (by omega) (by omega)) ?_
    refine wf_bipush 45 dc_Mod_isSign_125 (by decide) ?_
    rw [rd (q + 1) hlen]
    by_cases h45 : nx_of T (q + 1) = 45
    · rw [if_pos h45] at hit
      by_cases hbd : ps_it (nx_of T (q + 2)) = false ∨ nx_of T (q + 2) < nx_of T q
      · rw [if_pos hbd] at hit; cases hit
      rw [if_neg hbd] at hit
      have hq2 : q + 2 < T.length := ps_it_lt (fun z => hbd (Or.inl z))
      obtain ⟨k1, k2, k3⟩ := hs.n hq2
      cases hit
      refine wf_icmp_ne 134 dc_Mod_isSign_127 (by decide) (fun hc => absurd h45 hc) (fun hc => ?_)
      refine wf_iconst 1 dc_Mod_isSign_130 (by decide) ?_
      refine wf_goto 135 dc_Mod_isSign_131 (by decide) ?_
      refine wf_istore dc_Mod_isSign_135 (by decide) ?_
      refine wf_iload dc_Mod_isSign_137 rfl ?_
      refine wf_if_eq 154 dc_Mod_isSign_139 (by decide) (fun hc => absurd hc (by decide)) (fun hc => ?_)
      refine wf_aload_n dc_Mod_isSign_142 rfl ?_
      refine wf_getr dc_Mod_isSign_143 fl_Mod_16 rfl (by assumption) (by assumption) ?_
      refine wf_iload dc_Mod_isSign_146 rfl ?_
      refine wf_iconst 2 dc_Mod_isSign_148 (by decide) ?_
      refine wf_iadd dc_Mod_isSign_149 ?_
      rw [show nI (b + q) + 2 = nI (b + (q + 2)) from nI_add (b + q) 2]
      refine wf_iaload (y := 0) dc_Mod_isSign_150 rfl (by assumption) (vp_in_nI (by omega) (by omega)) ?_
      refine wf_goto 156 dc_Mod_isSign_151 (by decide) ?_
      rw [rd (q + 2) hq2, k1]
      exact Wf.to (by exact ⟨rfl, rfl, rfl, rfl, rfl, rfl, rfl, trivial⟩) (rng (nxN T (q + 2)) true k3 rfl (by rw [if_pos rfl]))
    · rw [if_neg h45] at hit
      cases hit
      refine wf_icmp_ne 134 dc_Mod_isSign_127 (by decide) (fun hc => ?_) (fun hc => absurd hc h45)
      refine wf_iconst 0 dc_Mod_isSign_134 (by decide) ?_
      refine wf_istore dc_Mod_isSign_135 (by decide) ?_
      refine wf_iload dc_Mod_isSign_137 rfl ?_
      refine wf_if_eq 154 dc_Mod_isSign_139 (by decide) (fun hc => ?_) (fun hc => absurd rfl hc)
      refine wf_iload dc_Mod_isSign_154 rfl ?_
      have hr := rng (nxN T q) false n3 rfl (by rw [if_neg (by decide)])
      rw [← n1] at hr
      exact Wf.to (by exact ⟨rfl, rfl, rfl, rfl, rfl, rfl, rfl, trivial⟩) hr
  -- more items
  have more : ∀ (f q : Nat) (m0 : Nat → Bool) (p2 : Nat) (m2 : Nat → Bool), q ≤ T.length → ps_items T f q m0 = .inr (p2, m2) → nx_of T p2 = 93 → mk = (if nx_of T (p + 1) = 94 then ps_cm m2 else m2) → Wf l E n0 mt_Mod_isSign d 0 0 (qI nx t r g (fun z i' => z = wt_b (mk c) ∧ i' = i)) 0 0 95 [(0, .ref (m + 0)), (2, .int (nI c)), (4, .int (wt_b (decide (nx_of T (p + 1) = 94)))), (5, .int (nI (b + q))), (6, .int (wt_b (m0 c)))] [] nx t r i g := by
    have stop : ∀ (q : Nat) (m2 : Nat → Bool), nx_of T q = 93 → mk = (if nx_of T (p + 1) = 94 then ps_cm m2 else m2) → Wf l E n0 mt_Mod_isSign d 0 0 (qI nx t r g (fun z i' => z = wt_b (mk c) ∧ i' = i)) 0 0 95 [(0, .ref (m + 0)), (2, .int (nI c)), (4, .int (wt_b (decide (nx_of T (p + 1) = 94)))), (5, .int (nI (b + q))), (6, .int (wt_b (m2 c)))] [] nx t r i g := fun q m2 h93 hm => by
      have hql : q < T.length := nx_lt2 h93 (by decide)
      refine wf_aload_n dc_Mod_isSign_95 rfl ?_
      refine wf_getr dc_Mod_isSign_96 fl_Mod_16 rfl (by assumption) (by assumption) ?_
      refine wf_iload dc_Mod_isSign_99 rfl ?_
      refine wf_iaload (y := 0) dc_Mod_isSign_101 rfl (by assumption) (vp_in_nI (by omega) (by omega)) ?_
      refine wf_bipush 93 dc_Mod_isSign_102 (by decide) ?_
      rw [rd q hql, h93]
      refine wf_icmp_eq 203 dc_Mod_isSign_104 (by decide) (fun hc => ?_) (fun hc => absurd rfl hc)
      exact Wf.to (by exact ⟨rfl, rfl, rfl, rfl, rfl, trivial⟩) (fin m2 _ hm)
    intro f
    induction f with
    | zero =>
      intro q m0 p2 m2 hq hi h93 hm
      cases hi
      exact stop q m0 h93 hm
    | succ f ih =>
      intro q m0 p2 m2 hq hi h93 hm
      unfold ps_items at hi
      by_cases ht : nx_of T q = 0 ∨ nx_of T q = 93
      · rw [if_pos ht] at hi
        cases hi
        exact stop q m0 h93 hm
      · rw [if_neg ht] at hi
        cases hit : ps_item T q m0 with
        | inl e => rw [hit] at hi; cases hi
        | inr z =>
          obtain ⟨q', m'⟩ := z
          rw [hit] at hi
          dsimp only at hi
          have h1 := (ps_item_ok m0 hq).2 _ hit
          simp only at h1
          have h2 := (ps_items_ok f q' m' h1.2).2 _ hi
          simp only at h2
          have h3 : p2 < T.length := nx_lt2 h93 (by decide)
          exact item q m0 q' m' hit (by omega) (ih q' m' p2 m2 h1.2 hi h93 hm)
  have first : ∀ q0, q0 = (if nx_of T (p + 1) = 94 then p + 1 + 1 else p + 1) → q0 ≤ T.length → Wf l E n0 mt_Mod_isSign d 0 0 (qI nx t r g (fun z i' => z = wt_b (mk c) ∧ i' = i)) 0 0 90 [(0, .ref (m + 0)), (2, .int (nI c)), (4, .int (wt_b (decide (nx_of T (p + 1) = 94))))] [.int (nI (b + q0))] nx t r i g := fun q0 hq0 hql => by
    refine wf_istore dc_Mod_isSign_90 (by decide) ?_
    refine wf_iconst 0 dc_Mod_isSign_92 (by decide) ?_
    refine wf_istore dc_Mod_isSign_93 (by decide) ?_
    unfold ps_set at hset
    rw [← hq0] at hset
    cases hit : ps_item T q0 ps_no with
    | inl e => rw [hit] at hset; cases hset
    | inr z =>
      obtain ⟨q1, m1⟩ := z
      rw [hit] at hset
      dsimp only at hset
      have h1 := (ps_item_ok ps_no hql).2 _ hit
      simp only at h1
      cases hi : ps_items T 60 q1 m1 with
      | inl e => rw [hi] at hset; cases hset
      | inr z =>
        obtain ⟨p2, m2⟩ := z
        rw [hi] at hset
        dsimp only at hset
        have h2 := (ps_items_ok 60 q1 m1 h1.2).2 _ hi
        simp only at h2
        by_cases h93 : nx_of T p2 = 93
        · rw [if_pos h93] at hset
          cases hset
          have h3 : p2 < T.length := nx_lt2 h93 (by decide)
          exact Wf.to (L' := [(0, .ref (m + 0)), (2, .int (nI c)), (4, .int (wt_b (decide (nx_of T (p + 1) = 94)))), (5, .int (nI (b + q0))), (6, .int (wt_b (ps_no c)))]) (by exact ⟨rfl, rfl, rfl, rfl, rfl, trivial⟩) (item q0 ps_no q1 m1 hit (by omega) (more 60 q1 m1 p2 m2 h1.2 hi h93 rfl))
        · rw [if_neg h93] at hset; cases hset
  have hp1 : p + 1 < T.length := by omega
  refine wf_aload_n dc_Mod_isSign_56 rfl ?_
  refine wf_getr dc_Mod_isSign_57 fl_Mod_16 rfl (by assumption) (by assumption) ?_
  refine wf_iload_n dc_Mod_isSign_60 rfl ?_
  refine wf_iconst 1 dc_Mod_isSign_61 (by decide) ?_
  refine wf_iadd dc_Mod_isSign_62 ?_
  rw [nI_1, show b + p + 1 = b + (p + 1) by omega]
  refine wf_iaload (y := 0) dc_Mod_isSign_63 rfl (by assumption) (vp_in_nI (by omega) (by omega)) ?_
  refine wf_bipush 94 dc_Mod_isSign_64 (by decide) ?_
  rw [rd (p + 1) hp1]
  by_cases h94 : nx_of T (p + 1) = 94
  · rw [decide_eq_true h94] at first
    refine wf_icmp_ne 73 dc_Mod_isSign_66 (by decide) (fun hc => absurd h94 hc) (fun hc => ?_)
    refine wf_iconst 1 dc_Mod_isSign_69 (by decide) ?_
    refine wf_goto 74 dc_Mod_isSign_70 (by decide) ?_
    refine wf_istore dc_Mod_isSign_74 (by decide) ?_
    refine wf_iload dc_Mod_isSign_76 rfl ?_
    refine wf_if_eq 87 dc_Mod_isSign_78 (by decide) (fun hc => absurd hc (by decide)) (fun hc => ?_)
    refine wf_iload_n dc_Mod_isSign_81 rfl ?_
    refine wf_iconst 2 dc_Mod_isSign_82 (by decide) ?_
    refine wf_iadd dc_Mod_isSign_83 ?_
    rw [show nI (b + p) + 2 = nI (b + (p + 1 + 1)) from nI_add (b + p) 2]
    refine wf_goto 90 dc_Mod_isSign_84 (by decide) ?_
    exact Wf.to (by exact ⟨rfl, rfl, rfl, trivial⟩) (first (p + 1 + 1) (by rw [if_pos h94]) (by omega))
  · rw [decide_eq_false h94] at first
    refine wf_icmp_ne 73 dc_Mod_isSign_66 (by decide) (fun hc => ?_) (fun hc => absurd hc h94)
    refine wf_iconst 0 dc_Mod_isSign_73 (by decide) ?_
    refine wf_istore dc_Mod_isSign_74 (by decide) ?_
    refine wf_iload dc_Mod_isSign_76 rfl ?_
    refine wf_if_eq 87 dc_Mod_isSign_78 (by decide) (fun hc => ?_) (fun hc => absurd rfl hc)
    refine wf_iload_n dc_Mod_isSign_87 rfl ?_
    refine wf_iconst 1 dc_Mod_isSign_88 (by decide) ?_
    refine wf_iadd dc_Mod_isSign_89 ?_
    rw [nI_1, show b + p + 1 = b + (p + 1) by omega]
    exact Wf.to (by exact ⟨rfl, rfl, rfl, trivial⟩) (first (p + 1) (by rw [if_neg h94]) (by omega))
end
