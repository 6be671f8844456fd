/-! the law: an op that may be refused (laid by gen/law.py) -/
section
variable {l : Launch} {E : We} {n0 d nx mc ms bk bn bk' bn' : Nat} {t : Wt} {r : Wr} {i : Wi} {g : Wl} {b sc n j : Nat} {Q Q1 : Wq}
theorem lc_eq (x : Int64) : lg_cmp x x = 0 := by simp [lg_cmp]
theorem s_feed (tS : t sc = some (.inr (wl_AS, n))) (h1 : vp_in (nI (6 * j) + 1) n) (h2 : vp_in (nI (6 * j) + 2) n) (h3 : vp_in (nI (6 * j) + 3) n) (h4 : vp_in (nI (6 * j) + 4) n) (h5 : vp_in (nI (6 * j) + 5) n) (hk : bk' + 1 ≤ bk) (hn : bn' + 6 ≤ bn) (hC : Cw l E n0 mt_Law_feed d 1 6 [.ref (b + 0), .int (i sc (nI (6 * j) + 1).toNatClampNeg), .int (i sc (nI (6 * j) + 2).toNatClampNeg), .int (i sc (nI (6 * j) + 3).toNatClampNeg), .int (i sc (nI (6 * j) + 4).toNatClampNeg), .int (i sc (nI (6 * j) + 5).toNatClampNeg), .ref (b + 221)] nx t r i g Q1)
    (hQ : ∀ o nx' t' r' i' g', Q1 o nx' t' r' i' g' → ∃ k : Int32, o = .inl (some (.int k)) ∧ mo_at t' r' (b + 193) ∧ t' sc = some (.inr (wl_AS, n)) ∧ t' (b + 221) = some (.inr (2, 1)) ∧ ∃ R : Int32 → Wi → Prop, Ct l E n0 mt_Mod_feed d 0 0 [.ref (b + 193 + 0), .int (i' sc (nI (6 * j) + 1).toNatClampNeg), .int (i' sc (nI (6 * j) + 2).toNatClampNeg), .int (i' sc (nI (6 * j) + 3).toNatClampNeg), .int (i' sc (nI (6 * j) + 4).toNatClampNeg), .int (i' sc (nI (6 * j) + 5).toNatClampNeg)] nx' t' r' i' g' (qI nx' t' r' g' R) ∧ ∀ z i'', R z i'' → i'' (b + 193 + 0) 0 = k ∧ (k = 0 → g' (b + 221) 0 = z.toInt64) ∧ Wf l E n0 mt_Law_law (d + 1) mc ms Q bk' bn' 988 [(0, .ref sc), (1, .ref (b + 0)), (2, .ref (b + 193 + 0)), (3, .ref (b + 221)), (4, .int (nI (6 * j)))] [] nx' t' r' i'' g') :
    Wf l E n0 mt_Law_law (d + 1) mc ms Q bk bn 120 [(0, .ref sc), (1, .ref (b + 0)), (2, .ref (b + 193 + 0)), (3, .ref (b + 221)), (4, .int (nI (6 * j)))] [] nx t r i g := by
  refine wf_aload_n dc_Law_law_120 rfl ?_
  refine wf_aload_n dc_Law_law_121 rfl ?_
  refine wf_iload dc_Law_law_122 rfl ?_
  refine wf_iconst 1 dc_Law_law_124 (by decide) ?_
  refine wf_iadd dc_Law_law_125 ?_
  refine wf_iaload (y := wl_AS) dc_Law_law_126 rfl (by assumption) (by assumption) ?_
  refine wf_aload_n dc_Law_law_127 rfl ?_
  refine wf_iload dc_Law_law_128 rfl ?_
  refine wf_iconst 2 dc_Law_law_130 (by decide) ?_
  refine wf_iadd dc_Law_law_131 ?_
  refine wf_iaload (y := wl_AS) dc_Law_law_132 rfl (by assumption) (by assumption) ?_
  refine wf_aload_n dc_Law_law_133 rfl ?_
  refine wf_iload dc_Law_law_134 rfl ?_
  refine wf_iconst 3 dc_Law_law_136 (by decide) ?_
  refine wf_iadd dc_Law_law_137 ?_
  refine wf_iaload (y := wl_AS) dc_Law_law_138 rfl (by assumption) (by assumption) ?_
  refine wf_aload_n dc_Law_law_139 rfl ?_
  refine wf_iload dc_Law_law_140 rfl ?_
  refine wf_iconst 4 dc_Law_law_142 (by decide) ?_
  refine wf_iadd dc_Law_law_143 ?_
  refine wf_iaload (y := wl_AS) dc_Law_law_144 rfl (by assumption) (by assumption) ?_
  refine wf_aload_n dc_Law_law_145 rfl ?_
  refine wf_iload dc_Law_law_146 rfl ?_
  refine wf_iconst 5 dc_Law_law_148 (by decide) ?_
  refine wf_iadd dc_Law_law_149 ?_
  refine wf_iaload (y := wl_AS) dc_Law_law_150 rfl (by assumption) (by assumption) ?_
  refine wf_aload_n dc_Law_law_151 rfl ?_
  refine wf_isw (st := []) (As := [.ref (b + 0), .int (i sc (nI (6 * j) + 1).toNatClampNeg), .int (i sc (nI (6 * j) + 2).toNatClampNeg), .int (i sc (nI (6 * j) + 3).toNatClampNeg), .int (i sc (nI (6 * j) + 4).toNatClampNeg), .int (i sc (nI (6 * j) + 5).toNatClampNeg), .ref (b + 221)]) (M' := mt_Law_feed) (bk' := bk') (bn' := bn') dc_Law_law_152 wt_feed ml_Law_60 ws_feed (Nat.le_of_ble_eq_true rfl) hk hn hC (fun X nx t r i g h => by obtain ⟨k, q, -⟩ := hQ _ _ _ _ _ _ h; cases q) ?_
  intro v nx1 t1 r1 i1 g1 hq1
  obtain ⟨k, hv, hA, tS1, tO1, R, hM, hR⟩ := hQ _ _ _ _ _ _ hq1
  cases hv
  have tM := hA.1.1
  refine wf_istore dc_Law_law_155 (by decide) ?_
  refine wf_aload_n dc_Law_law_157 rfl ?_
  refine wf_aload_n dc_Law_law_158 rfl ?_
  refine wf_iload dc_Law_law_159 rfl ?_
  refine wf_iconst 1 dc_Law_law_161 (by decide) ?_
  refine wf_iadd dc_Law_law_162 ?_
  refine wf_iaload (y := wl_AS) dc_Law_law_163 rfl (by assumption) (by assumption) ?_
  refine wf_aload_n dc_Law_law_164 rfl ?_
  refine wf_iload dc_Law_law_165 rfl ?_
  refine wf_iconst 2 dc_Law_law_167 (by decide) ?_
  refine wf_iadd dc_Law_law_168 ?_
  refine wf_iaload (y := wl_AS) dc_Law_law_169 rfl (by assumption) (by assumption) ?_
  refine wf_aload_n dc_Law_law_170 rfl ?_
  refine wf_iload dc_Law_law_171 rfl ?_
  refine wf_iconst 3 dc_Law_law_173 (by decide) ?_
  refine wf_iadd dc_Law_law_174 ?_
  refine wf_iaload (y := wl_AS) dc_Law_law_175 rfl (by assumption) (by assumption) ?_
  refine wf_aload_n dc_Law_law_176 rfl ?_
  refine wf_iload dc_Law_law_177 rfl ?_
  refine wf_iconst 4 dc_Law_law_179 (by decide) ?_
  refine wf_iadd dc_Law_law_180 ?_
  refine wf_iaload (y := wl_AS) dc_Law_law_181 rfl (by assumption) (by assumption) ?_
  refine wf_aload_n dc_Law_law_182 rfl ?_
  refine wf_iload dc_Law_law_183 rfl ?_
  refine wf_iconst 5 dc_Law_law_185 (by decide) ?_
  refine wf_iadd dc_Law_law_186 ?_
  refine wf_iaload (y := wl_AS) dc_Law_law_187 rfl (by assumption) (by assumption) ?_
  refine wf_iv (st := []) (As := [.int (i1 sc (nI (6 * j) + 1).toNatClampNeg), .int (i1 sc (nI (6 * j) + 2).toNatClampNeg), .int (i1 sc (nI (6 * j) + 3).toNatClampNeg), .int (i1 sc (nI (6 * j) + 4).toNatClampNeg), .int (i1 sc (nI (6 * j) + 5).toNatClampNeg)]) (M' := mt_Mod_feed) (c := 8) (bk' := bk') (bn' := bn') dc_Law_law_188 tg_Mod_feed ml_Law_65 im_Mod_feed se_Mod_feed ⟨_, rfl, rfl⟩ tM (Nat.le_of_ble_eq_true rfl) (Nat.le_refl _) (Nat.le_refl _) hM (fun X nx t r i g h => by obtain ⟨z, q, -⟩ := h; cases q) ?_
  intro v2 nx2 t2 r2 i2 g2 hq2
  obtain ⟨z, hv2, rfl, rfl, rfl, rfl, hz⟩ := hq2
  cases hv2
  obtain ⟨z1, z2, z3⟩ := hR z i2 hz
  refine wf_istore dc_Law_law_191 (by decide) ?_
  refine wf_aload_n dc_Law_law_193 rfl ?_
  refine wf_iv0 (M' := mt_Mod_thrown) (c := 8) dc_Law_law_194 tg_Mod_thrown ml_Law_66 im_Mod_thrown se_Mod_thrown ⟨_, rfl, rfl⟩ (by assumption) (Nat.le_of_ble_eq_true rfl) (Nat.le_refl _) (Nat.le_refl _) (c_Mod_thrown hA) qI_nt (qI_go (fun x2 i2 hp => ?_))
  obtain ⟨rfl, hq⟩ := hp
  subst hq
  rw [z1]
  refine wf_iload dc_Law_law_197 rfl ?_
  refine wf_icmp_eq 204 dc_Law_law_199 (by decide) (fun hc => ?_) (fun hc => absurd rfl hc)
  refine wf_iload dc_Law_law_204 rfl ?_
  by_cases hk0 : k = 0
  · refine wf_if_ne 221 dc_Law_law_206 (by decide) (fun hc => absurd hk0 hc) (fun hc => ?_)
    refine wf_aload_n dc_Law_law_209 rfl ?_
    refine wf_iconst 0 dc_Law_law_210 (by decide) ?_
    refine wf_laload (y := 2) dc_Law_law_211 rfl (by assumption) (vp_in_nI (n := 0) (by omega) (by omega)) ?_
    refine wf_iload dc_Law_law_212 rfl ?_
    refine wf_i2l dc_Law_law_214 ?_
    refine wf_lcmp dc_Law_law_215 ?_
    rw [show g2 (b + 221) (Int32.toNatClampNeg 0) = z.toInt64 from z2 hk0, lc_eq]
    refine wf_if_eq 221 dc_Law_law_216 (by decide) (fun hc => ?_) (fun hc => absurd rfl hc)
    refine wf_goto 988 dc_Law_law_221 (by decide) ?_
    exact Wf.to (by exact ⟨rfl, rfl, rfl, rfl, rfl, trivial⟩) z3
  · refine wf_if_ne 221 dc_Law_law_206 (by decide) (fun hc => ?_) (fun hc => absurd hc hk0)
    refine wf_goto 988 dc_Law_law_221 (by decide) ?_
    exact Wf.to (by exact ⟨rfl, rfl, rfl, rfl, rfl, trivial⟩) z3
theorem s_expression (tS : t sc = some (.inr (wl_AS, n))) (h1 : vp_in (nI (6 * j) + 1) n) (hk : bk' + 1 ≤ bk) (hn : bn' + 6 ≤ bn) (hC : Cw l E n0 mt_Law_expression d 1 6 [.ref (b + 0), .int (i sc (nI (6 * j) + 1).toNatClampNeg), .ref (b + 221)] nx t r i g Q1)
    (hQ : ∀ o nx' t' r' i' g', Q1 o nx' t' r' i' g' → ∃ k : Int32, o = .inl (some (.int k)) ∧ mo_at t' r' (b + 193) ∧ t' sc = some (.inr (wl_AS, n)) ∧ t' (b + 221) = some (.inr (2, 1)) ∧ ∃ R : Int32 → Wi → Prop, Ct l E n0 mt_Mod_expression d 0 0 [.ref (b + 193 + 0), .int (i' sc (nI (6 * j) + 1).toNatClampNeg)] nx' t' r' i' g' (qI nx' t' r' g' R) ∧ ∀ z i'', R z i'' → i'' (b + 193 + 0) 0 = k ∧ (k = 0 → g' (b + 221) 0 = z.toInt64) ∧ Wf l E n0 mt_Law_law (d + 1) mc ms Q bk' bn' 988 [(0, .ref sc), (1, .ref (b + 0)), (2, .ref (b + 193 + 0)), (3, .ref (b + 221)), (4, .int (nI (6 * j)))] [] nx' t' r' i'' g') :
    Wf l E n0 mt_Law_law (d + 1) mc ms Q bk bn 237 [(0, .ref sc), (1, .ref (b + 0)), (2, .ref (b + 193 + 0)), (3, .ref (b + 221)), (4, .int (nI (6 * j)))] [] nx t r i g := by
  refine wf_aload_n dc_Law_law_237 rfl ?_
  refine wf_aload_n dc_Law_law_238 rfl ?_
  refine wf_iload dc_Law_law_239 rfl ?_
  refine wf_iconst 1 dc_Law_law_241 (by decide) ?_
  refine wf_iadd dc_Law_law_242 ?_
  refine wf_iaload (y := wl_AS) dc_Law_law_243 rfl (by assumption) (by assumption) ?_
  refine wf_aload_n dc_Law_law_244 rfl ?_
  refine wf_isw (st := []) (As := [.ref (b + 0), .int (i sc (nI (6 * j) + 1).toNatClampNeg), .ref (b + 221)]) (M' := mt_Law_expression) (bk' := bk') (bn' := bn') dc_Law_law_245 wt_expression ml_Law_74 ws_expression (Nat.le_of_ble_eq_true rfl) hk hn hC (fun X nx t r i g h => by obtain ⟨k, q, -⟩ := hQ _ _ _ _ _ _ h; cases q) ?_
  intro v nx1 t1 r1 i1 g1 hq1
  obtain ⟨k, hv, hA, tS1, tO1, R, hM, hR⟩ := hQ _ _ _ _ _ _ hq1
  cases hv
  have tM := hA.1.1
  refine wf_istore dc_Law_law_248 (by decide) ?_
  refine wf_aload_n dc_Law_law_250 rfl ?_
  refine wf_aload_n dc_Law_law_251 rfl ?_
  refine wf_iload dc_Law_law_252 rfl ?_
  refine wf_iconst 1 dc_Law_law_254 (by decide) ?_
  refine wf_iadd dc_Law_law_255 ?_
  refine wf_iaload (y := wl_AS) dc_Law_law_256 rfl (by assumption) (by assumption) ?_
  refine wf_iv (st := []) (As := [.int (i1 sc (nI (6 * j) + 1).toNatClampNeg)]) (M' := mt_Mod_expression) (c := 8) (bk' := bk') (bn' := bn') dc_Law_law_257 tg_Mod_expression ml_Law_77 im_Mod_expression se_Mod_expression ⟨_, rfl, rfl⟩ tM (Nat.le_of_ble_eq_true rfl) (Nat.le_refl _) (Nat.le_refl _) hM (fun X nx t r i g h => by obtain ⟨z, q, -⟩ := h; cases q) ?_
  intro v2 nx2 t2 r2 i2 g2 hq2
  obtain ⟨z, hv2, rfl, rfl, rfl, rfl, hz⟩ := hq2
  cases hv2
  obtain ⟨z1, z2, z3⟩ := hR z i2 hz
  refine wf_istore dc_Law_law_260 (by decide) ?_
  refine wf_aload_n dc_Law_law_262 rfl ?_
  refine wf_iv0 (M' := mt_Mod_thrown) (c := 8) dc_Law_law_263 tg_Mod_thrown ml_Law_66 im_Mod_thrown se_Mod_thrown ⟨_, rfl, rfl⟩ (by assumption) (Nat.le_of_ble_eq_true rfl) (Nat.le_refl _) (Nat.le_refl _) (c_Mod_thrown hA) qI_nt (qI_go (fun x2 i2 hp => ?_))
  obtain ⟨rfl, hq⟩ := hp
  subst hq
  rw [z1]
  refine wf_iload dc_Law_law_266 rfl ?_
  refine wf_icmp_eq 273 dc_Law_law_268 (by decide) (fun hc => ?_) (fun hc => absurd rfl hc)
  refine wf_iload dc_Law_law_273 rfl ?_
  by_cases hk0 : k = 0
  · refine wf_if_ne 290 dc_Law_law_275 (by decide) (fun hc => absurd hk0 hc) (fun hc => ?_)
    refine wf_aload_n dc_Law_law_278 rfl ?_
    refine wf_iconst 0 dc_Law_law_279 (by decide) ?_
    refine wf_laload (y := 2) dc_Law_law_280 rfl (by assumption) (vp_in_nI (n := 0) (by omega) (by omega)) ?_
    refine wf_iload dc_Law_law_281 rfl ?_
    refine wf_i2l dc_Law_law_283 ?_
    refine wf_lcmp dc_Law_law_284 ?_
    rw [show g2 (b + 221) (Int32.toNatClampNeg 0) = z.toInt64 from z2 hk0, lc_eq]
    refine wf_if_eq 290 dc_Law_law_285 (by decide) (fun hc => ?_) (fun hc => absurd rfl hc)
    refine wf_goto 988 dc_Law_law_290 (by decide) ?_
    exact Wf.to (by exact ⟨rfl, rfl, rfl, rfl, rfl, trivial⟩) z3
  · refine wf_if_ne 290 dc_Law_law_275 (by decide) (fun hc => ?_) (fun hc => absurd hc hk0)
    refine wf_goto 988 dc_Law_law_290 (by decide) ?_
    exact Wf.to (by exact ⟨rfl, rfl, rfl, rfl, rfl, trivial⟩) z3
theorem s_text (tS : t sc = some (.inr (wl_AS, n))) (h1 : vp_in (nI (6 * j) + 1) n) (hk : bk' + 1 ≤ bk) (hn : bn' + 6 ≤ bn) (hC : Cw l E n0 mt_Law_text d 1 6 [.ref (b + 0), .int (i sc (nI (6 * j) + 1).toNatClampNeg), .ref (b + 221)] nx t r i g Q1)
    (hQ : ∀ o nx' t' r' i' g', Q1 o nx' t' r' i' g' → ∃ k : Int32, o = .inl (some (.int k)) ∧ mo_at t' r' (b + 193) ∧ t' sc = some (.inr (wl_AS, n)) ∧ t' (b + 221) = some (.inr (2, 1)) ∧ ∃ R : Int32 → Wi → Prop, Ct l E n0 mt_Mod_text d 0 0 [.ref (b + 193 + 0), .int (i' sc (nI (6 * j) + 1).toNatClampNeg)] nx' t' r' i' g' (qI nx' t' r' g' R) ∧ ∀ z i'', R z i'' → i'' (b + 193 + 0) 0 = k ∧ (k = 0 → g' (b + 221) 0 = z.toInt64) ∧ Wf l E n0 mt_Law_law (d + 1) mc ms Q bk' bn' 988 [(0, .ref sc), (1, .ref (b + 0)), (2, .ref (b + 193 + 0)), (3, .ref (b + 221)), (4, .int (nI (6 * j)))] [] nx' t' r' i'' g') :
    Wf l E n0 mt_Law_law (d + 1) mc ms Q bk bn 293 [(0, .ref sc), (1, .ref (b + 0)), (2, .ref (b + 193 + 0)), (3, .ref (b + 221)), (4, .int (nI (6 * j)))] [] nx t r i g := by
  refine wf_aload_n dc_Law_law_293 rfl ?_
  refine wf_aload_n dc_Law_law_294 rfl ?_
  refine wf_iload dc_Law_law_295 rfl ?_
  refine wf_iconst 1 dc_Law_law_297 (by decide) ?_
  refine wf_iadd dc_Law_law_298 ?_
  refine wf_iaload (y := wl_AS) dc_Law_law_299 rfl (by assumption) (by assumption) ?_
  refine wf_aload_n dc_Law_law_300 rfl ?_
  refine wf_isw (st := []) (As := [.ref (b + 0), .int (i sc (nI (6 * j) + 1).toNatClampNeg), .ref (b + 221)]) (M' := mt_Law_text) (bk' := bk') (bn' := bn') dc_Law_law_301 wt_text ml_Law_78 ws_text (Nat.le_of_ble_eq_true rfl) hk hn hC (fun X nx t r i g h => by obtain ⟨k, q, -⟩ := hQ _ _ _ _ _ _ h; cases q) ?_
  intro v nx1 t1 r1 i1 g1 hq1
  obtain ⟨k, hv, hA, tS1, tO1, R, hM, hR⟩ := hQ _ _ _ _ _ _ hq1
  cases hv
  have tM := hA.1.1
  refine wf_istore dc_Law_law_304 (by decide) ?_
  refine wf_aload_n dc_Law_law_306 rfl ?_
  refine wf_aload_n dc_Law_law_307 rfl ?_
  refine wf_iload dc_Law_law_308 rfl ?_
  refine wf_iconst 1 dc_Law_law_310 (by decide) ?_
  refine wf_iadd dc_Law_law_311 ?_
  refine wf_iaload (y := wl_AS) dc_Law_law_312 rfl (by assumption) (by assumption) ?_
  refine wf_iv (st := []) (As := [.int (i1 sc (nI (6 * j) + 1).toNatClampNeg)]) (M' := mt_Mod_text) (c := 8) (bk' := bk') (bn' := bn') dc_Law_law_313 tg_Mod_text ml_Law_80 im_Mod_text se_Mod_text ⟨_, rfl, rfl⟩ tM (Nat.le_of_ble_eq_true rfl) (Nat.le_refl _) (Nat.le_refl _) hM (fun X nx t r i g h => by obtain ⟨z, q, -⟩ := h; cases q) ?_
  intro v2 nx2 t2 r2 i2 g2 hq2
  obtain ⟨z, hv2, rfl, rfl, rfl, rfl, hz⟩ := hq2
  cases hv2
  obtain ⟨z1, z2, z3⟩ := hR z i2 hz
  refine wf_istore dc_Law_law_316 (by decide) ?_
  refine wf_aload_n dc_Law_law_318 rfl ?_
  refine wf_iv0 (M' := mt_Mod_thrown) (c := 8) dc_Law_law_319 tg_Mod_thrown ml_Law_66 im_Mod_thrown se_Mod_thrown ⟨_, rfl, rfl⟩ (by assumption) (Nat.le_of_ble_eq_true rfl) (Nat.le_refl _) (Nat.le_refl _) (c_Mod_thrown hA) qI_nt (qI_go (fun x2 i2 hp => ?_))
  obtain ⟨rfl, hq⟩ := hp
  subst hq
  rw [z1]
  refine wf_iload dc_Law_law_322 rfl ?_
  refine wf_icmp_eq 329 dc_Law_law_324 (by decide) (fun hc => ?_) (fun hc => absurd rfl hc)
  refine wf_iload dc_Law_law_329 rfl ?_
  by_cases hk0 : k = 0
  · refine wf_if_ne 346 dc_Law_law_331 (by decide) (fun hc => absurd hk0 hc) (fun hc => ?_)
    refine wf_aload_n dc_Law_law_334 rfl ?_
    refine wf_iconst 0 dc_Law_law_335 (by decide) ?_
    refine wf_laload (y := 2) dc_Law_law_336 rfl (by assumption) (vp_in_nI (n := 0) (by omega) (by omega)) ?_
    refine wf_iload dc_Law_law_337 rfl ?_
    refine wf_i2l dc_Law_law_339 ?_
    refine wf_lcmp dc_Law_law_340 ?_
    rw [show g2 (b + 221) (Int32.toNatClampNeg 0) = z.toInt64 from z2 hk0, lc_eq]
    refine wf_if_eq 346 dc_Law_law_341 (by decide) (fun hc => ?_) (fun hc => absurd rfl hc)
    refine wf_goto 988 dc_Law_law_346 (by decide) ?_
    exact Wf.to (by exact ⟨rfl, rfl, rfl, rfl, rfl, trivial⟩) z3
  · refine wf_if_ne 346 dc_Law_law_331 (by decide) (fun hc => ?_) (fun hc => absurd hc hk0)
    refine wf_goto 988 dc_Law_law_346 (by decide) ?_
    exact Wf.to (by exact ⟨rfl, rfl, rfl, rfl, rfl, trivial⟩) z3
theorem s_separator (tS : t sc = some (.inr (wl_AS, n))) (h1 : vp_in (nI (6 * j) + 1) n) (hk : bk' + 1 ≤ bk) (hn : bn' + 6 ≤ bn) (hC : Cw l E n0 mt_Law_separator d 1 6 [.ref (b + 0), .int (i sc (nI (6 * j) + 1).toNatClampNeg), .ref (b + 221)] nx t r i g Q1)
    (hQ : ∀ o nx' t' r' i' g', Q1 o nx' t' r' i' g' → ∃ k : Int32, o = .inl (some (.int k)) ∧ mo_at t' r' (b + 193) ∧ t' sc = some (.inr (wl_AS, n)) ∧ t' (b + 221) = some (.inr (2, 1)) ∧ ∃ R : Int32 → Wi → Prop, Ct l E n0 mt_Mod_separator d 0 0 [.ref (b + 193 + 0), .int (i' sc (nI (6 * j) + 1).toNatClampNeg)] nx' t' r' i' g' (qI nx' t' r' g' R) ∧ ∀ z i'', R z i'' → i'' (b + 193 + 0) 0 = k ∧ (k = 0 → g' (b + 221) 0 = z.toInt64) ∧ Wf l E n0 mt_Law_law (d + 1) mc ms Q bk' bn' 988 [(0, .ref sc), (1, .ref (b + 0)), (2, .ref (b + 193 + 0)), (3, .ref (b + 221)), (4, .int (nI (6 * j)))] [] nx' t' r' i'' g') :
    Wf l E n0 mt_Law_law (d + 1) mc ms Q bk bn 349 [(0, .ref sc), (1, .ref (b + 0)), (2, .ref (b + 193 + 0)), (3, .ref (b + 221)), (4, .int (nI (6 * j)))] [] nx t r i g := by
  refine wf_aload_n dc_Law_law_349 rfl ?_
  refine wf_aload_n dc_Law_law_350 rfl ?_
  refine wf_iload dc_Law_law_351 rfl ?_
  refine wf_iconst 1 dc_Law_law_353 (by decide) ?_
  refine wf_iadd dc_Law_law_354 ?_
  refine wf_iaload (y := wl_AS) dc_Law_law_355 rfl (by assumption) (by assumption) ?_
  refine wf_aload_n dc_Law_law_356 rfl ?_
  refine wf_isw (st := []) (As := [.ref (b + 0), .int (i sc (nI (6 * j) + 1).toNatClampNeg), .ref (b + 221)]) (M' := mt_Law_separator) (bk' := bk') (bn' := bn') dc_Law_law_357 wt_separator ml_Law_81 ws_separator (Nat.le_of_ble_eq_true rfl) hk hn hC (fun X nx t r i g h => by obtain ⟨k, q, -⟩ := hQ _ _ _ _ _ _ h; cases q) ?_
  intro v nx1 t1 r1 i1 g1 hq1
  obtain ⟨k, hv, hA, tS1, tO1, R, hM, hR⟩ := hQ _ _ _ _ _ _ hq1
  cases hv
  have tM := hA.1.1
  refine wf_istore dc_Law_law_360 (by decide) ?_
  refine wf_aload_n dc_Law_law_362 rfl ?_
  refine wf_aload_n dc_Law_law_363 rfl ?_
  refine wf_iload dc_Law_law_364 rfl ?_
  refine wf_iconst 1 dc_Law_law_366 (by decide) ?_
  refine wf_iadd dc_Law_law_367 ?_
  refine wf_iaload (y := wl_AS) dc_Law_law_368 rfl (by assumption) (by assumption) ?_
  refine wf_iv (st := []) (As := [.int (i1 sc (nI (6 * j) + 1).toNatClampNeg)]) (M' := mt_Mod_separator) (c := 8) (bk' := bk') (bn' := bn') dc_Law_law_369 tg_Mod_separator ml_Law_83 im_Mod_separator se_Mod_separator ⟨_, rfl, rfl⟩ tM (Nat.le_of_ble_eq_true rfl) (Nat.le_refl _) (Nat.le_refl _) hM (fun X nx t r i g h => by obtain ⟨z, q, -⟩ := h; cases q) ?_
  intro v2 nx2 t2 r2 i2 g2 hq2
  obtain ⟨z, hv2, rfl, rfl, rfl, rfl, hz⟩ := hq2
  cases hv2
  obtain ⟨z1, z2, z3⟩ := hR z i2 hz
  refine wf_istore dc_Law_law_372 (by decide) ?_
  refine wf_aload_n dc_Law_law_374 rfl ?_
  refine wf_iv0 (M' := mt_Mod_thrown) (c := 8) dc_Law_law_375 tg_Mod_thrown ml_Law_66 im_Mod_thrown se_Mod_thrown ⟨_, rfl, rfl⟩ (by assumption) (Nat.le_of_ble_eq_true rfl) (Nat.le_refl _) (Nat.le_refl _) (c_Mod_thrown hA) qI_nt (qI_go (fun x2 i2 hp => ?_))
  obtain ⟨rfl, hq⟩ := hp
  subst hq
  rw [z1]
  refine wf_iload dc_Law_law_378 rfl ?_
  refine wf_icmp_eq 385 dc_Law_law_380 (by decide) (fun hc => ?_) (fun hc => absurd rfl hc)
  refine wf_iload dc_Law_law_385 rfl ?_
  by_cases hk0 : k = 0
  · refine wf_if_ne 402 dc_Law_law_387 (by decide) (fun hc => absurd hk0 hc) (fun hc => ?_)
    refine wf_aload_n dc_Law_law_390 rfl ?_
    refine wf_iconst 0 dc_Law_law_391 (by decide) ?_
    refine wf_laload (y := 2) dc_Law_law_392 rfl (by assumption) (vp_in_nI (n := 0) (by omega) (by omega)) ?_
    refine wf_iload dc_Law_law_393 rfl ?_
    refine wf_i2l dc_Law_law_395 ?_
    refine wf_lcmp dc_Law_law_396 ?_
    rw [show g2 (b + 221) (Int32.toNatClampNeg 0) = z.toInt64 from z2 hk0, lc_eq]
    refine wf_if_eq 402 dc_Law_law_397 (by decide) (fun hc => ?_) (fun hc => absurd rfl hc)
    refine wf_goto 988 dc_Law_law_402 (by decide) ?_
    exact Wf.to (by exact ⟨rfl, rfl, rfl, rfl, rfl, trivial⟩) z3
  · refine wf_if_ne 402 dc_Law_law_387 (by decide) (fun hc => ?_) (fun hc => absurd hc hk0)
    refine wf_goto 988 dc_Law_law_402 (by decide) ?_
    exact Wf.to (by exact ⟨rfl, rfl, rfl, rfl, rfl, trivial⟩) z3
theorem s_rule (tS : t sc = some (.inr (wl_AS, n))) (h1 : vp_in (nI (6 * j) + 1) n) (h2 : vp_in (nI (6 * j) + 2) n) (h3 : vp_in (nI (6 * j) + 3) n) (hk : bk' + 1 ≤ bk) (hn : bn' + 6 ≤ bn) (hC : Cw l E n0 mt_Law_rule d 1 6 [.ref (b + 0), .int (i sc (nI (6 * j) + 1).toNatClampNeg), .int (i sc (nI (6 * j) + 2).toNatClampNeg), .int (i sc (nI (6 * j) + 3).toNatClampNeg), .ref (b + 221)] nx t r i g Q1)
    (hQ : ∀ o nx' t' r' i' g', Q1 o nx' t' r' i' g' → ∃ k : Int32, o = .inl (some (.int k)) ∧ mo_at t' r' (b + 193) ∧ t' sc = some (.inr (wl_AS, n)) ∧ t' (b + 221) = some (.inr (2, 1)) ∧ ∃ R : Int32 → Wi → Prop, Ct l E n0 mt_Mod_rule d 0 0 [.ref (b + 193 + 0), .int (i' sc (nI (6 * j) + 1).toNatClampNeg), .int (i' sc (nI (6 * j) + 2).toNatClampNeg), .int (i' sc (nI (6 * j) + 3).toNatClampNeg)] nx' t' r' i' g' (qI nx' t' r' g' R) ∧ ∀ z i'', R z i'' → i'' (b + 193 + 0) 0 = k ∧ (k = 0 → g' (b + 221) 0 = z.toInt64) ∧ Wf l E n0 mt_Law_law (d + 1) mc ms Q bk' bn' 988 [(0, .ref sc), (1, .ref (b + 0)), (2, .ref (b + 193 + 0)), (3, .ref (b + 221)), (4, .int (nI (6 * j)))] [] nx' t' r' i'' g') :
    Wf l E n0 mt_Law_law (d + 1) mc ms Q bk bn 405 [(0, .ref sc), (1, .ref (b + 0)), (2, .ref (b + 193 + 0)), (3, .ref (b + 221)), (4, .int (nI (6 * j)))] [] nx t r i g := by
  refine wf_aload_n dc_Law_law_405 rfl ?_
  refine wf_aload_n dc_Law_law_406 rfl ?_
  refine wf_iload dc_Law_law_407 rfl ?_
  refine wf_iconst 1 dc_Law_law_409 (by decide) ?_
  refine wf_iadd dc_Law_law_410 ?_
  refine wf_iaload (y := wl_AS) dc_Law_law_411 rfl (by assumption) (by assumption) ?_
  refine wf_aload_n dc_Law_law_412 rfl ?_
  refine wf_iload dc_Law_law_413 rfl ?_
  refine wf_iconst 2 dc_Law_law_415 (by decide) ?_
  refine wf_iadd dc_Law_law_416 ?_
  refine wf_iaload (y := wl_AS) dc_Law_law_417 rfl (by assumption) (by assumption) ?_
  refine wf_aload_n dc_Law_law_418 rfl ?_
  refine wf_iload dc_Law_law_419 rfl ?_
  refine wf_iconst 3 dc_Law_law_421 (by decide) ?_
  refine wf_iadd dc_Law_law_422 ?_
  refine wf_iaload (y := wl_AS) dc_Law_law_423 rfl (by assumption) (by assumption) ?_
  refine wf_aload_n dc_Law_law_424 rfl ?_
  refine wf_isw (st := []) (As := [.ref (b + 0), .int (i sc (nI (6 * j) + 1).toNatClampNeg), .int (i sc (nI (6 * j) + 2).toNatClampNeg), .int (i sc (nI (6 * j) + 3).toNatClampNeg), .ref (b + 221)]) (M' := mt_Law_rule) (bk' := bk') (bn' := bn') dc_Law_law_425 wt_rule ml_Law_84 ws_rule (Nat.le_of_ble_eq_true rfl) hk hn hC (fun X nx t r i g h => by obtain ⟨k, q, -⟩ := hQ _ _ _ _ _ _ h; cases q) ?_
  intro v nx1 t1 r1 i1 g1 hq1
  obtain ⟨k, hv, hA, tS1, tO1, R, hM, hR⟩ := hQ _ _ _ _ _ _ hq1
  cases hv
  have tM := hA.1.1
  refine wf_istore dc_Law_law_428 (by decide) ?_
  refine wf_aload_n dc_Law_law_430 rfl ?_
  refine wf_aload_n dc_Law_law_431 rfl ?_
  refine wf_iload dc_Law_law_432 rfl ?_
  refine wf_iconst 1 dc_Law_law_434 (by decide) ?_
  refine wf_iadd dc_Law_law_435 ?_
  refine wf_iaload (y := wl_AS) dc_Law_law_436 rfl (by assumption) (by assumption) ?_
  refine wf_aload_n dc_Law_law_437 rfl ?_
  refine wf_iload dc_Law_law_438 rfl ?_
  refine wf_iconst 2 dc_Law_law_440 (by decide) ?_
  refine wf_iadd dc_Law_law_441 ?_
  refine wf_iaload (y := wl_AS) dc_Law_law_442 rfl (by assumption) (by assumption) ?_
  refine wf_aload_n dc_Law_law_443 rfl ?_
  refine wf_iload dc_Law_law_444 rfl ?_
  refine wf_iconst 3 dc_Law_law_446 (by decide) ?_
  refine wf_iadd dc_Law_law_447 ?_
  refine wf_iaload (y := wl_AS) dc_Law_law_448 rfl (by assumption) (by assumption) ?_
  refine wf_iv (st := []) (As := [.int (i1 sc (nI (6 * j) + 1).toNatClampNeg), .int (i1 sc (nI (6 * j) + 2).toNatClampNeg), .int (i1 sc (nI (6 * j) + 3).toNatClampNeg)]) (M' := mt_Mod_rule) (c := 8) (bk' := bk') (bn' := bn') dc_Law_law_449 tg_Mod_rule ml_Law_87 im_Mod_rule se_Mod_rule ⟨_, rfl, rfl⟩ tM (Nat.le_of_ble_eq_true rfl) (Nat.le_refl _) (Nat.le_refl _) hM (fun X nx t r i g h => by obtain ⟨z, q, -⟩ := h; cases q) ?_
  intro v2 nx2 t2 r2 i2 g2 hq2
  obtain ⟨z, hv2, rfl, rfl, rfl, rfl, hz⟩ := hq2
  cases hv2
  obtain ⟨z1, z2, z3⟩ := hR z i2 hz
  refine wf_istore dc_Law_law_452 (by decide) ?_
  refine wf_aload_n dc_Law_law_454 rfl ?_
  refine wf_iv0 (M' := mt_Mod_thrown) (c := 8) dc_Law_law_455 tg_Mod_thrown ml_Law_66 im_Mod_thrown se_Mod_thrown ⟨_, rfl, rfl⟩ (by assumption) (Nat.le_of_ble_eq_true rfl) (Nat.le_refl _) (Nat.le_refl _) (c_Mod_thrown hA) qI_nt (qI_go (fun x2 i2 hp => ?_))
  obtain ⟨rfl, hq⟩ := hp
  subst hq
  rw [z1]
  refine wf_iload dc_Law_law_458 rfl ?_
  refine wf_icmp_eq 465 dc_Law_law_460 (by decide) (fun hc => ?_) (fun hc => absurd rfl hc)
  refine wf_iload dc_Law_law_465 rfl ?_
  by_cases hk0 : k = 0
  · refine wf_if_ne 482 dc_Law_law_467 (by decide) (fun hc => absurd hk0 hc) (fun hc => ?_)
    refine wf_aload_n dc_Law_law_470 rfl ?_
    refine wf_iconst 0 dc_Law_law_471 (by decide) ?_
    refine wf_laload (y := 2) dc_Law_law_472 rfl (by assumption) (vp_in_nI (n := 0) (by omega) (by omega)) ?_
    refine wf_iload dc_Law_law_473 rfl ?_
    refine wf_i2l dc_Law_law_475 ?_
    refine wf_lcmp dc_Law_law_476 ?_
    rw [show g2 (b + 221) (Int32.toNatClampNeg 0) = z.toInt64 from z2 hk0, lc_eq]
    refine wf_if_eq 482 dc_Law_law_477 (by decide) (fun hc => ?_) (fun hc => absurd rfl hc)
    refine wf_goto 988 dc_Law_law_482 (by decide) ?_
    exact Wf.to (by exact ⟨rfl, rfl, rfl, rfl, rfl, trivial⟩) z3
  · refine wf_if_ne 482 dc_Law_law_467 (by decide) (fun hc => ?_) (fun hc => absurd hc hk0)
    refine wf_goto 988 dc_Law_law_482 (by decide) ?_
    exact Wf.to (by exact ⟨rfl, rfl, rfl, rfl, rfl, trivial⟩) z3
theorem s_action (tS : t sc = some (.inr (wl_AS, n))) (h1 : vp_in (nI (6 * j) + 1) n) (h2 : vp_in (nI (6 * j) + 2) n) (h3 : vp_in (nI (6 * j) + 3) n) (h4 : vp_in (nI (6 * j) + 4) n) (hk : bk' + 1 ≤ bk) (hn : bn' + 6 ≤ bn) (hC : Cw l E n0 mt_Law_action d 1 6 [.ref (b + 0), .int (i sc (nI (6 * j) + 1).toNatClampNeg), .int (i sc (nI (6 * j) + 2).toNatClampNeg), .int (i sc (nI (6 * j) + 3).toNatClampNeg), .int (i sc (nI (6 * j) + 4).toNatClampNeg), .ref (b + 221)] nx t r i g Q1)
    (hQ : ∀ o nx' t' r' i' g', Q1 o nx' t' r' i' g' → ∃ k : Int32, o = .inl (some (.int k)) ∧ mo_at t' r' (b + 193) ∧ t' sc = some (.inr (wl_AS, n)) ∧ t' (b + 221) = some (.inr (2, 1)) ∧ ∃ R : Int32 → Wi → Prop, Ct l E n0 mt_Mod_action d 0 0 [.ref (b + 193 + 0), .int (i' sc (nI (6 * j) + 1).toNatClampNeg), .int (i' sc (nI (6 * j) + 2).toNatClampNeg), .int (i' sc (nI (6 * j) + 3).toNatClampNeg), .int (i' sc (nI (6 * j) + 4).toNatClampNeg)] nx' t' r' i' g' (qI nx' t' r' g' R) ∧ ∀ z i'', R z i'' → i'' (b + 193 + 0) 0 = k ∧ (k = 0 → g' (b + 221) 0 = z.toInt64) ∧ Wf l E n0 mt_Law_law (d + 1) mc ms Q bk' bn' 988 [(0, .ref sc), (1, .ref (b + 0)), (2, .ref (b + 193 + 0)), (3, .ref (b + 221)), (4, .int (nI (6 * j)))] [] nx' t' r' i'' g') :
    Wf l E n0 mt_Law_law (d + 1) mc ms Q bk bn 485 [(0, .ref sc), (1, .ref (b + 0)), (2, .ref (b + 193 + 0)), (3, .ref (b + 221)), (4, .int (nI (6 * j)))] [] nx t r i g := by
  refine wf_aload_n dc_Law_law_485 rfl ?_
  refine wf_aload_n dc_Law_law_486 rfl ?_
  refine wf_iload dc_Law_law_487 rfl ?_
  refine wf_iconst 1 dc_Law_law_489 (by decide) ?_
  refine wf_iadd dc_Law_law_490 ?_
  refine wf_iaload (y := wl_AS) dc_Law_law_491 rfl (by assumption) (by assumption) ?_
  refine wf_aload_n dc_Law_law_492 rfl ?_
  refine wf_iload dc_Law_law_493 rfl ?_
  refine wf_iconst 2 dc_Law_law_495 (by decide) ?_
  refine wf_iadd dc_Law_law_496 ?_
  refine wf_iaload (y := wl_AS) dc_Law_law_497 rfl (by assumption) (by assumption) ?_
  refine wf_aload_n dc_Law_law_498 rfl ?_
  refine wf_iload dc_Law_law_499 rfl ?_
  refine wf_iconst 3 dc_Law_law_501 (by decide) ?_
  refine wf_iadd dc_Law_law_502 ?_
  refine wf_iaload (y := wl_AS) dc_Law_law_503 rfl (by assumption) (by assumption) ?_
  refine wf_aload_n dc_Law_law_504 rfl ?_
  refine wf_iload dc_Law_law_505 rfl ?_
  refine wf_iconst 4 dc_Law_law_507 (by decide) ?_
  refine wf_iadd dc_Law_law_508 ?_
  refine wf_iaload (y := wl_AS) dc_Law_law_509 rfl (by assumption) (by assumption) ?_
  refine wf_aload_n dc_Law_law_510 rfl ?_
  refine wf_isw (st := []) (As := [.ref (b + 0), .int (i sc (nI (6 * j) + 1).toNatClampNeg), .int (i sc (nI (6 * j) + 2).toNatClampNeg), .int (i sc (nI (6 * j) + 3).toNatClampNeg), .int (i sc (nI (6 * j) + 4).toNatClampNeg), .ref (b + 221)]) (M' := mt_Law_action) (bk' := bk') (bn' := bn') dc_Law_law_511 wt_action ml_Law_88 ws_action (Nat.le_of_ble_eq_true rfl) hk hn hC (fun X nx t r i g h => by obtain ⟨k, q, -⟩ := hQ _ _ _ _ _ _ h; cases q) ?_
  intro v nx1 t1 r1 i1 g1 hq1
  obtain ⟨k, hv, hA, tS1, tO1, R, hM, hR⟩ := hQ _ _ _ _ _ _ hq1
  cases hv
  have tM := hA.1.1
  refine wf_istore dc_Law_law_514 (by decide) ?_
  refine wf_aload_n dc_Law_law_516 rfl ?_
  refine wf_aload_n dc_Law_law_517 rfl ?_
  refine wf_iload dc_Law_law_518 rfl ?_
  refine wf_iconst 1 dc_Law_law_520 (by decide) ?_
  refine wf_iadd dc_Law_law_521 ?_
  refine wf_iaload (y := wl_AS) dc_Law_law_522 rfl (by assumption) (by assumption) ?_
  refine wf_aload_n dc_Law_law_523 rfl ?_
  refine wf_iload dc_Law_law_524 rfl ?_
  refine wf_iconst 2 dc_Law_law_526 (by decide) ?_
  refine wf_iadd dc_Law_law_527 ?_
  refine wf_iaload (y := wl_AS) dc_Law_law_528 rfl (by assumption) (by assumption) ?_
  refine wf_aload_n dc_Law_law_529 rfl ?_
  refine wf_iload dc_Law_law_530 rfl ?_
  refine wf_iconst 3 dc_Law_law_532 (by decide) ?_
  refine wf_iadd dc_Law_law_533 ?_
  refine wf_iaload (y := wl_AS) dc_Law_law_534 rfl (by assumption) (by assumption) ?_
  refine wf_aload_n dc_Law_law_535 rfl ?_
  refine wf_iload dc_Law_law_536 rfl ?_
  refine wf_iconst 4 dc_Law_law_538 (by decide) ?_
  refine wf_iadd dc_Law_law_539 ?_
  refine wf_iaload (y := wl_AS) dc_Law_law_540 rfl (by assumption) (by assumption) ?_
  refine wf_iv (st := []) (As := [.int (i1 sc (nI (6 * j) + 1).toNatClampNeg), .int (i1 sc (nI (6 * j) + 2).toNatClampNeg), .int (i1 sc (nI (6 * j) + 3).toNatClampNeg), .int (i1 sc (nI (6 * j) + 4).toNatClampNeg)]) (M' := mt_Mod_action) (c := 8) (bk' := bk') (bn' := bn') dc_Law_law_541 tg_Mod_action ml_Law_91 im_Mod_action se_Mod_action ⟨_, rfl, rfl⟩ tM (Nat.le_of_ble_eq_true rfl) (Nat.le_refl _) (Nat.le_refl _) hM (fun X nx t r i g h => by obtain ⟨z, q, -⟩ := h; cases q) ?_
  intro v2 nx2 t2 r2 i2 g2 hq2
  obtain ⟨z, hv2, rfl, rfl, rfl, rfl, hz⟩ := hq2
  cases hv2
  obtain ⟨z1, z2, z3⟩ := hR z i2 hz
  refine wf_istore dc_Law_law_544 (by decide) ?_
  refine wf_aload_n dc_Law_law_546 rfl ?_
  refine wf_iv0 (M' := mt_Mod_thrown) (c := 8) dc_Law_law_547 tg_Mod_thrown ml_Law_66 im_Mod_thrown se_Mod_thrown ⟨_, rfl, rfl⟩ (by assumption) (Nat.le_of_ble_eq_true rfl) (Nat.le_refl _) (Nat.le_refl _) (c_Mod_thrown hA) qI_nt (qI_go (fun x2 i2 hp => ?_))
  obtain ⟨rfl, hq⟩ := hp
  subst hq
  rw [z1]
  refine wf_iload dc_Law_law_550 rfl ?_
  refine wf_icmp_eq 557 dc_Law_law_552 (by decide) (fun hc => ?_) (fun hc => absurd rfl hc)
  refine wf_iload dc_Law_law_557 rfl ?_
  by_cases hk0 : k = 0
  · refine wf_if_ne 574 dc_Law_law_559 (by decide) (fun hc => absurd hk0 hc) (fun hc => ?_)
    refine wf_aload_n dc_Law_law_562 rfl ?_
    refine wf_iconst 0 dc_Law_law_563 (by decide) ?_
    refine wf_laload (y := 2) dc_Law_law_564 rfl (by assumption) (vp_in_nI (n := 0) (by omega) (by omega)) ?_
    refine wf_iload dc_Law_law_565 rfl ?_
    refine wf_i2l dc_Law_law_567 ?_
    refine wf_lcmp dc_Law_law_568 ?_
    rw [show g2 (b + 221) (Int32.toNatClampNeg 0) = z.toInt64 from z2 hk0, lc_eq]
    refine wf_if_eq 574 dc_Law_law_569 (by decide) (fun hc => ?_) (fun hc => absurd rfl hc)
    refine wf_goto 988 dc_Law_law_574 (by decide) ?_
    exact Wf.to (by exact ⟨rfl, rfl, rfl, rfl, rfl, trivial⟩) z3
  · refine wf_if_ne 574 dc_Law_law_559 (by decide) (fun hc => ?_) (fun hc => absurd hc hk0)
    refine wf_goto 988 dc_Law_law_574 (by decide) ?_
    exact Wf.to (by exact ⟨rfl, rfl, rfl, rfl, rfl, trivial⟩) z3
theorem s_find (tS : t sc = some (.inr (wl_AS, n))) (h1 : vp_in (nI (6 * j) + 1) n) (h2 : vp_in (nI (6 * j) + 2) n) (hk : bk' + 1 ≤ bk) (hn : bn' + 6 ≤ bn) (hC : Cw l E n0 mt_Law_find d 1 6 [.ref (b + 0), .int (i sc (nI (6 * j) + 1).toNatClampNeg), .int (i sc (nI (6 * j) + 2).toNatClampNeg), .ref (b + 221)] nx t r i g Q1)
    (hQ : ∀ o nx' t' r' i' g', Q1 o nx' t' r' i' g' → ∃ k : Int32, o = .inl (some (.int k)) ∧ mo_at t' r' (b + 193) ∧ t' sc = some (.inr (wl_AS, n)) ∧ t' (b + 221) = some (.inr (2, 1)) ∧ ∃ R : Int32 → Wi → Prop, Ct l E n0 mt_Mod_find d 0 0 [.ref (b + 193 + 0), .int (i' sc (nI (6 * j) + 1).toNatClampNeg), .int (i' sc (nI (6 * j) + 2).toNatClampNeg)] nx' t' r' i' g' (qI nx' t' r' g' R) ∧ ∀ z i'', R z i'' → i'' (b + 193 + 0) 0 = k ∧ (k = 0 → g' (b + 221) 0 = z.toInt64) ∧ Wf l E n0 mt_Law_law (d + 1) mc ms Q bk' bn' 988 [(0, .ref sc), (1, .ref (b + 0)), (2, .ref (b + 193 + 0)), (3, .ref (b + 221)), (4, .int (nI (6 * j)))] [] nx' t' r' i'' g') :
    Wf l E n0 mt_Law_law (d + 1) mc ms Q bk bn 603 [(0, .ref sc), (1, .ref (b + 0)), (2, .ref (b + 193 + 0)), (3, .ref (b + 221)), (4, .int (nI (6 * j)))] [] nx t r i g := by
  refine wf_aload_n dc_Law_law_603 rfl ?_
  refine wf_aload_n dc_Law_law_604 rfl ?_
  refine wf_iload dc_Law_law_605 rfl ?_
  refine wf_iconst 1 dc_Law_law_607 (by decide) ?_
  refine wf_iadd dc_Law_law_608 ?_
  refine wf_iaload (y := wl_AS) dc_Law_law_609 rfl (by assumption) (by assumption) ?_
  refine wf_aload_n dc_Law_law_610 rfl ?_
  refine wf_iload dc_Law_law_611 rfl ?_
  refine wf_iconst 2 dc_Law_law_613 (by decide) ?_
  refine wf_iadd dc_Law_law_614 ?_
  refine wf_iaload (y := wl_AS) dc_Law_law_615 rfl (by assumption) (by assumption) ?_
  refine wf_aload_n dc_Law_law_616 rfl ?_
  refine wf_isw (st := []) (As := [.ref (b + 0), .int (i sc (nI (6 * j) + 1).toNatClampNeg), .int (i sc (nI (6 * j) + 2).toNatClampNeg), .ref (b + 221)]) (M' := mt_Law_find) (bk' := bk') (bn' := bn') dc_Law_law_617 wt_find ml_Law_100 ws_find (Nat.le_of_ble_eq_true rfl) hk hn hC (fun X nx t r i g h => by obtain ⟨k, q, -⟩ := hQ _ _ _ _ _ _ h; cases q) ?_
  intro v nx1 t1 r1 i1 g1 hq1
  obtain ⟨k, hv, hA, tS1, tO1, R, hM, hR⟩ := hQ _ _ _ _ _ _ hq1
  cases hv
  have tM := hA.1.1
  refine wf_istore dc_Law_law_620 (by decide) ?_
  refine wf_aload_n dc_Law_law_622 rfl ?_
  refine wf_aload_n dc_Law_law_623 rfl ?_
  refine wf_iload dc_Law_law_624 rfl ?_
  refine wf_iconst 1 dc_Law_law_626 (by decide) ?_
  refine wf_iadd dc_Law_law_627 ?_
  refine wf_iaload (y := wl_AS) dc_Law_law_628 rfl (by assumption) (by assumption) ?_
  refine wf_aload_n dc_Law_law_629 rfl ?_
  refine wf_iload dc_Law_law_630 rfl ?_
  refine wf_iconst 2 dc_Law_law_632 (by decide) ?_
  refine wf_iadd dc_Law_law_633 ?_
  refine wf_iaload (y := wl_AS) dc_Law_law_634 rfl (by assumption) (by assumption) ?_
  refine wf_iv (st := []) (As := [.int (i1 sc (nI (6 * j) + 1).toNatClampNeg), .int (i1 sc (nI (6 * j) + 2).toNatClampNeg)]) (M' := mt_Mod_find) (c := 8) (bk' := bk') (bn' := bn') dc_Law_law_635 tg_Mod_find ml_Law_103 im_Mod_find se_Mod_find ⟨_, rfl, rfl⟩ tM (Nat.le_of_ble_eq_true rfl) (Nat.le_refl _) (Nat.le_refl _) hM (fun X nx t r i g h => by obtain ⟨z, q, -⟩ := h; cases q) ?_
  intro v2 nx2 t2 r2 i2 g2 hq2
  obtain ⟨z, hv2, rfl, rfl, rfl, rfl, hz⟩ := hq2
  cases hv2
  obtain ⟨z1, z2, z3⟩ := hR z i2 hz
  refine wf_istore dc_Law_law_638 (by decide) ?_
  refine wf_aload_n dc_Law_law_640 rfl ?_
  refine wf_iv0 (M' := mt_Mod_thrown) (c := 8) dc_Law_law_641 tg_Mod_thrown ml_Law_66 im_Mod_thrown se_Mod_thrown ⟨_, rfl, rfl⟩ (by assumption) (Nat.le_of_ble_eq_true rfl) (Nat.le_refl _) (Nat.le_refl _) (c_Mod_thrown hA) qI_nt (qI_go (fun x2 i2 hp => ?_))
  obtain ⟨rfl, hq⟩ := hp
  subst hq
  rw [z1]
  refine wf_iload dc_Law_law_644 rfl ?_
  refine wf_icmp_eq 651 dc_Law_law_646 (by decide) (fun hc => ?_) (fun hc => absurd rfl hc)
  refine wf_iload dc_Law_law_651 rfl ?_
  by_cases hk0 : k = 0
  · refine wf_if_ne 668 dc_Law_law_653 (by decide) (fun hc => absurd hk0 hc) (fun hc => ?_)
    refine wf_aload_n dc_Law_law_656 rfl ?_
    refine wf_iconst 0 dc_Law_law_657 (by decide) ?_
    refine wf_laload (y := 2) dc_Law_law_658 rfl (by assumption) (vp_in_nI (n := 0) (by omega) (by omega)) ?_
    refine wf_iload dc_Law_law_659 rfl ?_
    refine wf_i2l dc_Law_law_661 ?_
    refine wf_lcmp dc_Law_law_662 ?_
    rw [show g2 (b + 221) (Int32.toNatClampNeg 0) = z.toInt64 from z2 hk0, lc_eq]
    refine wf_if_eq 668 dc_Law_law_663 (by decide) (fun hc => ?_) (fun hc => absurd rfl hc)
    refine wf_goto 988 dc_Law_law_668 (by decide) ?_
    exact Wf.to (by exact ⟨rfl, rfl, rfl, rfl, rfl, trivial⟩) z3
  · refine wf_if_ne 668 dc_Law_law_653 (by decide) (fun hc => ?_) (fun hc => absurd hc hk0)
    refine wf_goto 988 dc_Law_law_668 (by decide) ?_
    exact Wf.to (by exact ⟨rfl, rfl, rfl, rfl, rfl, trivial⟩) z3
theorem s_sign (tS : t sc = some (.inr (wl_AS, n))) (h1 : vp_in (nI (6 * j) + 1) n) (h2 : vp_in (nI (6 * j) + 2) n) (hk : bk' + 1 ≤ bk) (hn : bn' + 6 ≤ bn) (hC : Cw l E n0 mt_Law_sign d 1 6 [.ref (b + 0), .int (i sc (nI (6 * j) + 1).toNatClampNeg), .int (i sc (nI (6 * j) + 2).toNatClampNeg), .ref (b + 221)] nx t r i g Q1)
    (hQ : ∀ o nx' t' r' i' g', Q1 o nx' t' r' i' g' → ∃ k : Int32, o = .inl (some (.int k)) ∧ mo_at t' r' (b + 193) ∧ t' sc = some (.inr (wl_AS, n)) ∧ t' (b + 221) = some (.inr (2, 1)) ∧ ∃ R : Int32 → Wi → Prop, Ct l E n0 mt_Mod_sign d 0 0 [.ref (b + 193 + 0), .int (i' sc (nI (6 * j) + 1).toNatClampNeg), .int (i' sc (nI (6 * j) + 2).toNatClampNeg)] nx' t' r' i' g' (qI nx' t' r' g' R) ∧ ∀ z i'', R z i'' → i'' (b + 193 + 0) 0 = k ∧ (k = 0 → g' (b + 221) 0 = z.toInt64) ∧ Wf l E n0 mt_Law_law (d + 1) mc ms Q bk' bn' 988 [(0, .ref sc), (1, .ref (b + 0)), (2, .ref (b + 193 + 0)), (3, .ref (b + 221)), (4, .int (nI (6 * j)))] [] nx' t' r' i'' g') :
    Wf l E n0 mt_Law_law (d + 1) mc ms Q bk bn 684 [(0, .ref sc), (1, .ref (b + 0)), (2, .ref (b + 193 + 0)), (3, .ref (b + 221)), (4, .int (nI (6 * j)))] [] nx t r i g := by
  refine wf_aload_n dc_Law_law_684 rfl ?_
  refine wf_aload_n dc_Law_law_685 rfl ?_
  refine wf_iload dc_Law_law_686 rfl ?_
  refine wf_iconst 1 dc_Law_law_688 (by decide) ?_
  refine wf_iadd dc_Law_law_689 ?_
  refine wf_iaload (y := wl_AS) dc_Law_law_690 rfl (by assumption) (by assumption) ?_
  refine wf_aload_n dc_Law_law_691 rfl ?_
  refine wf_iload dc_Law_law_692 rfl ?_
  refine wf_iconst 2 dc_Law_law_694 (by decide) ?_
  refine wf_iadd dc_Law_law_695 ?_
  refine wf_iaload (y := wl_AS) dc_Law_law_696 rfl (by assumption) (by assumption) ?_
  refine wf_aload_n dc_Law_law_697 rfl ?_
  refine wf_isw (st := []) (As := [.ref (b + 0), .int (i sc (nI (6 * j) + 1).toNatClampNeg), .int (i sc (nI (6 * j) + 2).toNatClampNeg), .ref (b + 221)]) (M' := mt_Law_sign) (bk' := bk') (bn' := bn') dc_Law_law_698 wt_sign ml_Law_108 ws_sign (Nat.le_of_ble_eq_true rfl) hk hn hC (fun X nx t r i g h => by obtain ⟨k, q, -⟩ := hQ _ _ _ _ _ _ h; cases q) ?_
  intro v nx1 t1 r1 i1 g1 hq1
  obtain ⟨k, hv, hA, tS1, tO1, R, hM, hR⟩ := hQ _ _ _ _ _ _ hq1
  cases hv
  have tM := hA.1.1
  refine wf_istore dc_Law_law_701 (by decide) ?_
  refine wf_aload_n dc_Law_law_703 rfl ?_
  refine wf_aload_n dc_Law_law_704 rfl ?_
  refine wf_iload dc_Law_law_705 rfl ?_
  refine wf_iconst 1 dc_Law_law_707 (by decide) ?_
  refine wf_iadd dc_Law_law_708 ?_
  refine wf_iaload (y := wl_AS) dc_Law_law_709 rfl (by assumption) (by assumption) ?_
  refine wf_aload_n dc_Law_law_710 rfl ?_
  refine wf_iload dc_Law_law_711 rfl ?_
  refine wf_iconst 2 dc_Law_law_713 (by decide) ?_
  refine wf_iadd dc_Law_law_714 ?_
  refine wf_iaload (y := wl_AS) dc_Law_law_715 rfl (by assumption) (by assumption) ?_
  refine wf_iv (st := []) (As := [.int (i1 sc (nI (6 * j) + 1).toNatClampNeg), .int (i1 sc (nI (6 * j) + 2).toNatClampNeg)]) (M' := mt_Mod_sign) (c := 8) (bk' := bk') (bn' := bn') dc_Law_law_716 tg_Mod_sign ml_Law_110 im_Mod_sign se_Mod_sign ⟨_, rfl, rfl⟩ tM (Nat.le_of_ble_eq_true rfl) (Nat.le_refl _) (Nat.le_refl _) hM (fun X nx t r i g h => by obtain ⟨z, q, -⟩ := h; cases q) ?_
  intro v2 nx2 t2 r2 i2 g2 hq2
  obtain ⟨z, hv2, rfl, rfl, rfl, rfl, hz⟩ := hq2
  cases hv2
  obtain ⟨z1, z2, z3⟩ := hR z i2 hz
  refine wf_istore dc_Law_law_719 (by decide) ?_
  refine wf_aload_n dc_Law_law_721 rfl ?_
  refine wf_iv0 (M' := mt_Mod_thrown) (c := 8) dc_Law_law_722 tg_Mod_thrown ml_Law_66 im_Mod_thrown se_Mod_thrown ⟨_, rfl, rfl⟩ (by assumption) (Nat.le_of_ble_eq_true rfl) (Nat.le_refl _) (Nat.le_refl _) (c_Mod_thrown hA) qI_nt (qI_go (fun x2 i2 hp => ?_))
  obtain ⟨rfl, hq⟩ := hp
  subst hq
  rw [z1]
  refine wf_iload dc_Law_law_725 rfl ?_
  refine wf_icmp_eq 732 dc_Law_law_727 (by decide) (fun hc => ?_) (fun hc => absurd rfl hc)
  refine wf_iload dc_Law_law_732 rfl ?_
  by_cases hk0 : k = 0
  · refine wf_if_ne 749 dc_Law_law_734 (by decide) (fun hc => absurd hk0 hc) (fun hc => ?_)
    refine wf_aload_n dc_Law_law_737 rfl ?_
    refine wf_iconst 0 dc_Law_law_738 (by decide) ?_
    refine wf_laload (y := 2) dc_Law_law_739 rfl (by assumption) (vp_in_nI (n := 0) (by omega) (by omega)) ?_
    refine wf_iload dc_Law_law_740 rfl ?_
    refine wf_i2l dc_Law_law_742 ?_
    refine wf_lcmp dc_Law_law_743 ?_
    rw [show g2 (b + 221) (Int32.toNatClampNeg 0) = z.toInt64 from z2 hk0, lc_eq]
    refine wf_if_eq 749 dc_Law_law_744 (by decide) (fun hc => ?_) (fun hc => absurd rfl hc)
    refine wf_goto 988 dc_Law_law_749 (by decide) ?_
    exact Wf.to (by exact ⟨rfl, rfl, rfl, rfl, rfl, trivial⟩) z3
  · refine wf_if_ne 749 dc_Law_law_734 (by decide) (fun hc => ?_) (fun hc => absurd hc hk0)
    refine wf_goto 988 dc_Law_law_749 (by decide) ?_
    exact Wf.to (by exact ⟨rfl, rfl, rfl, rfl, rfl, trivial⟩) z3
theorem s_printed (tS : t sc = some (.inr (wl_AS, n))) (h1 : vp_in (nI (6 * j) + 1) n) (hk : bk' + 1 ≤ bk) (hn : bn' + 6 ≤ bn) (hC : Cw l E n0 mt_Law_printed d 1 6 [.ref (b + 0), .int (i sc (nI (6 * j) + 1).toNatClampNeg), .ref (b + 221)] nx t r i g Q1)
    (hQ : ∀ o nx' t' r' i' g', Q1 o nx' t' r' i' g' → ∃ k : Int32, o = .inl (some (.int k)) ∧ mo_at t' r' (b + 193) ∧ t' sc = some (.inr (wl_AS, n)) ∧ t' (b + 221) = some (.inr (2, 1)) ∧ ∃ R : Int32 → Wi → Prop, Ct l E n0 mt_Mod_printed d 0 0 [.ref (b + 193 + 0), .int (i' sc (nI (6 * j) + 1).toNatClampNeg)] nx' t' r' i' g' (qI nx' t' r' g' R) ∧ ∀ z i'', R z i'' → i'' (b + 193 + 0) 0 = k ∧ (k = 0 → g' (b + 221) 0 = z.toInt64) ∧ Wf l E n0 mt_Law_law (d + 1) mc ms Q bk' bn' 988 [(0, .ref sc), (1, .ref (b + 0)), (2, .ref (b + 193 + 0)), (3, .ref (b + 221)), (4, .int (nI (6 * j)))] [] nx' t' r' i'' g') :
    Wf l E n0 mt_Law_law (d + 1) mc ms Q bk bn 752 [(0, .ref sc), (1, .ref (b + 0)), (2, .ref (b + 193 + 0)), (3, .ref (b + 221)), (4, .int (nI (6 * j)))] [] nx t r i g := by
  refine wf_aload_n dc_Law_law_752 rfl ?_
  refine wf_aload_n dc_Law_law_753 rfl ?_
  refine wf_iload dc_Law_law_754 rfl ?_
  refine wf_iconst 1 dc_Law_law_756 (by decide) ?_
  refine wf_iadd dc_Law_law_757 ?_
  refine wf_iaload (y := wl_AS) dc_Law_law_758 rfl (by assumption) (by assumption) ?_
  refine wf_aload_n dc_Law_law_759 rfl ?_
  refine wf_isw (st := []) (As := [.ref (b + 0), .int (i sc (nI (6 * j) + 1).toNatClampNeg), .ref (b + 221)]) (M' := mt_Law_printed) (bk' := bk') (bn' := bn') dc_Law_law_760 wt_printed ml_Law_111 ws_printed (Nat.le_of_ble_eq_true rfl) hk hn hC (fun X nx t r i g h => by obtain ⟨k, q, -⟩ := hQ _ _ _ _ _ _ h; cases q) ?_
  intro v nx1 t1 r1 i1 g1 hq1
  obtain ⟨k, hv, hA, tS1, tO1, R, hM, hR⟩ := hQ _ _ _ _ _ _ hq1
  cases hv
  have tM := hA.1.1
  refine wf_istore dc_Law_law_763 (by decide) ?_
  refine wf_aload_n dc_Law_law_765 rfl ?_
  refine wf_aload_n dc_Law_law_766 rfl ?_
  refine wf_iload dc_Law_law_767 rfl ?_
  refine wf_iconst 1 dc_Law_law_769 (by decide) ?_
  refine wf_iadd dc_Law_law_770 ?_
  refine wf_iaload (y := wl_AS) dc_Law_law_771 rfl (by assumption) (by assumption) ?_
  refine wf_iv (st := []) (As := [.int (i1 sc (nI (6 * j) + 1).toNatClampNeg)]) (M' := mt_Mod_printed) (c := 8) (bk' := bk') (bn' := bn') dc_Law_law_772 tg_Mod_printed ml_Law_113 im_Mod_printed se_Mod_printed ⟨_, rfl, rfl⟩ tM (Nat.le_of_ble_eq_true rfl) (Nat.le_refl _) (Nat.le_refl _) hM (fun X nx t r i g h => by obtain ⟨z, q, -⟩ := h; cases q) ?_
  intro v2 nx2 t2 r2 i2 g2 hq2
  obtain ⟨z, hv2, rfl, rfl, rfl, rfl, hz⟩ := hq2
  cases hv2
  obtain ⟨z1, z2, z3⟩ := hR z i2 hz
  refine wf_istore dc_Law_law_775 (by decide) ?_
  refine wf_aload_n dc_Law_law_777 rfl ?_
  refine wf_iv0 (M' := mt_Mod_thrown) (c := 8) dc_Law_law_778 tg_Mod_thrown ml_Law_66 im_Mod_thrown se_Mod_thrown ⟨_, rfl, rfl⟩ (by assumption) (Nat.le_of_ble_eq_true rfl) (Nat.le_refl _) (Nat.le_refl _) (c_Mod_thrown hA) qI_nt (qI_go (fun x2 i2 hp => ?_))
  obtain ⟨rfl, hq⟩ := hp
  subst hq
  rw [z1]
  refine wf_iload dc_Law_law_781 rfl ?_
  refine wf_icmp_eq 788 dc_Law_law_783 (by decide) (fun hc => ?_) (fun hc => absurd rfl hc)
  refine wf_iload dc_Law_law_788 rfl ?_
  by_cases hk0 : k = 0
  · refine wf_if_ne 805 dc_Law_law_790 (by decide) (fun hc => absurd hk0 hc) (fun hc => ?_)
    refine wf_aload_n dc_Law_law_793 rfl ?_
    refine wf_iconst 0 dc_Law_law_794 (by decide) ?_
    refine wf_laload (y := 2) dc_Law_law_795 rfl (by assumption) (vp_in_nI (n := 0) (by omega) (by omega)) ?_
    refine wf_iload dc_Law_law_796 rfl ?_
    refine wf_i2l dc_Law_law_798 ?_
    refine wf_lcmp dc_Law_law_799 ?_
    rw [show g2 (b + 221) (Int32.toNatClampNeg 0) = z.toInt64 from z2 hk0, lc_eq]
    refine wf_if_eq 805 dc_Law_law_800 (by decide) (fun hc => ?_) (fun hc => absurd rfl hc)
    refine wf_goto 988 dc_Law_law_805 (by decide) ?_
    exact Wf.to (by exact ⟨rfl, rfl, rfl, rfl, rfl, trivial⟩) z3
  · refine wf_if_ne 805 dc_Law_law_790 (by decide) (fun hc => ?_) (fun hc => absurd hc hk0)
    refine wf_goto 988 dc_Law_law_805 (by decide) ?_
    exact Wf.to (by exact ⟨rfl, rfl, rfl, rfl, rfl, trivial⟩) z3
theorem s_counter (tS : t sc = some (.inr (wl_AS, n))) (h1 : vp_in (nI (6 * j) + 1) n) (hk : bk' + 1 ≤ bk) (hn : bn' + 6 ≤ bn) (hC : Cw l E n0 mt_Law_counter d 1 6 [.ref (b + 0), .int (i sc (nI (6 * j) + 1).toNatClampNeg), .ref (b + 221)] nx t r i g Q1)
    (hQ : ∀ o nx' t' r' i' g', Q1 o nx' t' r' i' g' → ∃ k : Int32, o = .inl (some (.int k)) ∧ mo_at t' r' (b + 193) ∧ t' sc = some (.inr (wl_AS, n)) ∧ t' (b + 221) = some (.inr (2, 1)) ∧ ∃ R : Int32 → Wi → Prop, Ct l E n0 mt_Mod_counter d 0 0 [.ref (b + 193 + 0), .int (i' sc (nI (6 * j) + 1).toNatClampNeg)] nx' t' r' i' g' (qI nx' t' r' g' R) ∧ ∀ z i'', R z i'' → i'' (b + 193 + 0) 0 = k ∧ (k = 0 → g' (b + 221) 0 = z.toInt64) ∧ Wf l E n0 mt_Law_law (d + 1) mc ms Q bk' bn' 988 [(0, .ref sc), (1, .ref (b + 0)), (2, .ref (b + 193 + 0)), (3, .ref (b + 221)), (4, .int (nI (6 * j)))] [] nx' t' r' i'' g') :
    Wf l E n0 mt_Law_law (d + 1) mc ms Q bk bn 808 [(0, .ref sc), (1, .ref (b + 0)), (2, .ref (b + 193 + 0)), (3, .ref (b + 221)), (4, .int (nI (6 * j)))] [] nx t r i g := by
  refine wf_aload_n dc_Law_law_808 rfl ?_
  refine wf_aload_n dc_Law_law_809 rfl ?_
  refine wf_iload dc_Law_law_810 rfl ?_
  refine wf_iconst 1 dc_Law_law_812 (by decide) ?_
  refine wf_iadd dc_Law_law_813 ?_
  refine wf_iaload (y := wl_AS) dc_Law_law_814 rfl (by assumption) (by assumption) ?_
  refine wf_aload_n dc_Law_law_815 rfl ?_
  refine wf_isw (st := []) (As := [.ref (b + 0), .int (i sc (nI (6 * j) + 1).toNatClampNeg), .ref (b + 221)]) (M' := mt_Law_counter) (bk' := bk') (bn' := bn') dc_Law_law_816 wt_counter ml_Law_114 ws_counter (Nat.le_of_ble_eq_true rfl) hk hn hC (fun X nx t r i g h => by obtain ⟨k, q, -⟩ := hQ _ _ _ _ _ _ h; cases q) ?_
  intro v nx1 t1 r1 i1 g1 hq1
  obtain ⟨k, hv, hA, tS1, tO1, R, hM, hR⟩ := hQ _ _ _ _ _ _ hq1
  cases hv
  have tM := hA.1.1
  refine wf_istore dc_Law_law_819 (by decide) ?_
  refine wf_aload_n dc_Law_law_821 rfl ?_
  refine wf_aload_n dc_Law_law_822 rfl ?_
  refine wf_iload dc_Law_law_823 rfl ?_
  refine wf_iconst 1 dc_Law_law_825 (by decide) ?_
  refine wf_iadd dc_Law_law_826 ?_
  refine wf_iaload (y := wl_AS) dc_Law_law_827 rfl (by assumption) (by assumption) ?_
  refine wf_iv (st := []) (As := [.int (i1 sc (nI (6 * j) + 1).toNatClampNeg)]) (M' := mt_Mod_counter) (c := 8) (bk' := bk') (bn' := bn') dc_Law_law_828 tg_Mod_counter ml_Law_116 im_Mod_counter se_Mod_counter ⟨_, rfl, rfl⟩ tM (Nat.le_of_ble_eq_true rfl) (Nat.le_refl _) (Nat.le_refl _) hM (fun X nx t r i g h => by obtain ⟨z, q, -⟩ := h; cases q) ?_
  intro v2 nx2 t2 r2 i2 g2 hq2
  obtain ⟨z, hv2, rfl, rfl, rfl, rfl, hz⟩ := hq2
  cases hv2
  obtain ⟨z1, z2, z3⟩ := hR z i2 hz
  refine wf_istore dc_Law_law_831 (by decide) ?_
  refine wf_aload_n dc_Law_law_833 rfl ?_
  refine wf_iv0 (M' := mt_Mod_thrown) (c := 8) dc_Law_law_834 tg_Mod_thrown ml_Law_66 im_Mod_thrown se_Mod_thrown ⟨_, rfl, rfl⟩ (by assumption) (Nat.le_of_ble_eq_true rfl) (Nat.le_refl _) (Nat.le_refl _) (c_Mod_thrown hA) qI_nt (qI_go (fun x2 i2 hp => ?_))
  obtain ⟨rfl, hq⟩ := hp
  subst hq
  rw [z1]
  refine wf_iload dc_Law_law_837 rfl ?_
  refine wf_icmp_eq 844 dc_Law_law_839 (by decide) (fun hc => ?_) (fun hc => absurd rfl hc)
  refine wf_iload dc_Law_law_844 rfl ?_
  by_cases hk0 : k = 0
  · refine wf_if_ne 861 dc_Law_law_846 (by decide) (fun hc => absurd hk0 hc) (fun hc => ?_)
    refine wf_aload_n dc_Law_law_849 rfl ?_
    refine wf_iconst 0 dc_Law_law_850 (by decide) ?_
    refine wf_laload (y := 2) dc_Law_law_851 rfl (by assumption) (vp_in_nI (n := 0) (by omega) (by omega)) ?_
    refine wf_iload dc_Law_law_852 rfl ?_
    refine wf_i2l dc_Law_law_854 ?_
    refine wf_lcmp dc_Law_law_855 ?_
    rw [show g2 (b + 221) (Int32.toNatClampNeg 0) = z.toInt64 from z2 hk0, lc_eq]
    refine wf_if_eq 861 dc_Law_law_856 (by decide) (fun hc => ?_) (fun hc => absurd rfl hc)
    refine wf_goto 988 dc_Law_law_861 (by decide) ?_
    exact Wf.to (by exact ⟨rfl, rfl, rfl, rfl, rfl, trivial⟩) z3
  · refine wf_if_ne 861 dc_Law_law_846 (by decide) (fun hc => ?_) (fun hc => absurd hc hk0)
    refine wf_goto 988 dc_Law_law_861 (by decide) ?_
    exact Wf.to (by exact ⟨rfl, rfl, rfl, rfl, rfl, trivial⟩) z3
theorem s_key (tS : t sc = some (.inr (wl_AS, n))) (h1 : vp_in (nI (6 * j) + 1) n) (h2 : vp_in (nI (6 * j) + 2) n) (hk : bk' + 1 ≤ bk) (hn : bn' + 6 ≤ bn) (hC : Cw l E n0 mt_Law_key d 1 6 [.ref (b + 0), .int (i sc (nI (6 * j) + 1).toNatClampNeg), .int (i sc (nI (6 * j) + 2).toNatClampNeg), .ref (b + 221)] nx t r i g Q1)
    (hQ : ∀ o nx' t' r' i' g', Q1 o nx' t' r' i' g' → ∃ k : Int32, o = .inl (some (.int k)) ∧ mo_at t' r' (b + 193) ∧ t' sc = some (.inr (wl_AS, n)) ∧ t' (b + 221) = some (.inr (2, 1)) ∧ ∃ R : Int32 → Wi → Prop, Ct l E n0 mt_Mod_key d 0 0 [.ref (b + 193 + 0), .int (i' sc (nI (6 * j) + 1).toNatClampNeg), .int (i' sc (nI (6 * j) + 2).toNatClampNeg)] nx' t' r' i' g' (qI nx' t' r' g' R) ∧ ∀ z i'', R z i'' → i'' (b + 193 + 0) 0 = k ∧ (k = 0 → g' (b + 221) 0 = z.toInt64) ∧ Wf l E n0 mt_Law_law (d + 1) mc ms Q bk' bn' 988 [(0, .ref sc), (1, .ref (b + 0)), (2, .ref (b + 193 + 0)), (3, .ref (b + 221)), (4, .int (nI (6 * j)))] [] nx' t' r' i'' g') :
    Wf l E n0 mt_Law_law (d + 1) mc ms Q bk bn 864 [(0, .ref sc), (1, .ref (b + 0)), (2, .ref (b + 193 + 0)), (3, .ref (b + 221)), (4, .int (nI (6 * j)))] [] nx t r i g := by
  refine wf_aload_n dc_Law_law_864 rfl ?_
  refine wf_aload_n dc_Law_law_865 rfl ?_
  refine wf_iload dc_Law_law_866 rfl ?_
  refine wf_iconst 1 dc_Law_law_868 (by decide) ?_
  refine wf_iadd dc_Law_law_869 ?_
  refine wf_iaload (y := wl_AS) dc_Law_law_870 rfl (by assumption) (by assumption) ?_
  refine wf_aload_n dc_Law_law_871 rfl ?_
  refine wf_iload dc_Law_law_872 rfl ?_
  refine wf_iconst 2 dc_Law_law_874 (by decide) ?_
  refine wf_iadd dc_Law_law_875 ?_
  refine wf_iaload (y := wl_AS) dc_Law_law_876 rfl (by assumption) (by assumption) ?_
  refine wf_aload_n dc_Law_law_877 rfl ?_
  refine wf_isw (st := []) (As := [.ref (b + 0), .int (i sc (nI (6 * j) + 1).toNatClampNeg), .int (i sc (nI (6 * j) + 2).toNatClampNeg), .ref (b + 221)]) (M' := mt_Law_key) (bk' := bk') (bn' := bn') dc_Law_law_878 wt_key ml_Law_117 ws_key (Nat.le_of_ble_eq_true rfl) hk hn hC (fun X nx t r i g h => by obtain ⟨k, q, -⟩ := hQ _ _ _ _ _ _ h; cases q) ?_
  intro v nx1 t1 r1 i1 g1 hq1
  obtain ⟨k, hv, hA, tS1, tO1, R, hM, hR⟩ := hQ _ _ _ _ _ _ hq1
  cases hv
  have tM := hA.1.1
  refine wf_istore dc_Law_law_881 (by decide) ?_
  refine wf_aload_n dc_Law_law_883 rfl ?_
  refine wf_aload_n dc_Law_law_884 rfl ?_
  refine wf_iload dc_Law_law_885 rfl ?_
  refine wf_iconst 1 dc_Law_law_887 (by decide) ?_
  refine wf_iadd dc_Law_law_888 ?_
  refine wf_iaload (y := wl_AS) dc_Law_law_889 rfl (by assumption) (by assumption) ?_
  refine wf_aload_n dc_Law_law_890 rfl ?_
  refine wf_iload dc_Law_law_891 rfl ?_
  refine wf_iconst 2 dc_Law_law_893 (by decide) ?_
  refine wf_iadd dc_Law_law_894 ?_
  refine wf_iaload (y := wl_AS) dc_Law_law_895 rfl (by assumption) (by assumption) ?_
  refine wf_iv (st := []) (As := [.int (i1 sc (nI (6 * j) + 1).toNatClampNeg), .int (i1 sc (nI (6 * j) + 2).toNatClampNeg)]) (M' := mt_Mod_key) (c := 8) (bk' := bk') (bn' := bn') dc_Law_law_896 tg_Mod_key ml_Law_119 im_Mod_key se_Mod_key ⟨_, rfl, rfl⟩ tM (Nat.le_of_ble_eq_true rfl) (Nat.le_refl _) (Nat.le_refl _) hM (fun X nx t r i g h => by obtain ⟨z, q, -⟩ := h; cases q) ?_
  intro v2 nx2 t2 r2 i2 g2 hq2
  obtain ⟨z, hv2, rfl, rfl, rfl, rfl, hz⟩ := hq2
  cases hv2
  obtain ⟨z1, z2, z3⟩ := hR z i2 hz
  refine wf_istore dc_Law_law_899 (by decide) ?_
  refine wf_aload_n dc_Law_law_901 rfl ?_
  refine wf_iv0 (M' := mt_Mod_thrown) (c := 8) dc_Law_law_902 tg_Mod_thrown ml_Law_66 im_Mod_thrown se_Mod_thrown ⟨_, rfl, rfl⟩ (by assumption) (Nat.le_of_ble_eq_true rfl) (Nat.le_refl _) (Nat.le_refl _) (c_Mod_thrown hA) qI_nt (qI_go (fun x2 i2 hp => ?_))
  obtain ⟨rfl, hq⟩ := hp
  subst hq
  rw [z1]
  refine wf_iload dc_Law_law_905 rfl ?_
  refine wf_icmp_eq 912 dc_Law_law_907 (by decide) (fun hc => ?_) (fun hc => absurd rfl hc)
  refine wf_iload dc_Law_law_912 rfl ?_
  by_cases hk0 : k = 0
  · refine wf_if_ne 929 dc_Law_law_914 (by decide) (fun hc => absurd hk0 hc) (fun hc => ?_)
    refine wf_aload_n dc_Law_law_917 rfl ?_
    refine wf_iconst 0 dc_Law_law_918 (by decide) ?_
    refine wf_laload (y := 2) dc_Law_law_919 rfl (by assumption) (vp_in_nI (n := 0) (by omega) (by omega)) ?_
    refine wf_iload dc_Law_law_920 rfl ?_
    refine wf_i2l dc_Law_law_922 ?_
    refine wf_lcmp dc_Law_law_923 ?_
    rw [show g2 (b + 221) (Int32.toNatClampNeg 0) = z.toInt64 from z2 hk0, lc_eq]
    refine wf_if_eq 929 dc_Law_law_924 (by decide) (fun hc => ?_) (fun hc => absurd rfl hc)
    refine wf_goto 988 dc_Law_law_929 (by decide) ?_
    exact Wf.to (by exact ⟨rfl, rfl, rfl, rfl, rfl, trivial⟩) z3
  · refine wf_if_ne 929 dc_Law_law_914 (by decide) (fun hc => ?_) (fun hc => absurd hc hk0)
    refine wf_goto 988 dc_Law_law_929 (by decide) ?_
    exact Wf.to (by exact ⟨rfl, rfl, rfl, rfl, rfl, trivial⟩) z3
theorem s_count (tS : t sc = some (.inr (wl_AS, n))) (h1 : vp_in (nI (6 * j) + 1) n) (hk : bk' + 1 ≤ bk) (hn : bn' + 6 ≤ bn) (hC : Cw l E n0 mt_Law_count d 1 6 [.ref (b + 0), .int (i sc (nI (6 * j) + 1).toNatClampNeg), .ref (b + 221)] nx t r i g Q1)
    (hQ : ∀ o nx' t' r' i' g', Q1 o nx' t' r' i' g' → ∃ k : Int32, o = .inl (some (.int k)) ∧ mo_at t' r' (b + 193) ∧ t' sc = some (.inr (wl_AS, n)) ∧ t' (b + 221) = some (.inr (2, 1)) ∧ ∃ R : Int32 → Wi → Prop, Ct l E n0 mt_Mod_count d 0 0 [.ref (b + 193 + 0), .int (i' sc (nI (6 * j) + 1).toNatClampNeg)] nx' t' r' i' g' (qI nx' t' r' g' R) ∧ ∀ z i'', R z i'' → i'' (b + 193 + 0) 0 = k ∧ (k = 0 → g' (b + 221) 0 = z.toInt64) ∧ Wf l E n0 mt_Law_law (d + 1) mc ms Q bk' bn' 988 [(0, .ref sc), (1, .ref (b + 0)), (2, .ref (b + 193 + 0)), (3, .ref (b + 221)), (4, .int (nI (6 * j)))] [] nx' t' r' i'' g') :
    Wf l E n0 mt_Law_law (d + 1) mc ms Q bk bn 932 [(0, .ref sc), (1, .ref (b + 0)), (2, .ref (b + 193 + 0)), (3, .ref (b + 221)), (4, .int (nI (6 * j)))] [] nx t r i g := by
  refine wf_aload_n dc_Law_law_932 rfl ?_
  refine wf_aload_n dc_Law_law_933 rfl ?_
  refine wf_iload dc_Law_law_934 rfl ?_
  refine wf_iconst 1 dc_Law_law_936 (by decide) ?_
  refine wf_iadd dc_Law_law_937 ?_
  refine wf_iaload (y := wl_AS) dc_Law_law_938 rfl (by assumption) (by assumption) ?_
  refine wf_aload_n dc_Law_law_939 rfl ?_
  refine wf_isw (st := []) (As := [.ref (b + 0), .int (i sc (nI (6 * j) + 1).toNatClampNeg), .ref (b + 221)]) (M' := mt_Law_count) (bk' := bk') (bn' := bn') dc_Law_law_940 wt_count ml_Law_120 ws_count (Nat.le_of_ble_eq_true rfl) hk hn hC (fun X nx t r i g h => by obtain ⟨k, q, -⟩ := hQ _ _ _ _ _ _ h; cases q) ?_
  intro v nx1 t1 r1 i1 g1 hq1
  obtain ⟨k, hv, hA, tS1, tO1, R, hM, hR⟩ := hQ _ _ _ _ _ _ hq1
  cases hv
  have tM := hA.1.1
  refine wf_istore dc_Law_law_943 (by decide) ?_
  refine wf_aload_n dc_Law_law_945 rfl ?_
  refine wf_aload_n dc_Law_law_946 rfl ?_
  refine wf_iload dc_Law_law_947 rfl ?_
  refine wf_iconst 1 dc_Law_law_949 (by decide) ?_
  refine wf_iadd dc_Law_law_950 ?_
  refine wf_iaload (y := wl_AS) dc_Law_law_951 rfl (by assumption) (by assumption) ?_
  refine wf_iv (st := []) (As := [.int (i1 sc (nI (6 * j) + 1).toNatClampNeg)]) (M' := mt_Mod_count) (c := 8) (bk' := bk') (bn' := bn') dc_Law_law_952 tg_Mod_count ml_Law_122 im_Mod_count se_Mod_count ⟨_, rfl, rfl⟩ tM (Nat.le_of_ble_eq_true rfl) (Nat.le_refl _) (Nat.le_refl _) hM (fun X nx t r i g h => by obtain ⟨z, q, -⟩ := h; cases q) ?_
  intro v2 nx2 t2 r2 i2 g2 hq2
  obtain ⟨z, hv2, rfl, rfl, rfl, rfl, hz⟩ := hq2
  cases hv2
  obtain ⟨z1, z2, z3⟩ := hR z i2 hz
  refine wf_istore dc_Law_law_955 (by decide) ?_
  refine wf_aload_n dc_Law_law_957 rfl ?_
  refine wf_iv0 (M' := mt_Mod_thrown) (c := 8) dc_Law_law_958 tg_Mod_thrown ml_Law_66 im_Mod_thrown se_Mod_thrown ⟨_, rfl, rfl⟩ (by assumption) (Nat.le_of_ble_eq_true rfl) (Nat.le_refl _) (Nat.le_refl _) (c_Mod_thrown hA) qI_nt (qI_go (fun x2 i2 hp => ?_))
  obtain ⟨rfl, hq⟩ := hp
  subst hq
  rw [z1]
  refine wf_iload dc_Law_law_961 rfl ?_
  refine wf_icmp_eq 968 dc_Law_law_963 (by decide) (fun hc => ?_) (fun hc => absurd rfl hc)
  refine wf_iload dc_Law_law_968 rfl ?_
  by_cases hk0 : k = 0
  · refine wf_if_ne 985 dc_Law_law_970 (by decide) (fun hc => absurd hk0 hc) (fun hc => ?_)
    refine wf_aload_n dc_Law_law_973 rfl ?_
    refine wf_iconst 0 dc_Law_law_974 (by decide) ?_
    refine wf_laload (y := 2) dc_Law_law_975 rfl (by assumption) (vp_in_nI (n := 0) (by omega) (by omega)) ?_
    refine wf_iload dc_Law_law_976 rfl ?_
    refine wf_i2l dc_Law_law_978 ?_
    refine wf_lcmp dc_Law_law_979 ?_
    rw [show g2 (b + 221) (Int32.toNatClampNeg 0) = z.toInt64 from z2 hk0, lc_eq]
    refine wf_if_eq 985 dc_Law_law_980 (by decide) (fun hc => ?_) (fun hc => absurd rfl hc)
    refine wf_goto 988 dc_Law_law_985 (by decide) ?_
    exact Wf.to (by exact ⟨rfl, rfl, rfl, rfl, rfl, trivial⟩) z3
  · refine wf_if_ne 985 dc_Law_law_970 (by decide) (fun hc => ?_) (fun hc => absurd hc hk0)
    refine wf_goto 988 dc_Law_law_985 (by decide) ?_
    exact Wf.to (by exact ⟨rfl, rfl, rfl, rfl, rfl, trivial⟩) z3
end
