/-! the law: from its entry to its loop -/
theorem cb_mono : ∀ c j, cb c j ≤ cb (c + 1) j := by
  intro c
  induction c with
  | zero => intro j; exact Nat.zero_le _
  | succ c ih =>
    intro j
    have := ih (j + 1)
    rw [cb, cb]
    omega
theorem sb_mono : ∀ c j, sb c j ≤ sb (c + 1) j := by
  intro c
  induction c with
  | zero => intro j; exact Nat.zero_le _
  | succ c ih =>
    intro j
    have := ih (j + 1)
    rw [sb, sb]
    omega
theorem cb_le {c c' : Nat} (h : c ≤ c') : cb c 0 ≤ cb c' 0 := by
  induction h with
  | refl => exact Nat.le_refl _
  | step _ ih => exact Nat.le_trans ih (cb_mono _ _)
theorem sb_le {c c' : Nat} (h : c ≤ c') : sb c 0 ≤ sb c' 0 := by
  induction h with
  | refl => exact Nat.le_refl _
  | step _ ih => exact Nat.le_trans ih (sb_mono _ _)
theorem cb_512 : cb 512 0 ≤ 600802 := by decide +kernel
theorem sb_512 : sb 512 0 ≤ 7267116 := by decide +kernel
section
variable {l : Launch} {E : We} {n0 d nx : Nat} {t : Wt} {r : Wr} {i : Wi} {g : Wl} {b sc n : Nat} {Q : Wq}
theorem md_new {m : Nat} {T : Wt} (ha : T (m + 0) = some (.inl 8)) (hT : ∀ o q, mo_K.find? (fun q => q.1 == o) = some q → T (m + o) = some q.2) (hz : ∀ o k, i (m + o) k = 0) : md_I T (lg_r r m mo_W) (lg_i i m mo_I) m (fun _ => []) (fun _ => []) [] 32 [] ([], [], fun _ => 0, [], []) 0 none := by
  have w1 : ∀ q ∈ mo_W, mo_W.find? (fun p => p.1 == q.1 && p.2.1 == q.2.1) = some q := by decide +kernel
  have i0 : ∀ c k, c ≠ 0 → lg_i i m mo_I (m + c) k = 0 := fun c k hc => (lg_i_o (fun q hq z => by
    have : ∀ q ∈ mo_I, q.1 = 0 := by decide +kernel
    have := this q hq
    omega)).trans (hz c k)
  have i1 : ∀ k, k ≠ 25 → k ≠ 5 → lg_i i m mo_I (m + 0) k = 0 := fun k h1 h2 => (lg_i_o (fun q hq z => by
    simp only [mo_I, List.mem_cons, List.not_mem_nil, or_false] at hq
    rcases hq with rfl | rfl <;> simp only <;> omega)).trans (hz 0 k)
  have row : ∀ k, mr (lg_i i m mo_I) m k [] := fun k => ⟨i0 2 k (by omega), mz_nil⟩
  exact ⟨⟨⟨ha, hT⟩, fun q hq => lg_r_g (w1 q hq)⟩, row 0, fun k _ => ⟨row _, s1_nil⟩, fun k _ => ⟨⟨i0 4 k (by omega), mz_nil⟩, s1_nil, by simp, _, ps_read_nil⟩, ⟨i1 6 (by omega) (by omega), fun k hk => absurd hk (Nat.not_lt_zero _)⟩, ⟨row 1, ⟨i1 15 (by omega) (by omega), fun k hk => absurd hk (Nat.not_lt_zero _)⟩, fun k _ => i0 14 k (by omega), ⟨i1 19 (by omega) (by omega), fun k hk => absurd hk (Nat.not_lt_zero _)⟩, ⟨i1 23 (by omega) (by omega), fun k hk => absurd hk (Nat.not_lt_zero _)⟩⟩, lg_i_g (q := (0, 5, 32)) (by decide +kernel), i1 14 (by omega) (by omega), lg_i_g (q := (0, 25, -1)) (by decide +kernel)⟩
theorem law_all (hl : l.stackTraces = false) (hn : n ≤ 3072) (hQ : ∀ nx t r i g, Q (.inl (some (.int 1))) nx t r i g) (tS : t sc = some (.inr (wl_AS, n))) (hsc : sc < nx) : Wf l E n0 mt_Law_law (d + 50) 601024 7293034 Q 601024 7293034 0 [(0, .ref sc)] [] nx t r i g := by
  refine wf_fresh (fun fz => ?_)
  refine wf_new (bk' := 601023) (bn' := 7293020) dc_Law_law_0 nw_Law_8 (Nat.le_of_ble_eq_true rfl) (Nat.le_of_ble_eq_true rfl) (fun f1 f2 => ?_)
  refine wf_dup dc_Law_law_3 rfl ?_
  refine wf_ii (st := [.ref nx]) (As := []) (bk' := 600831) (bn' := 7283074) dc_Law_law_4 tg_LR_init ml_Law_56 im_LR_init rfl (Nat.le_of_ble_eq_true rfl) (by omega) (by omega) (c_LR_init (d := d + 46) (b := nx) wf_up1_s) (fun X nx t r i g h => by obtain ⟨q, -⟩ := h; cases q) ?_
  rintro v nx1 t1 r1 i1 g1 ⟨hv, rfl, rfl, rfl, rfl, rfl⟩
  cases hv
  refine wf_fresh (fun fz1 => ?_)
  refine wf_astore_n dc_Law_law_7 (by decide) ?_
  refine wf_new (bk' := 600830) (bn' := 7283034) dc_Law_law_8 nw_Law_57 (Nat.le_of_ble_eq_true rfl) (Nat.le_of_ble_eq_true rfl) (fun f1 f2 => ?_)
  refine wf_dup dc_Law_law_11 rfl ?_
  refine wf_ii (st := [.ref (nx + 193)]) (As := []) (bk' := 600803) (bn' := 7267117) dc_Law_law_12 tg_Mod_init ml_Law_59 im_Mod_init rfl (Nat.le_of_ble_eq_true rfl) (by omega) (by omega) (c_Mod_init (d := d + 48) (b := nx + 193) wf_up1_s) (fun X nx t r i g h => by obtain ⟨q, -⟩ := h; cases q) ?_
  rintro v nx2 t2 r2 i2 g2 ⟨hv, rfl, rfl, rfl, rfl, rfl⟩
  cases hv
  refine wf_astore_n dc_Law_law_15 (by decide) ?_
  refine wf_iconst 1 dc_Law_law_16 (by decide) ?_
  refine wf_newarr (y := 2) (N := 1) (bk' := 600802) (bn' := 7267116) dc_Law_law_17 rfl (by decide) ac_long (fun U h => h) rfl (by decide) (by decide) (by decide) (Nat.le_of_ble_eq_true rfl) (Nat.le_of_ble_eq_true rfl) (fun f1 f2 => ?_)
  refine wf_astore_n dc_Law_law_19 (by decide) ?_
  refine wf_iconst 0 dc_Law_law_20 (by decide) ?_
  refine wf_istore dc_Law_law_21 (by decide) ?_
  have hz : ∀ o k, i (nx + o) k = 0 := fun o k => ((fz (nx + o) (by omega)).2 k).2.1
  have hg : ∀ o k, g2 (nx + o) k = 0 := fun o k => ((fz (nx + o) (by omega)).2 k).2.2
  have hA2 : lr_at (lg_t (wf_up1 t nx (some (.inl 0))) nx lr_K) (lg_r r nx lr_W) nx (fun k => k) := lr_new wf_up1_s
  have hX2 : lp_exp (lg_t (wf_up1 t nx (some (.inl 0))) nx lr_K) (lg_r r nx lr_W) (lg_i i nx lr_I) g2 nx (fun k => k) (fun _ => []) := lr_new_exp wf_up1_s hz hg
  have hI1 : ∀ o k, 193 ≤ o → lg_i i nx lr_I (nx + o) k = 0 := fun o k ho => lr_i0 hz (fun q hq z => by
    have : ∀ q ∈ lr_I, q.1 < 193 := by decide +kernel
    have := this q hq
    omega)
  have tK : ∀ q ∈ mo_K, 1 ≤ q.1 ∧ q.1 < 28 := by decide +kernel
  have tW : ∀ q ∈ mo_W, q.1 = 0 := by decide +kernel
  have tsc : lg_t (wf_up1 t nx (some (.inl 0))) nx lr_K sc = some (.inr (wl_AS, n)) := (lg_t_o (fun q hq z => by omega)).trans ((wf_up1_n (by omega)).trans tS)
  generalize lg_t (wf_up1 t nx (some (.inl 0))) nx lr_K = T2 at hA2 hX2 tsc fz1 ⊢
  have xt : xt_ok [nx + 91] T2 (lg_r r nx lr_W) (wf_up1 (lg_t (wf_up1 T2 (nx + 193) (some (.inl 8))) (nx + 193) mo_K) (nx + 221) (some (.inr (2, 1)))) (lg_r (lg_r r nx lr_W) (nx + 193) mo_W) := by
    have lt : ∀ z y, T2 z = some y → z < nx + 193 := fun z y hy => Nat.not_le.mp fun hle => by
      rw [(fz1 z hle).1] at hy
      cases hy
    refine ⟨fun z y hy => ?_, fun z y hy _ k => ?_⟩
    · have := lt z y hy
      rw [wf_up1_n (by omega), lg_t_o (fun q hq z' => by have := tK q hq; omega), wf_up1_n (by omega)]
      exact hy
    · have := lt z y hy
      exact lg_r_o (fun q hq z' => by have := tW q hq; omega)
  have hcl : cl_I (wf_up1 (lg_t (wf_up1 T2 (nx + 193) (some (.inl 8))) (nx + 193) mo_K) (nx + 221) (some (.inr (2, 1)))) (lg_r (lg_r r nx lr_W) (nx + 193) mo_W) (lg_i i nx lr_I) g2 nx (fun k => k) (fun _ => []) (fun _ => []) [] 32 [] ([], [], fun _ => 0, [], []) 0 none := ⟨hA2.xt xt, lr_new_pad hz, lr_new_txt hz, hX2.dx (nx := nx + 222) hA2 xt dz_rf (Nat.le_refl _), lr_new_rul hz, ⟨lr_new_cut hz, lr_new_cnt hz, lr_new_tab hz, lr_new_out hz⟩, lr_new_sep, lr_new_lin hz, lr_new_end⟩
  have hfr : fr_is (mo_C nx) (lg_i i nx lr_I) (lg_i (lg_i i nx lr_I) (nx + 193) mo_I) := fun z hz' k => lg_i_o (fun q hq z' => by
    have h0 : ∀ q ∈ mo_I, q.1 = 0 := by decide +kernel
    have := h0 q hq
    exact absurd (List.mem_map.mpr ⟨0, List.mem_range.mpr (by omega), by omega⟩) hz')
  have hmd : md_I (wf_up1 (lg_t (wf_up1 T2 (nx + 193) (some (.inl 8))) (nx + 193) mo_K) (nx + 221) (some (.inr (2, 1)))) (lg_r (lg_r r nx lr_W) (nx + 193) mo_W) (lg_i (lg_i i nx lr_I) (nx + 193) mo_I) (nx + 193) (fun _ => []) (fun _ => []) [] 32 [] ([], [], fun _ => 0, [], []) 0 none := by
    refine md_new ?_ (fun o q hq => ?_) (fun o k => ?_)
    · rw [wf_up1_n (by omega), lg_t_n (fun q hq => by have := tK q hq; omega)]
      exact wf_up1_s
    · have hm : q ∈ mo_K := List.mem_of_find?_eq_some hq
      have ho : q.1 = o := by have := List.find?_some hq; simpa using this
      have := tK q hm
      rw [wf_up1_n (by omega)]
      exact lg_t_g hq
    · rw [Nat.add_assoc]
      exact hI1 (193 + o) k (by omega)
  refine Wf.to (L' := [(0, .ref sc), (1, .ref (nx + 0)), (2, .ref (nx + 193 + 0)), (3, .ref (nx + 221)), (4, .int (nI (6 * 0)))]) (by exact ⟨rfl, rfl, rfl, rfl, rfl, trivial⟩) (law_l hl hn hQ (n / 6) 0 _ _ _ _ _ _ _ (by omega) (by omega) (Nat.le_trans (cb_le (by omega)) cb_512) (Nat.le_trans (sb_le (by omega)) sb_512) ⟨_, _, _, _, _, _, _, _, _, hcl.mo hfr, hmd, xt.1 _ _ tsc, hsc, wf_up1_s, by omega, Nat.zero_le _, Nat.zero_le _, Nat.zero_le _⟩)
end
