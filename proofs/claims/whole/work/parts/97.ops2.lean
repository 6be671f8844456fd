/-! the law: separator, rule, action, find -/
theorem ra_app (A B : List RuS) : ra (A ++ B) = ra A + ra B := by
  induction A with
  | nil => simp [ra]
  | cons u A ih => rw [List.cons_append, ra, ra, ih]; omega
theorem ra_set {p x y : Int32} {A : List (Int32 × Int32 × Int32)} (R : List RuS) : ∀ k, k < R.length → ra (R.set k (p, x, y, A)) + (ru_d R k).2.2.2.length = ra R + A.length := by
  induction R with
  | nil => exact fun k hk => absurd hk (Nat.not_lt_zero _)
  | cons u R ih =>
    intro k hk
    cases k with
    | zero =>
      show A.length + ra R + u.2.2.2.length = u.2.2.2.length + ra R + A.length
      omega
    | succ k =>
      have := ih k (Nat.lt_of_succ_lt_succ hk)
      show u.2.2.2.length + ra (R.set k (p, x, y, A)) + (ru_d R k).2.2.2.length = u.2.2.2.length + ra R + A.length
      omega
section
variable {l : Launch} {E : We} {n0 d nx mc ms bk bn bk' bn' : Nat} {t t' : Wt} {r r' : Wr} {i i' : Wi} {g g' : Wl} {b sc n j m : Nat} {Q : Wq}

theorem o_separator (hl : l.stackTraces = false) (hj : j ≤ 512) (h1 : vp_in (nI (6 * j) + 1) n) (hk : bk' + 1 ≤ bk) (hn : bn' + 6 ≤ bn) (H : lw_st t r i g nx b sc n j) (kk : ∀ nx' t' r' i' g', lw_st t' r' i' g' nx' b sc n (j + 1) → Wf l E n0 mt_Law_law (d + 50) mc ms Q bk' bn' 988 [(0, .ref sc), (1, .ref (b + 0)), (2, .ref (b + 193 + 0)), (3, .ref (b + 221)), (4, .int (nI (6 * j)))] [] nx' t' r' i' g') : Wf l E n0 mt_Law_law (d + 50) mc ms Q bk bn 349 [(0, .ref sc), (1, .ref (b + 0)), (2, .ref (b + 193 + 0)), (3, .ref (b + 221)), (4, .int (nI (6 * j)))] [] nx t r i g := by
  obtain ⟨pm, sx, tx, w, sp, ru, v, lc, fe, hc, hm, tS, hsc, tO, hnx, b1, b2, b3⟩ := H
  have tb := hc.1.1.1
  have hl120 : v.1.length ≤ 120 := hc.2.2.2.2.2.1.1.2.1.1
  have hw1 := hc.2.1.2
  have hC := k_LR_separator (E := E) (n0 := n0) (d := d + 41) (nx := nx) (g := g) (x := (i sc (nI (6 * j) + 1).toNatClampNeg)) hl hc.1 hc.2.2.2.2.2.2.1
  have hMM := fun (i' : Wi) (g' : Wl) (nx : Nat) (h : md_I t r i' (b + 193) sx tx w sp ru v lc fe) => c_Mod_separator (l := l) (E := E) (n0 := n0) (d := d + 48) (nx := nx) (g := g') (x := (i sc (nI (6 * j) + 1).toNatClampNeg)) h.1 h.2.2.2.2.2.2.1
  cases hb : bw (i sc (nI (6 * j) + 1).toNatClampNeg) 1 255 with
  | true =>
    rw [if_pos hb] at hC
    refine s_separator (d := d + 49) tS h1 hk hn (u_separator (d := d + 48) tb hC (wv_I tO)) ?_
    rintro o nx' t' r' i' g' ⟨z, g0, rfl, ⟨x, hx, rfl, rfl, rfl, rfl, rfl, p1, p2⟩, rfl⟩
    cases hx
    have p3 : fr_is [b + 0] i i' := by rw [p1]; exact fr_up fr_rf (by simp)
    obtain ⟨e1, e2⟩ := fr_m (b := b) (sc := sc) p3 (by simp <;> omega)
    have hse := e2 hsc
    have hm' := hm.cl hm.1 e1
    have no : ∀ lo hi, 1 ≤ lo → cl_no b lo hi [b + 0] := fun lo hi h z hz => by simp only [List.mem_cons, List.not_mem_nil, or_false] at hz; omega
    have at0 : ∀ k, k ≠ 12 → i' (b + 0) k = i (b + 0) k := fun k hk => by rw [p1]; exact wf_up_k hk
    have hc' := hc.fr p3 (by simp <;> omega) (hc.2.1.fr p3 (no _ _ (by omega))) (hc.2.2.1.fr p3 (no _ _ (by omega))) (hc.2.2.2.2.1.fr p3 (at0 10 (by omega)) (no _ _ (by omega))) p2 ((at0 11 (by omega)).trans hc.2.2.2.2.2.2.2.1) ⟨(at0 13 (by omega)).trans hc.2.2.2.2.2.2.2.2.1, hc.2.2.2.2.2.2.2.2.2⟩
    rw [hse]
    refine ⟨0, rfl, hm.1, tS, tO, _, hMM i' _ nx' hm', ?_⟩
    intro z i'' hz
    rw [if_pos hb] at hz
    obtain ⟨rfl, z2⟩ := hz
    have z5 : mf (b + 193) [(0, 0, 1), (0, 5, 6)] i' i'' := by rw [z2]; exact mf_up (mf_up mf_rf ⟨(0, 0, 1), by simp, rfl, by decide, by decide⟩) ⟨(0, 5, 6), by simp, rfl, by decide, by decide⟩
    have z0 : i'' (b + 193 + 0) 0 = 0 := by rw [z2]; exact (wf_up_k (by omega)).trans wf_up_s
    have z6 : i'' (b + 193 + 0) 5 = (i sc (nI (6 * j) + 1).toNatClampNeg) := by rw [z2]; exact wf_up_s
    exact ⟨z0, fun _ => wf_up_s, kk _ _ _ _ _ ⟨pm, sx, tx, w, _, ru, v, lc, fe, (hc'.mo (mf_fr z5 (by simp))).lg g_oa, hm'.fr hl120 z5 (by simp) (hm'.2.1.fr z5 hw1.1 (by simp [ms_no]) (by simp [ms_no])) (hm'.2.2.1.fr z5 (by simp [ms_no]) (by simp [ms_no])) (hm'.2.2.2.1.fr z5 (by simp)) (hm'.2.2.2.2.1.fr z5 (by simp [ms_no]) (fun c c1 c2 q hq => by simp only [List.mem_cons, List.not_mem_nil, or_false] at hq; rcases hq with rfl | rfl <;> simp only <;> omega)) z6 ((z5.at (by simp [ms_no])).trans hm'.2.2.2.2.2.2.2.2), tS, hsc, tO, hnx, by omega, by omega, by omega⟩⟩
  | false =>
    rw [if_neg (by rw [hb]; decide)] at hC
    refine s_separator (d := d + 49) tS h1 hk hn (x_separator_1 (d := d + 48) tb hC) ?_
    rintro o nx' t' r' i' g' ⟨rfl, rfl, rfl, rfl, rfl, rfl⟩
    refine ⟨1, rfl, hm.1, tS, tO, _, hMM i' _ _ hm, ?_⟩
    intro z i'' hz
    rw [if_neg (by rw [hb]; decide)] at hz
    subst hz
    exact ⟨wf_up_s, fun z => absurd z (by decide), kk _ _ _ _ _ ⟨pm, sx, tx, w, sp, ru, v, lc, fe, hc.mo z_fr, hm.z hl120, tS, hsc, tO, by omega, by omega, by omega, by omega⟩⟩

theorem o_rule (hl : l.stackTraces = false) (hj : j ≤ 512) (h1 : vp_in (nI (6 * j) + 1) n) (h2 : vp_in (nI (6 * j) + 2) n) (h3 : vp_in (nI (6 * j) + 3) n) (hk : bk' + 1 ≤ bk) (hn : bn' + 6 ≤ bn) (H : lw_st t r i g nx b sc n j) (kk : ∀ nx' t' r' i' g', lw_st t' r' i' g' nx' b sc n (j + 1) → Wf l E n0 mt_Law_law (d + 50) mc ms Q bk' bn' 988 [(0, .ref sc), (1, .ref (b + 0)), (2, .ref (b + 193 + 0)), (3, .ref (b + 221)), (4, .int (nI (6 * j)))] [] nx' t' r' i' g') : Wf l E n0 mt_Law_law (d + 50) mc ms Q bk bn 405 [(0, .ref sc), (1, .ref (b + 0)), (2, .ref (b + 193 + 0)), (3, .ref (b + 221)), (4, .int (nI (6 * j)))] [] nx t r i g := by
  obtain ⟨pm, sx, tx, w, sp, ru, v, lc, fe, hc, hm, tS, hsc, tO, hnx, b1, b2, b3⟩ := H
  have tb := hc.1.1.1
  have hl120 : v.1.length ≤ 120 := hc.2.2.2.2.2.1.1.2.1.1
  have hw1 := hc.2.1.2
  have h12 := hc.2.2.2.2.1.2.1
  have hC := k_LR_rule (E := E) (n0 := n0) (d := d + 41) (nx := nx) (g := g) (p := (i sc (nI (6 * j) + 1).toNatClampNeg)) (x := (i sc (nI (6 * j) + 2).toNatClampNeg)) (y := (i sc (nI (6 * j) + 3).toNatClampNeg)) hl hc.1 hc.2.2.2.2.1
  have hMM := fun (i' : Wi) (g' : Wl) (nx : Nat) (h : md_I t r i' (b + 193) sx tx w sp ru v lc fe) => c_Mod_rule (l := l) (E := E) (n0 := n0) (d := d + 47) (nx := nx) (g := g') (p := (i sc (nI (6 * j) + 1).toNatClampNeg)) (x := (i sc (nI (6 * j) + 2).toNatClampNeg)) (y := (i sc (nI (6 * j) + 3).toNatClampNeg)) h.1 h.2.2.2.2.1 h12
  cases hb : pt_ok (i sc (nI (6 * j) + 1).toNatClampNeg) (i sc (nI (6 * j) + 2).toNatClampNeg) (i sc (nI (6 * j) + 3).toNatClampNeg) with
  | true =>
    rw [if_pos hb] at hC
    by_cases hf12 : ru.length = 12
    · rw [if_pos hf12] at hC
      refine s_rule (d := d + 49) tS h1 h2 h3 hk hn (x_rule_2 (d := d + 48) tb hC) ?_
      rintro o nx' t' r' i' g' ⟨rfl, rfl, rfl, rfl, rfl, rfl⟩
      refine ⟨2, rfl, hm.1, tS, tO, _, hMM i' _ _ hm, ?_⟩
      intro z i'' hz
      rw [if_pos hb, if_pos hf12] at hz
      subst hz
      exact ⟨wf_up_s, fun z => absurd z (by decide), kk _ _ _ _ _ ⟨pm, sx, tx, w, sp, ru, v, lc, fe, hc.mo z_fr, hm.z hl120, tS, hsc, tO, by omega, by omega, by omega, by omega⟩⟩
    · rw [if_neg hf12] at hC
      refine s_rule (d := d + 49) tS h1 h2 h3 hk hn (u_rule (d := d + 48) tb hC (wv_I tO)) ?_
      rintro o nx' t' r' i' g' ⟨z, g0, rfl, ⟨x, hx, rfl, rfl, rfl, rfl, rfl, p1, p3, p2⟩, rfl⟩
      cases hx
      obtain ⟨e1, e2⟩ := fr_m (b := b) (sc := sc) p3 (by simp <;> omega)
      have hse := e2 hsc
      have hm' := hm.cl hm.1 e1
      have no : ∀ lo hi, 1 ≤ lo → hi < 145 → cl_no b lo hi [b + 0, b + (145 + 4 * ru.length)] := fun lo hi h h' z hz => by simp only [List.mem_cons, List.not_mem_nil, or_false] at hz; omega
      have hc' := hc.fr p3 (by simp <;> omega) (hc.2.1.fr p3 (no _ _ (by omega) (by omega))) (hc.2.2.1.fr p3 (no _ _ (by omega) (by omega))) p1 ⟨(p2 12 (by omega)).trans hc.2.2.2.2.2.2.1.1, hc.2.2.2.2.2.2.1.2⟩ ((p2 11 (by omega)).trans hc.2.2.2.2.2.2.2.1) ⟨(p2 13 (by omega)).trans hc.2.2.2.2.2.2.2.2.1, hc.2.2.2.2.2.2.2.2.2⟩
      rw [hse]
      refine ⟨0, rfl, hm.1, tS, tO, _, hMM i' _ nx' hm', ?_⟩
      intro z i'' hz
      rw [if_pos hb, if_neg hf12] at hz
      obtain ⟨rfl, z0, z6, z5⟩ := hz
      exact ⟨z0, fun _ => wf_up_s, kk _ _ _ _ _ ⟨pm, sx, tx, w, sp, _, v, lc, fe, (hc'.mo (mf_fr z5 (by simp [ru_S]))).lg g_oa, hm'.fr hl120 z5 (by simp [ru_S]) (hm'.2.1.fr z5 hw1.1 (by simp [ms_no, ru_S]) (by simp [ms_no, ru_S])) (hm'.2.2.1.fr z5 (by simp [ms_no, ru_S]) (by simp [ms_no, ru_S])) (hm'.2.2.2.1.fr z5 (by simp [ru_S])) z6 ((z5.at (by simp [ms_no, ru_S])).trans hm'.2.2.2.2.2.2.1) ((z5.at (by simp [ms_no, ru_S])).trans hm'.2.2.2.2.2.2.2.2), tS, hsc, tO, hnx, by omega, by rw [ra_app]; show ra ru + (0 + 0) ≤ j + 1; omega, by omega⟩⟩
  | false =>
    rw [if_neg (by rw [hb]; decide)] at hC
    refine s_rule (d := d + 49) tS h1 h2 h3 hk hn (x_rule_1 (d := d + 48) tb hC) ?_
    rintro o nx' t' r' i' g' ⟨rfl, rfl, rfl, rfl, rfl, rfl⟩
    refine ⟨1, rfl, hm.1, tS, tO, _, hMM i' _ _ hm, ?_⟩
    intro z i'' hz
    rw [if_neg (by rw [hb]; decide)] at hz
    subst hz
    exact ⟨wf_up_s, fun z => absurd z (by decide), kk _ _ _ _ _ ⟨pm, sx, tx, w, sp, ru, v, lc, fe, hc.mo z_fr, hm.z hl120, tS, hsc, tO, by omega, by omega, by omega, by omega⟩⟩

theorem o_action (hl : l.stackTraces = false) (hj : j ≤ 512) (h1 : vp_in (nI (6 * j) + 1) n) (h2 : vp_in (nI (6 * j) + 2) n) (h3 : vp_in (nI (6 * j) + 3) n) (h4 : vp_in (nI (6 * j) + 4) n) (hk : bk' + 1 ≤ bk) (hn : bn' + 6 ≤ bn) (H : lw_st t r i g nx b sc n j) (kk : ∀ nx' t' r' i' g', lw_st t' r' i' g' nx' b sc n (j + 1) → Wf l E n0 mt_Law_law (d + 50) mc ms Q bk' bn' 988 [(0, .ref sc), (1, .ref (b + 0)), (2, .ref (b + 193 + 0)), (3, .ref (b + 221)), (4, .int (nI (6 * j)))] [] nx' t' r' i' g') : Wf l E n0 mt_Law_law (d + 50) mc ms Q bk bn 485 [(0, .ref sc), (1, .ref (b + 0)), (2, .ref (b + 193 + 0)), (3, .ref (b + 221)), (4, .int (nI (6 * j)))] [] nx t r i g := by
  obtain ⟨pm, sx, tx, w, sp, ru, v, lc, fe, hc, hm, tS, hsc, tO, hnx, b1, b2, b3⟩ := H
  have tb := hc.1.1.1
  have hl120 : v.1.length ≤ 120 := hc.2.2.2.2.2.1.1.2.1.1
  have hw1 := hc.2.1.2
  have h12 := hc.2.2.2.2.1.2.1
  have h10 : ∀ k, k < ru.length → (ru_d ru k).2.2.2.length ≤ 10 := fun k hk => (hc.2.2.2.2.1.2.2 k hk).2.1
  have hC := k_LR_action (E := E) (n0 := n0) (d := d + 41) (nx := nx) (g := g) (x := (i sc (nI (6 * j) + 1).toNatClampNeg)) (p := (i sc (nI (6 * j) + 2).toNatClampNeg)) (y := (i sc (nI (6 * j) + 3).toNatClampNeg)) (z := (i sc (nI (6 * j) + 4).toNatClampNeg)) hl hc.1 hc.2.2.2.2.1
  have hMM := fun (i' : Wi) (g' : Wl) (nx : Nat) (h : md_I t r i' (b + 193) sx tx w sp ru v lc fe) => c_Mod_action (l := l) (E := E) (n0 := n0) (d := d + 46) (nx := nx) (g := g') (x := (i sc (nI (6 * j) + 1).toNatClampNeg)) (p := (i sc (nI (6 * j) + 2).toNatClampNeg)) (y := (i sc (nI (6 * j) + 3).toNatClampNeg)) (z := (i sc (nI (6 * j) + 4).toNatClampNeg)) h.1 h.2.2.2.2.1 h12 h10
  by_cases hb : bw (i sc (nI (6 * j) + 1).toNatClampNeg) 0 ((ru.length : Int) - 1) = true ∧ ac_ok (i sc (nI (6 * j) + 2).toNatClampNeg) (i sc (nI (6 * j) + 3).toNatClampNeg) (i sc (nI (6 * j) + 4).toNatClampNeg) = true
  · rw [if_pos hb] at hC
    obtain ⟨k, hkl, hxk⟩ := bw_k (by omega) hb.1
    have hck : (i sc (nI (6 * j) + 1).toNatClampNeg).toNatClampNeg = k := by rw [hxk, nI_clamp (by omega)]
    rw [hck] at hC hMM
    by_cases hf10 : (ru_d ru k).2.2.2.length = 10
    · rw [if_pos hf10] at hC
      refine s_action (d := d + 49) tS h1 h2 h3 h4 hk hn (x_action_2 (d := d + 48) tb hC) ?_
      rintro o nx' t' r' i' g' ⟨rfl, rfl, rfl, rfl, rfl, rfl⟩
      refine ⟨2, rfl, hm.1, tS, tO, _, hMM i' _ _ hm, ?_⟩
      intro z i'' hz
      rw [if_pos hb, if_pos hf10] at hz
      subst hz
      exact ⟨wf_up_s, fun z => absurd z (by decide), kk _ _ _ _ _ ⟨pm, sx, tx, w, sp, ru, v, lc, fe, hc.mo z_fr, hm.z hl120, tS, hsc, tO, by omega, by omega, by omega, by omega⟩⟩
    · rw [if_neg hf10] at hC
      refine s_action (d := d + 49) tS h1 h2 h3 h4 hk hn (u_action (d := d + 48) tb hC (wv_I tO)) ?_
      rintro o nx' t' r' i' g' ⟨z, g0, rfl, ⟨x, hx, rfl, rfl, rfl, rfl, rfl, p1, p3⟩, rfl⟩
      cases hx
      obtain ⟨e1, e2⟩ := fr_m (b := b) (sc := sc) p3 (by simp <;> omega)
      have hse := e2 hsc
      have hm' := hm.cl hm.1 e1
      have no : ∀ lo hi, hi < 145 → cl_no b lo hi [b + (145 + 4 * k), b + (145 + 4 * k + 1), b + (145 + 4 * k + 2), b + (145 + 4 * k + 3)] := fun lo hi h' z hz => by simp only [List.mem_cons, List.not_mem_nil, or_false] at hz; omega
      have at0 : ∀ k, i' (b + 0) k = i (b + 0) k := fun k => p3 _ ((no 0 0 (by omega)).at (by omega) (by omega)) k
      have hc' := hc.fr p3 (by simp <;> omega) (hc.2.1.fr p3 (no _ _ (by omega))) (hc.2.2.1.fr p3 (no _ _ (by omega))) p1 ⟨(at0 12).trans hc.2.2.2.2.2.2.1.1, hc.2.2.2.2.2.2.1.2⟩ ((at0 11).trans hc.2.2.2.2.2.2.2.1) ⟨(at0 13).trans hc.2.2.2.2.2.2.2.2.1, hc.2.2.2.2.2.2.2.2.2⟩
      rw [hse]
      refine ⟨0, rfl, hm.1, tS, tO, _, hMM i' _ nx' hm', ?_⟩
      intro z i'' hz
      rw [if_pos hb, if_neg hf10] at hz
      obtain ⟨rfl, z0, z6, z5⟩ := hz
      have hra := ra_set (p := (ru_d ru k).1) (x := (ru_d ru k).2.1) (y := (ru_d ru k).2.2.1) (A := (ru_d ru k).2.2.2 ++ [((i sc (nI (6 * j) + 2).toNatClampNeg), (i sc (nI (6 * j) + 3).toNatClampNeg), (i sc (nI (6 * j) + 4).toNatClampNeg))]) ru k hkl
      rw [List.length_append, List.length_singleton] at hra
      exact ⟨z0, fun _ => wf_up_s, kk _ _ _ _ _ ⟨pm, sx, tx, w, sp, _, v, lc, fe, (hc'.mo (mf_fr z5 (by simp [at_S]))).lg g_oa, hm'.fr hl120 z5 (by simp [at_S]) (hm'.2.1.fr z5 hw1.1 (by simp [ms_no, at_S]) (by simp [ms_no, at_S])) (hm'.2.2.1.fr z5 (by simp [ms_no, at_S]) (by simp [ms_no, at_S])) (hm'.2.2.2.1.fr z5 (by simp [at_S])) z6 ((z5.at (by simp [ms_no, at_S])).trans hm'.2.2.2.2.2.2.1) ((z5.at (by simp [ms_no, at_S])).trans hm'.2.2.2.2.2.2.2.2), tS, hsc, tO, hnx, by omega, by omega, by omega⟩⟩
  · rw [if_neg hb] at hC
    refine s_action (d := d + 49) tS h1 h2 h3 h4 hk hn (x_action_1 (d := d + 48) tb hC) ?_
    rintro o nx' t' r' i' g' ⟨rfl, rfl, rfl, rfl, rfl, rfl⟩
    refine ⟨1, rfl, hm.1, tS, tO, _, hMM i' _ _ hm, ?_⟩
    intro z i'' hz
    rw [if_neg hb] at hz
    subst hz
    exact ⟨wf_up_s, fun z => absurd z (by decide), kk _ _ _ _ _ ⟨pm, sx, tx, w, sp, ru, v, lc, fe, hc.mo z_fr, hm.z hl120, tS, hsc, tO, by omega, by omega, by omega, by omega⟩⟩

theorem o_find (hl : l.stackTraces = false) (hj : j ≤ 512) (h1 : vp_in (nI (6 * j) + 1) n) (h2 : vp_in (nI (6 * j) + 2) n) (hk : bk' + 1 ≤ bk) (hn : bn' + 6 ≤ bn) (H : lw_st t r i g nx b sc n j) (kk : ∀ nx' t' r' i' g', lw_st t' r' i' g' nx' b sc n (j + 1) → Wf l E n0 mt_Law_law (d + 50) mc ms Q bk' bn' 988 [(0, .ref sc), (1, .ref (b + 0)), (2, .ref (b + 193 + 0)), (3, .ref (b + 221)), (4, .int (nI (6 * j)))] [] nx' t' r' i' g') : Wf l E n0 mt_Law_law (d + 50) mc ms Q bk bn 603 [(0, .ref sc), (1, .ref (b + 0)), (2, .ref (b + 193 + 0)), (3, .ref (b + 221)), (4, .int (nI (6 * j)))] [] nx t r i g := by
  obtain ⟨pm, sx, tx, w, sp, ru, v, lc, fe, hc, hm, tS, hsc, tO, hnx, b1, b2, b3⟩ := H
  have tb := hc.1.1.1
  have hl120 : v.1.length ≤ 120 := hc.2.2.2.2.2.1.1.2.1.1
  have hw1 := hc.2.1.2
  have hC := k_LR_find (E := E) (n0 := n0) (d := d + 41) (nx := nx) (g := g) (x := (i sc (nI (6 * j) + 1).toNatClampNeg)) (q := (i sc (nI (6 * j) + 2).toNatClampNeg)) hl hc.1 hc.2.1 hc.2.2.2.1
  have hMM := fun (i' : Wi) (g' : Wl) (nx : Nat) (h : md_I t r i' (b + 193) sx tx w sp ru v lc fe) => c_Mod_find (l := l) (E := E) (n0 := n0) (d := d + 45) (nx := nx) (g := g') (x := (i sc (nI (6 * j) + 1).toNatClampNeg)) (q := (i sc (nI (6 * j) + 2).toNatClampNeg)) h.1 h.2.1 hw1 h.2.2.2.1
  by_cases hb : bw (i sc (nI (6 * j) + 1).toNatClampNeg) 0 5 = true ∧ bw (i sc (nI (6 * j) + 2).toNatClampNeg) 0 w.length = true
  · rw [if_pos hb] at hC
    refine s_find (d := d + 49) tS h1 h2 hk hn (u_find (d := d + 48) tb hC (wv_I tO)) ?_
    rintro o nx' t' r' i' g' ⟨z, g0, rfl, ⟨x, hx, rfl, rfl, rfl, rfl, rfl, p1, p2⟩, rfl⟩
    cases hx
    have p3 : fr_is [b + 0] i i' := by rw [p1]; exact fr_up fr_rf (by simp)
    obtain ⟨e1, e2⟩ := fr_m (b := b) (sc := sc) p3 (by simp <;> omega)
    have hse := e2 hsc
    have hm' := hm.cl hm.1 e1
    have no : ∀ lo hi, 1 ≤ lo → cl_no b lo hi [b + 0] := fun lo hi h z hz => by simp only [List.mem_cons, List.not_mem_nil, or_false] at hz; omega
    have at0 : ∀ k, k ≠ 13 → i' (b + 0) k = i (b + 0) k := fun k hk => by rw [p1]; exact wf_up_k hk
    have hc' := hc.fr p3 (by simp <;> omega) (hc.2.1.fr p3 (no _ _ (by omega))) (hc.2.2.1.fr p3 (no _ _ (by omega))) (hc.2.2.2.2.1.fr p3 (at0 10 (by omega)) (no _ _ (by omega))) ⟨(at0 12 (by omega)).trans hc.2.2.2.2.2.2.1.1, hc.2.2.2.2.2.2.1.2⟩ ((at0 11 (by omega)).trans hc.2.2.2.2.2.2.2.1) p2
    rw [hse]
    refine ⟨0, rfl, hm.1, tS, tO, _, hMM i' _ nx' hm', ?_⟩
    intro z i'' hz
    rw [if_pos hb] at hz
    obtain ⟨rfl, z6, z0, z5⟩ := hz
    have nom : ∀ c lo hi, (1 ≤ c ∧ c ≤ 18) ∨ (c = 0 ∧ 1 ≤ lo ∧ hi ≤ 25) → ms_no fi_S c lo hi := fun c lo hi h q hq z => by
      rcases List.mem_append.mp hq with hq | hq
      · by_cases hc0 : c = 0
        · subst hc0
          exact sk_no0 (lo := lo) (hi := hi) (by omega) q hq z
        · exact absurd z (sk_ne (by omega) q hq)
      · simp only [List.mem_cons, List.not_mem_nil, or_false] at hq
        rcases hq with rfl | rfl <;> simp only at z ⊢ <;> omega
    have nem : ∀ c, 1 ≤ c ∧ c ≤ 18 → ∀ q ∈ fi_S, q.1 ≠ c := fun c h q hq z => by
      rcases List.mem_append.mp hq with hq | hq
      · exact sk_ne h q hq z
      · simp only [List.mem_cons, List.not_mem_nil, or_false] at hq
        rcases hq with rfl | rfl <;> simp only at z <;> omega
    exact ⟨z0, fun _ => wf_up_s, kk _ _ _ _ _ ⟨pm, sx, tx, w, sp, ru, v, lc, _, (hc'.mo (mf_fr z5 (by simp [fi_S, sk_S]))).lg g_oa, hm'.fr hl120 z5 (by simp [fi_S, sk_S]) (hm'.2.1.fr z5 hw1.1 (nom _ _ _ (by omega)) (nom _ _ _ (by omega))) (hm'.2.2.1.fr z5 (nom _ _ _ (by omega)) (nom _ _ _ (by omega))) (hm'.2.2.2.1.fr z5 (fun q hq => ⟨nem 3 (by omega) q hq, nem 4 (by omega) q hq⟩)) (hm'.2.2.2.2.1.fr z5 (nom _ _ _ (by omega)) (fun c c1 c2 => nem c (by omega))) ((z5.at (nom _ _ _ (by omega))).trans hm'.2.2.2.2.2.2.1) z6, tS, hsc, tO, hnx, by omega, by omega, by omega⟩⟩
  · rw [if_neg hb] at hC
    refine s_find (d := d + 49) tS h1 h2 hk hn (x_find_1 (d := d + 48) tb hC) ?_
    rintro o nx' t' r' i' g' ⟨rfl, rfl, rfl, rfl, rfl, rfl⟩
    refine ⟨1, rfl, hm.1, tS, tO, _, hMM i' _ _ hm, ?_⟩
    intro z i'' hz
    rw [if_neg hb] at hz
    subst hz
    exact ⟨wf_up_s, fun z => absurd z (by decide), kk _ _ _ _ _ ⟨pm, sx, tx, w, sp, ru, v, lc, fe, hc.mo z_fr, hm.z hl120, tS, hsc, tO, by omega, by omega, by omega, by omega⟩⟩

end
