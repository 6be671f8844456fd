/-! the law: feed, text, separator, rule, action, find -/
section
variable {l : Launch} {E : We} {n0 d nx mc ms bk bn bk' bn' : Nat} {t t' : Wt} {r r' : Wr} {i i' : Wi} {g g' : Wl} {b sc n j m : Nat} {Q : Wq} {pm : Nat → Nat} {sx tx sx' tx' : Nat → List Int32} {w w' : List Int32} {sp sp' : Int32} {ru ru' : List RuS} {v : LnS} {lc : Nat} {fe fe' : Option Nat} {S : List Nat}
theorem cl_I.fr (h : cl_I t r i g b pm sx tx w sp ru v lc fe) (hf : fr_is S i i') (hS : ∀ z ∈ S, (b ≤ z ∧ z ≤ b + 2) ∨ (b + 97 ≤ z ∧ z ≤ b + 108) ∨ (b + 145 ≤ z ∧ z ≤ b + 192)) (hP : lp_pad i' b w') (hT : lp_txt i' b tx') (hR : lp_rul i' b ru') (hs : lp_sep i' b sp') (hL : lp_lin i' b lc) (hE : lp_end i' b fe') : cl_I t r i' g b pm sx tx' w' sp' ru' v lc fe' := by
  obtain ⟨h1, -, -, h4, -, ⟨h6, h7, h8, h9⟩, -⟩ := h
  have no : ∀ lo hi, (3 ≤ lo ∧ hi ≤ 96) ∨ (109 ≤ lo ∧ hi ≤ 144) → cl_no b lo hi S := fun lo hi hh z hz => by
    have := hS z hz
    omega
  exact ⟨h1, hP, hT, h4.fr h1 hf (no _ _ (by omega)) (no _ _ (by omega)), hR, ⟨h6.fr hf (no _ _ (by omega)), h7.fr hf (no _ _ (by omega)), h8.fr hf (no _ _ (by omega)) (fun z hz => by have := hS z hz; omega), h9.fr hf ((no 93 94 (by omega)).at (by omega) (by omega)) ((no 93 94 (by omega)).at (by omega) (by omega))⟩, hs, hL, hE⟩
theorem md_I.fr {S : Ms} (h : md_I t r i m sx tx w sp ru v lc fe) (hl : v.1.length ≤ 120) (hf : mf m S i i') (hS : ∀ q ∈ S, (q.1 = 0 ∧ (q.2.2 ≤ 14 ∨ 24 ≤ q.2.1)) ∨ (q.1 = 2 ∧ (q.2.2 ≤ 1 ∨ 2 ≤ q.2.1)) ∨ (q.1 = 1 ∧ (q.2.2 ≤ 120 ∨ 240 ≤ q.2.1)) ∨ (3 ≤ q.1 ∧ q.1 ≤ 11) ∨ 19 ≤ q.1) (hw : mr i' m 0 w') (ht : mp_txt i' m tx') (hx : mp_exp i' m sx') (hr : mp_rul i' m ru') (h5 : i' (m + 0) 5 = sp') (h25 : i' (m + 0) 25 = oI fe') : md_I t r i' m sx' tx' w' sp' ru' v lc fe' := by
  obtain ⟨h1, -, -, -, -, h6, -, h12, -⟩ := h
  have no : ∀ c lo hi, (c = 0 ∧ 14 ≤ lo ∧ hi ≤ 24) ∨ (c = 2 ∧ 1 ≤ lo ∧ hi ≤ 2) ∨ (c = 1 ∧ 120 ≤ lo ∧ hi ≤ 240) → ms_no S c lo hi := fun c lo hi hc q hq z => by
    rcases hS q hq with q1 | q1 | q1 | q1 | q1 <;> omega
  have ne : ∀ c, 12 ≤ c → c ≤ 18 → ∀ q ∈ S, q.1 ≠ c := fun c hc hc2 q hq z => by
    rcases hS q hq with q1 | q1 | q1 | q1 | q1 <;> omega
  exact ⟨h1, hw, ht, hx, hr, h6.fr hl hf (no _ _ _ (by omega)) (no _ _ _ (by omega)) (no _ _ _ (by omega)) (no _ _ _ (by omega)) (no _ _ _ (by omega)) (fun c c1 c2 => ne c (by omega) (by omega)), h5, (hf.at (no _ _ _ (by omega))).trans h12, h25⟩
/-- the class's cells are not the reference's, nor the script's -/
theorem fr_m (hf : fr_is S i i') (hS : ∀ z ∈ S, b ≤ z ∧ z ≤ b + 192) : (∀ c j, c < 28 → i' (b + 193 + c) j = i (b + 193 + c) j) ∧ (sc < b → i' sc = i sc) := ⟨fun c j _ => hf _ (fun z => by have := hS _ z; omega) j, fun h => funext (fun k => hf _ (fun z => by have := hS _ z; omega) k)⟩
theorem o_feed (hl : l.stackTraces = false) (hj : j ≤ 512) (h1 : vp_in (nI (6 * j) + 1) n) (h2 : vp_in (nI (6 * j) + 2) n) (h3 : vp_in (nI (6 * j) + 3) n) (h4 : vp_in (nI (6 * j) + 4) n) (h5 : vp_in (nI (6 * j) + 5) n) (hk : bk' + 1 ≤ bk) (hn : bn' + 6 ≤ bn) (H : lw_st t r i g nx b sc n j) (kk : ∀ nx' t' r' i' g', lw_st t' r' i' g' nx' b sc n (j + 1) → Wf l E n0 mt_Law_law (d + 50) mc ms Q bk' bn' 988 [(0, .ref sc), (1, .ref (b + 0)), (2, .ref (b + 193 + 0)), (3, .ref (b + 221)), (4, .int (nI (6 * j)))] [] nx' t' r' i' g') : Wf l E n0 mt_Law_law (d + 50) mc ms Q bk bn 120 [(0, .ref sc), (1, .ref (b + 0)), (2, .ref (b + 193 + 0)), (3, .ref (b + 221)), (4, .int (nI (6 * j)))] [] nx t r i g := by
  obtain ⟨pm, sx, tx, w, sp, ru, v, lc, fe, hc, hm, tS, hsc, tO, hnx, b1, b2, b3⟩ := H
  have tb := hc.1.1.1
  have hl120 : v.1.length ≤ 120 := hc.2.2.2.2.2.1.1.2.1.1
  have hw1 := hc.2.1.2
  have hC := k_LR_feed (E := E) (n0 := n0) (d := d + 41) (nx := nx) (g := g) (a1 := i sc (nI (6 * j) + 1).toNatClampNeg) (a2 := i sc (nI (6 * j) + 2).toNatClampNeg) (a3 := i sc (nI (6 * j) + 3).toNatClampNeg) (a4 := i sc (nI (6 * j) + 4).toNatClampNeg) (a5 := i sc (nI (6 * j) + 5).toNatClampNeg) hl hc.1 hc.2.1
  have hMM := fun (i' : Wi) (g' : Wl) (nx : Nat) (h : md_I t r i' (b + 193) sx tx w sp ru v lc fe) => c_Mod_feed (l := l) (E := E) (n0 := n0) (d := d + 48) (nx := nx) (g := g') (a1 := i sc (nI (6 * j) + 1).toNatClampNeg) (a2 := i sc (nI (6 * j) + 2).toNatClampNeg) (a3 := i sc (nI (6 * j) + 3).toNatClampNeg) (a4 := i sc (nI (6 * j) + 4).toNatClampNeg) (a5 := i sc (nI (6 * j) + 5).toNatClampNeg) h.1 h.2.1 hw1.1
  revert hC hMM
  generalize fe_of (i sc (nI (6 * j) + 1).toNatClampNeg) (i sc (nI (6 * j) + 2).toNatClampNeg) (i sc (nI (6 * j) + 3).toNatClampNeg) (i sc (nI (6 * j) + 4).toNatClampNeg) (i sc (nI (6 * j) + 5).toNatClampNeg) = F
  intro hC hMM
  by_cases hb : w.length + F.length ≤ 120
  · rw [if_pos hb] at hC
    refine s_feed (d := d + 49) tS h1 h2 h3 h4 h5 hk hn (u_feed (d := d + 48) tb hC (wv_I tO)) ?_
    rintro o nx' t' r' i' g' ⟨z, g0, rfl, ⟨x, hx, rfl, rfl, rfl, rfl, rfl, p1, p2⟩, rfl⟩
    cases hx
    obtain ⟨e1, e2⟩ := fr_m (b := b) (sc := sc) p2 (by simp <;> omega)
    have hse := e2 hsc
    have hm' := hm.cl hm.1 e1
    have no : ∀ lo hi, 3 ≤ lo → cl_no b lo hi [b + 1, b + 2] := fun lo hi h z hz => by simp only [List.mem_cons, List.not_mem_nil, or_false] at hz; omega
    have at0 : ∀ k, i' (b + 0) k = i (b + 0) k := fun k => p2 _ (by simp) k
    have hc' : cl_I t' r' i' g0 b pm sx tx (w ++ F) sp ru v lc fe := hc.fr p2 (by simp <;> omega) p1 (hc.2.2.1.fr p2 (no _ _ (by omega))) (hc.2.2.2.2.1.fr p2 (at0 10) (no _ _ (by omega))) ⟨(at0 12).trans hc.2.2.2.2.2.2.1.1, hc.2.2.2.2.2.2.1.2⟩ ((at0 11).trans hc.2.2.2.2.2.2.2.1) ⟨(at0 13).trans hc.2.2.2.2.2.2.2.2.1, hc.2.2.2.2.2.2.2.2.2⟩
    rw [hse]
    refine ⟨0, rfl, hm.1, tS, tO, _, hMM i' _ nx' hm', ?_⟩
    intro z i'' hz
    rw [if_pos hb] at hz
    obtain ⟨rfl, z2, z3, z4⟩ := hz
    exact ⟨z2, fun _ => wf_up_s, kk _ _ _ _ _ ⟨pm, sx, tx, w ++ F, sp, ru, v, lc, fe, (hc'.mo (mf_fr z4 (by simp [mr_S]))).lg g_oa, hm'.pad hl120 z4 (by simp [mr_S]) z3, tS, hsc, tO, hnx, by omega, by omega, by omega⟩⟩
  · rw [if_neg hb] at hC
    refine s_feed (d := d + 49) tS h1 h2 h3 h4 h5 hk hn (x_feed_1 (d := d + 48) tb hC) ?_
    rintro o nx' t' r' i' g' ⟨rfl, rfl, rfl, rfl, rfl, rfl⟩
    refine ⟨1, rfl, hm.1, tS, tO, _, hMM i' _ _ hm, ?_⟩
    intro z i'' hz
    rw [if_neg hb] at hz
    subst hz
    exact ⟨wf_up_s, fun z => absurd z (by decide), kk _ _ _ _ _ ⟨pm, sx, tx, w, sp, ru, v, lc, fe, hc.mo z_fr, hm.z hl120, tS, hsc, tO, by omega, by omega, by omega, by omega⟩⟩
theorem o_text (hl : l.stackTraces = false) (hj : j ≤ 512) (h1 : vp_in (nI (6 * j) + 1) n) (hk : bk' + 1 ≤ bk) (hn : bn' + 6 ≤ bn) (H : lw_st t r i g nx b sc n j) (kk : ∀ nx' t' r' i' g', lw_st t' r' i' g' nx' b sc n (j + 1) → Wf l E n0 mt_Law_law (d + 50) mc ms Q bk' bn' 988 [(0, .ref sc), (1, .ref (b + 0)), (2, .ref (b + 193 + 0)), (3, .ref (b + 221)), (4, .int (nI (6 * j)))] [] nx' t' r' i' g') : Wf l E n0 mt_Law_law (d + 50) mc ms Q bk bn 293 [(0, .ref sc), (1, .ref (b + 0)), (2, .ref (b + 193 + 0)), (3, .ref (b + 221)), (4, .int (nI (6 * j)))] [] nx t r i g := by
  obtain ⟨pm, sx, tx, w, sp, ru, v, lc, fe, hc, hm, tS, hsc, tO, hnx, b1, b2, b3⟩ := H
  have tb := hc.1.1.1
  have hl120 : v.1.length ≤ 120 := hc.2.2.2.2.2.1.1.2.1.1
  have hw1 := hc.2.1.2
  have hC := k_LR_text (E := E) (n0 := n0) (d := d + 41) (nx := nx) (g := g) (x := i sc (nI (6 * j) + 1).toNatClampNeg) hl hc.1 hc.2.1 hc.2.2.1
  have hMM := fun (i' : Wi) (g' : Wl) (nx : Nat) (h : md_I t r i' (b + 193) sx tx w sp ru v lc fe) => c_Mod_text (l := l) (E := E) (n0 := n0) (d := d + 48) (nx := nx) (g := g') (x := i sc (nI (6 * j) + 1).toNatClampNeg) h.1 h.2.1 hw1.1
  cases hb : bw (i sc (nI (6 * j) + 1).toNatClampNeg) 0 5 with
  | true =>
    rw [if_pos hb] at hC
    obtain ⟨k, -, hk5, hxk⟩ := bw_n (lo := 0) (hi := 5) hb
    have hck : (i sc (nI (6 * j) + 1).toNatClampNeg).toNatClampNeg = k := by rw [hxk, nI_clamp (by omega)]
    rw [hck] at hC hMM
    refine s_text (d := d + 49) tS h1 hk hn (u_text (d := d + 48) tb hC (wv_I tO)) ?_
    rintro o nx' t' r' i' g' ⟨z, g0, rfl, ⟨x, hx, rfl, rfl, rfl, rfl, rfl, p1, p3, p2⟩, rfl⟩
    cases hx
    obtain ⟨e1, e2⟩ := fr_m (b := b) (sc := sc) p2 (by simp <;> omega)
    have hse := e2 hsc
    have hm' := hm.cl hm.1 e1
    have no : ∀ lo hi, 109 ≤ lo → cl_no b lo hi [b + 1, b + (97 + 2 * k), b + (97 + 2 * k + 1)] := fun lo hi h z hz => by simp only [List.mem_cons, List.not_mem_nil, or_false] at hz; omega
    have at0 : ∀ k, i' (b + 0) k = i (b + 0) k := fun k => p2 _ (by simp <;> omega) k
    have hc' := hc.fr p2 (by simp <;> omega) p1 p3 (hc.2.2.2.2.1.fr p2 (at0 10) (no _ _ (by omega))) ⟨(at0 12).trans hc.2.2.2.2.2.2.1.1, hc.2.2.2.2.2.2.1.2⟩ ((at0 11).trans hc.2.2.2.2.2.2.2.1) ⟨(at0 13).trans hc.2.2.2.2.2.2.2.2.1, hc.2.2.2.2.2.2.2.2.2⟩
    rw [hse]
    refine ⟨0, rfl, hm.1, tS, tO, _, hMM i' _ nx' hm', ?_⟩
    intro z i'' hz
    rw [if_pos hb] at hz
    obtain ⟨rfl, z2, z3, z4, z5⟩ := hz
    have nom : ∀ c lo hi, (c = 0 ∧ 1 ≤ lo) ∨ 3 ≤ c ∨ (c = 2 ∧ 1 ≤ lo ∧ (hi ≤ 2 + k ∨ 3 + k ≤ lo)) ∨ (c = 1 ∧ (hi ≤ 120 * (2 + k) ∨ 120 * (2 + k) + 120 ≤ lo)) → ms_no ([(0, 0, 1)] ++ mr_S (2 + k) ++ [(2, 0, 1)]) c lo hi := fun c lo hi h q hq z => by
      simp only [mr_S, List.mem_append, List.mem_cons, List.not_mem_nil, or_false] at hq
      rcases hq with (rfl | rfl | rfl) | rfl <;> simp only at z ⊢ <;> omega
    have nem : ∀ c, 3 ≤ c → ∀ q ∈ ([(0, 0, 1)] ++ mr_S (2 + k) ++ [(2, 0, 1)] : Ms), q.1 ≠ c := fun c h q hq z => by
      simp only [mr_S, List.mem_append, List.mem_cons, List.not_mem_nil, or_false] at hq
      rcases hq with (rfl | rfl | rfl) | rfl <;> simp only at z <;> omega
    refine ⟨z2, fun _ => wf_up_s, kk _ _ _ _ _ ⟨pm, sx, _, [], sp, ru, v, lc, fe, (hc'.mo (mf_fr z5 (by simp [mr_S]))).lg g_oa, hm'.fr hl120 z5 (by simp [mr_S]; omega) z3 (fun q hq => ?_) (hm'.2.2.2.1.fr z5 (fun q hq => ⟨nem 3 (by omega) q hq, nem 4 (by omega) q hq⟩)) (hm'.2.2.2.2.1.fr z5 (nom _ _ _ (by omega)) (fun c c1 c2 => nem c (by omega))) ((z5.at (nom _ _ _ (by omega))).trans hm'.2.2.2.2.2.2.1) ((z5.at (nom _ _ _ (by omega))).trans hm'.2.2.2.2.2.2.2.2), tS, hsc, tO, hnx, by omega, by omega, by omega⟩⟩
    try dsimp only
    by_cases hqk : q = k
    · rw [if_pos hqk, hqk]
      exact ⟨z4, hw1⟩
    · rw [if_neg hqk]
      exact ⟨(hm'.2.2.1 q hq).1.fr z5 (hm'.2.2.1 q hq).2.1 (nom _ _ _ (by omega)) (nom _ _ _ (by omega)), (hm'.2.2.1 q hq).2⟩
  | false =>
    rw [if_neg (by rw [hb]; decide)] at hC
    refine s_text (d := d + 49) tS h1 hk hn (x_text_1 (d := d + 48) tb hC) ?_
    rintro o nx' t' r' i' g' ⟨rfl, rfl, rfl, rfl, rfl, rfl⟩
    refine ⟨1, rfl, hm.1, tS, tO, _, hMM i' _ _ hm, ?_⟩
    intro z i'' hz
    rw [if_neg (by rw [hb]; decide)] at hz
    subst hz
    exact ⟨wf_up_s, fun z => absurd z (by decide), kk _ _ _ _ _ ⟨pm, sx, tx, w, sp, ru, v, lc, fe, hc.mo z_fr, hm.z hl120, tS, hsc, tO, by omega, by omega, by omega, by omega⟩⟩
end
