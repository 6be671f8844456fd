/-! the law: expression -/
section
variable {l : Launch} {E : We} {n0 d nx mc ms bk bn bk' bn' : Nat} {t t' : Wt} {r r' : Wr} {i i' : Wi} {g g' : Wl} {b sc n j m : Nat} {Q : Wq} {pm : Nat → Nat}
theorem ey_in {z : Nat} (hp : pm 6 < 7) (h : z ∈ ey_S b pm) : z = b + 1 ∨ (b + 5 ≤ z ∧ z ≤ b + 17) ∨ (b + 109 ≤ z ∧ z ≤ b + 144) := by
  have hx := xo_in hp
  simp only [ey_S, rd_fi, List.mem_cons, List.not_mem_nil, or_false] at h
  have e0 : lr_V b (xo (pm 6)) 0 = b + 6 := rfl
  have e1 : lr_V b (xo (pm 6)) 1 = b + 7 := rfl
  have e2 : lr_V b (xo (pm 6)) 2 = b + 8 := rfl
  have e3 : lr_V b (xo (pm 6)) 3 = b + 9 := rfl
  have e6 : lr_V b (xo (pm 6)) 6 = b + (xo (pm 6) + 0) := rfl
  have e11 : lr_V b (xo (pm 6)) 11 = b + (xo (pm 6) + 5) := rfl
  rw [e0, e1, e2, e3, e6, e11] at h
  omega
theorem lp_tab.rx {K : KtS} (h : lp_tab t r i b K) (hr : fr_is [b + 4, b + 5] r r') (hf : fr_is (ey_S b pm) i i') (hp : pm 6 < 7) : lp_tab t r' i' b K := by
  obtain ⟨⟨a1, a2, a3⟩, a4⟩ := h
  have no : ∀ o, 90 ≤ o → o ≤ 92 → b + o ∉ ey_S b pm := fun o o1 o2 z => by have := ey_in hp z; omega
  refine ⟨⟨(hf _ (no 90 (by omega) (by omega)) 2).trans a1, a2, fun k hk => ⟨(hf _ (no 92 (by omega) (by omega)) k).trans (a3 k hk).1, ?_⟩⟩, a4⟩
  rw [hr (b + 91) (by simp) k]
  exact (a3 k hk).2.mo (S := [b + 4, b + 5]) (S' := ey_S b pm) ⟨fun _ _ h => h, fun z _ _ hz k => hr z hz k⟩ (by simp) hf (fun z hz => Or.inr (by have := ey_in hp hz; omega))
theorem o_expression (hl : l.stackTraces = false) (hj : j ≤ 512) (h1 : vp_in (nI (6 * j) + 1) n) (hk : bk' + 1 ≤ bk) (hn : bn' + 6 ≤ bn) (H : lw_st t r i g nx b sc n j) (kk : ∀ nx' t' r' i' g', lw_st t' r' i' g' nx' b sc n (j + 1) → Wf l E n0 mt_Law_law (d + 50) mc ms Q bk' bn' 988 [(0, .ref sc), (1, .ref (b + 0)), (2, .ref (b + 193 + 0)), (3, .ref (b + 221)), (4, .int (nI (6 * j)))] [] nx' t' r' i' g') : Wf l E n0 mt_Law_law (d + 50) mc ms Q bk bn 237 [(0, .ref sc), (1, .ref (b + 0)), (2, .ref (b + 193 + 0)), (3, .ref (b + 221)), (4, .int (nI (6 * j)))] [] nx t r i g := by
  obtain ⟨pm, sx, tx, w, sp, ru, v, lc, fe, hc, hm, tS, hsc, tO, hnx, b1, b2, b3⟩ := H
  have tb := hc.1.1.1
  have hl120 : v.1.length ≤ 120 := hc.2.2.2.2.2.1.1.2.1.1
  have hw1 := hc.2.1.2
  have hp6 := hc.1.2.2.1 6 (by omega)
  have hC := k_LR_expression (E := E) (n0 := n0) (d := d) (nx := nx) (g := g) (x := i sc (nI (6 * j) + 1).toNatClampNeg) hl hc.1 hc.2.1 hc.2.2.2.1
  have hMM := fun (i' : Wi) (g' : Wl) (r' : Wr) (nx : Nat) (h : md_I t r' i' (b + 193) sx tx w sp ru v lc fe) => c_Mod_expression (l := l) (E := E) (n0 := n0) (d := d + 46) (nx := nx) (g := g') (x := i sc (nI (6 * j) + 1).toNatClampNeg) h.1 h.2.1 hw1 h.2.2.2.1
  cases hb : bw (i sc (nI (6 * j) + 1).toNatClampNeg) 0 5 with
  | true =>
    rw [if_pos hb] at hC
    by_cases h60 : 60 < w.length
    · rw [if_pos h60] at hC
      refine s_expression (d := d + 49) tS h1 hk hn (x_expression_2 (d := d + 48) tb hC) ?_
      rintro o nx' t' r' i' g' ⟨rfl, rfl, rfl, rfl, rfl, rfl⟩
      refine ⟨2, rfl, hm.1, tS, tO, _, hMM i' _ _ _ hm, ?_⟩
      intro z i'' hz
      rw [if_pos hb, if_pos h60] at hz
      subst hz
      exact ⟨wf_up_s, fun z => absurd z (by decide), kk _ _ _ _ _ ⟨pm, sx, tx, w, sp, ru, v, lc, fe, hc.mo z_fr, hm.z hl120, tS, hsc, tO, by omega, by omega, by omega, by omega⟩⟩
    · rw [if_neg h60] at hC
      obtain ⟨k, -, hk5, hxk⟩ := bw_n (lo := 0) (hi := 5) hb
      have hck : (i sc (nI (6 * j) + 1).toNatClampNeg).toNatClampNeg = k := by rw [hxk, nI_clamp (by omega)]
      have hv : wv_ok (b + 221) (ex_q nx t r i g b pm sx w (i sc (nI (6 * j) + 1).toNatClampNeg)) := by
        refine ⟨fun X nx t r i g h => ?_, fun v nx t r i g h => ?_⟩
        · obtain ⟨-, -, -, -, -, h⟩ := h
          cases hr : ps_read w with
          | inl e => rw [hr] at h; exact absurd h.1 (fun q => by cases q)
          | inr e => rw [hr] at h; exact absurd h.1 (fun q => by cases q)
        · obtain ⟨-, h2, -, -, -, h⟩ := h
          refine ⟨?_, by rw [h2]; exact tO⟩
          cases hr : ps_read w with
          | inl e => rw [hr] at h; have := h.1; cases this; exact ⟨_, rfl⟩
          | inr e => rw [hr] at h; have := h.1; cases this; exact ⟨_, rfl⟩
      refine s_expression (d := d + 49) tS h1 hk hn (u_expression (d := d + 48) tb hC hv) ?_
      rintro o nx' t' r' i' g' ⟨z, g0, rfl, ⟨rfl, rfl, p1, p2, p3, p4⟩, rfl⟩
      have e1 : ∀ c j, c < 28 → i' (b + 193 + c) j = i (b + 193 + c) j := fun c j _ => p2 _ (fun z => by have := ey_in hp6 z; omega) j
      have hse : i' sc = i sc := funext (fun q => p2 _ (fun z => by have := ey_in hp6 z; omega) q)
      have hA1 : mo_at t' r' (b + 193) := ⟨hm.1.1, fun q hq => (p1 _ (by simp; omega) _).trans (hm.1.2 q hq)⟩
      have hm' := hm.cl hA1 e1
      have no : ∀ lo hi, (18 ≤ lo ∧ hi < 109) ∨ 145 ≤ lo → cl_no b lo hi (ey_S b pm) := fun lo hi h z hz => by have := ey_in hp6 hz; omega
      have at0 : ∀ k, i' (b + 0) k = i (b + 0) k := fun k => p2 _ (fun z => by have := ey_in hp6 z; omega) k
      have cln : ln_is t' r' i' b v := ⟨hc.2.2.2.2.2.1.1.fr p2 (no _ _ (by omega)), hc.2.2.2.2.2.1.2.1.fr p2 (no _ _ (by omega)), hc.2.2.2.2.2.1.2.2.1.rx p1 p2 hp6, hc.2.2.2.2.2.1.2.2.2.fr p2 ((no 93 94 (by omega)).at (by omega) (by omega)) ((no 93 94 (by omega)).at (by omega) (by omega))⟩
      have mk : ∀ (pm' : Nat → Nat) (sx' : Nat → List Int32) (w' : List Int32), lr_at t' r' b pm' → lp_exp t' r' i' g0 b pm' sx' → lp_pad i' b w' → cl_I t' r' i' g0 b pm' sx' tx w' sp ru v lc fe := fun pm' sx' w' q1 q2 q3 => ⟨q1, q3, hc.2.2.1.fr p2 (no _ _ (by omega)), q2, hc.2.2.2.2.1.fr p2 (at0 10) (no _ _ (by omega)), cln, ⟨(at0 12).trans hc.2.2.2.2.2.2.1.1, hc.2.2.2.2.2.2.1.2⟩, (at0 11).trans hc.2.2.2.2.2.2.2.1, ⟨(at0 13).trans hc.2.2.2.2.2.2.2.2.1, hc.2.2.2.2.2.2.2.2.2⟩⟩
      have xne : ∀ c, 5 ≤ c ∧ c ≤ 11 → ∀ q ∈ xm_S k, q.1 ≠ c := fun c h q hq z => by
        rcases List.mem_append.mp hq with hq | hq
        · exact dr_ne (by omega) q hq z
        · simp only [List.mem_cons, List.not_mem_nil, or_false] at hq
          rcases hq with rfl | rfl | rfl | rfl | rfl <;> simp only at z <;> omega
      have md : ∀ (i'' : Wi) (sx' : Nat → List Int32) (w' : List Int32), mf (b + 193) (xm_S k) i' i'' → mr i'' (b + 193) 0 w' → mp_exp i'' (b + 193) sx' → md_I t' r' i'' (b + 193) sx' tx w' sp ru v lc fe := fun i'' sx' w' q1 q2 q3 => hm'.fr hl120 q1 (by simp [xm_S, dr_S] <;> omega) q2 (hm'.2.2.1.fr q1 (xm_no (by omega)) (xm_no (by omega))) q3 (hm'.2.2.2.2.1.fr q1 (xm_no (by omega)) (fun c c1 c2 => xne c (by omega))) ((q1.at (xm_no (by omega))).trans hm'.2.2.2.2.2.2.1) ((q1.at (xm_no (by omega))).trans hm'.2.2.2.2.2.2.2.2)
      have x28 : ∀ q ∈ xm_S k, q.1 < 28 := by simp [xm_S, dr_S]
      rw [hse]
      refine ⟨0, rfl, hA1, tS, tO, _, hMM i' _ r' nx' hm', ?_⟩
      intro z' i'' hz
      rw [if_pos hb, if_neg h60, hck] at hz
      obtain ⟨z0, z5, z6⟩ := hz
      rw [hck] at p4
      cases hr : ps_read w with
      | inl e =>
        rw [hr] at p4 z6
        obtain ⟨q0, q1, q2, q3⟩ := p4
        obtain ⟨rfl, y2, y3⟩ := z6
        cases q0
        exact ⟨z0, fun _ => wf_up_s, kk _ _ _ _ _ ⟨pm, sx, tx, w, sp, ru, v, lc, fe, ((mk pm sx w q1 q2 q3).mo (mf_fr z5 x28)).lg g_oa, md i'' sx w z5 y2 y3, tS, hsc, tO, hnx, by omega, by omega, by omega⟩⟩
      | inr e =>
        rw [hr] at p4 z6
        obtain ⟨q0, q3, pm', q1, q2⟩ := p4
        obtain ⟨rfl, y2, y3⟩ := z6
        cases q0
        exact ⟨z0, fun _ => wf_up_s, kk _ _ _ _ _ ⟨pm', _, tx, [], sp, ru, v, lc, fe, ((mk pm' _ [] q1 q2 q3).mo (mf_fr z5 x28)).lg g_oa, md i'' _ [] z5 y2 y3, tS, hsc, tO, hnx, by omega, by omega, by omega⟩⟩
  | false =>
    rw [if_neg (by rw [hb]; decide)] at hC
    refine s_expression (d := d + 49) tS h1 hk hn (x_expression_1 (d := d + 48) tb hC) ?_
    rintro o nx' t' r' i' g' ⟨rfl, rfl, rfl, rfl, rfl, rfl⟩
    refine ⟨1, rfl, hm.1, tS, tO, _, hMM i' _ _ _ hm, ?_⟩
    intro z i'' hz
    rw [if_neg (by rw [hb]; decide)] at hz
    subst hz
    exact ⟨wf_up_s, fun z => absurd z (by decide), kk _ _ _ _ _ ⟨pm, sx, tx, w, sp, ru, v, lc, fe, hc.mo z_fr, hm.z hl120, tS, hsc, tO, by omega, by omega, by omega, by omega⟩⟩
end
