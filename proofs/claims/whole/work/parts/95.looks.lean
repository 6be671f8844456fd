/-! the law: the ops that look (laid by gen/law2.py) -/
def lw_st (t : Wt) (r : Wr) (i : Wi) (g : Wl) (nx b sc n j : Nat) : Prop := ∃ (pm : Nat → Nat) (sx tx : Nat → List Int32) (w : List Int32) (sp : Int32) (ru : List RuS) (v : LnS) (lc : Nat) (fe : Option Nat), cl_I t r i g b pm sx tx w sp ru v lc fe ∧ md_I t r i (b + 193) sx tx w sp ru v lc fe ∧ t sc = some (.inr (wl_AS, n)) ∧ sc < b ∧ t (b + 221) = some (.inr (2, 1)) ∧ b + 222 ≤ nx ∧ v.2.2.2.2.length ≤ 14520 * j ∧ ra ru ≤ j ∧ lc ≤ j
section
variable {l : Launch} {E : We} {n0 d nx mc ms bk bn bk' bn' : Nat} {t t' : Wt} {r r' : Wr} {i i' : Wi} {g g' : Wl} {b sc n j : Nat} {Q : Wq} {pm : Nat → Nat} {sx tx : Nat → List Int32} {w : List Int32} {sp : Int32} {ru : List RuS} {v : LnS} {lc : Nat} {fe : Option Nat}
/-- the class does not see the array of one long -/
theorem cl_I.lg (h : cl_I t r i g b pm sx tx w sp ru v lc fe) (hg : ∀ z, z < b + 193 → ∀ k, g' z k = g z k) : cl_I t r i g' b pm sx tx w sp ru v lc fe := by
  obtain ⟨h1, h2, h3, h4, h5⟩ := h
  refine ⟨h1, h2, h3, fun k hk => ⟨?_, (h4 k hk).2⟩, h5⟩
  have hp := h1.2.2.1 k (by omega)
  have hx := xo_in hp
  exact (h4 k hk).1.fg (lr_exp h1 hp) (fun _ => rfl) (fun _ _ _ => rfl) (fun o o1 o2 k => hg _ (by omega) k)
theorem wv_I {P : Int32 → Wi → Prop} (hO : t (b + 221) = some (.inr (2, 1))) : wv_ok (b + 221) (qI nx t r g P) := by
  refine ⟨fun X nx t r i g h => ?_, fun v nx t r i g h => ?_⟩
  · obtain ⟨z, q, -⟩ := h
    cases q
  · obtain ⟨z, h1, -, h2, -⟩ := h
    refine ⟨⟨z, ?_⟩, ?_⟩
    · cases h1; rfl
    · rw [h2]; exact hO
theorem g_oa {x : Int64} : ∀ z, z < b + 193 → ∀ k, wf_up g (b + 221) 0 x z k = g z k := fun z hz k => wf_up_a (by omega)
theorem q_sign (hl : l.stackTraces = false) (hj : j ≤ 512) (h1 : vp_in (nI (6 * j) + 1) n) (h2 : vp_in (nI (6 * j) + 2) n) (hk : bk' + 1 ≤ bk) (hn : bn' + 6 ≤ bn) (H : lw_st t r i g nx b sc n j) (kk : ∀ nx' t' r' i' g', lw_st t' r' i' g' nx' b sc n (j + 1) → Wf l E n0 mt_Law_law (d + 50) mc ms Q bk' bn' 988 [(0, .ref sc), (1, .ref (b + 0)), (2, .ref (b + 193 + 0)), (3, .ref (b + 221)), (4, .int (nI (6 * j)))] [] nx' t' r' i' g') : Wf l E n0 mt_Law_law (d + 50) mc ms Q bk bn 684 [(0, .ref sc), (1, .ref (b + 0)), (2, .ref (b + 193 + 0)), (3, .ref (b + 221)), (4, .int (nI (6 * j)))] [] nx t r i g := by
  obtain ⟨pm, sx, tx, w, sp, ru, v, lc, fe, hc, hm, tS, hsc, tO, hnx, b1, b2, b3⟩ := H
  have tb := hc.1.1.1
  have hl120 : v.1.length ≤ 120 := hc.2.2.2.2.2.1.1.2.1.1
  have h30 : v.2.1.length ≤ 30 := hc.2.2.2.2.2.1.1.1.2.1
  have h120 : ∀ k, k < v.2.1.length → (v.2.1.getD k []).length ≤ 120 := fun k hk => (hc.2.2.2.2.2.1.1.2.2 k hk).1
  have hK40 : v.2.2.2.1.length ≤ 40 := hc.2.2.2.2.2.1.2.2.1.1.2.1
  have hK1 : ∀ k, k < v.2.2.2.1.length → s1 (kt_at v.2.2.2.1 k).1 := hc.2.2.2.2.2.1.2.2.1.2
  have hC : Ct l E n0 mt_LR_sign (d + 48) 1 6 [.ref (b + 0), .int (i sc (nI (6 * j) + 1).toNatClampNeg), .int (i sc (nI (6 * j) + 2).toNatClampNeg)] nx t r i g _ := k_LR_sign (d := d + 41) hl hc.1 hc.2.2.2.2.2.1.1
  cases ho : an_sign v.1 v.2.1 (i sc (nI (6 * j) + 1).toNatClampNeg) (i sc (nI (6 * j) + 2).toNatClampNeg) with
  | some y =>
    rw [ho] at hC
    refine s_sign (d := d + 49) tS h1 h2 hk hn (u_sign (d := d + 48) tb hC (wv_I tO)) ?_
    rintro o nx' t' r' i' g' ⟨z, g0, rfl, ⟨x, hx, rfl, rfl, rfl, rfl, rfl, rfl⟩, rfl⟩
    cases hx
    have hM : Ct l E n0 mt_Mod_sign (d + 49) 0 0 [.ref (b + 193 + 0), .int (i' sc (nI (6 * j) + 1).toNatClampNeg), .int (i' sc (nI (6 * j) + 2).toNatClampNeg)] nx' t' r' i' (wf_up g0 (b + 221) 0 z.toInt64) _ := c_Mod_sign (d := d + 48) hm.1 hm.2.2.2.2.2.1.1 hl120 hm.2.2.2.2.2.1.2.1 h30 h120
    rw [ho] at hM
    refine ⟨0, rfl, hm.1, tS, tO, _, hM, ?_⟩
    rintro z' i'' ⟨rfl, rfl⟩
    exact ⟨wf_up_s, fun _ => wf_up_s, kk _ _ _ _ _ ⟨pm, sx, tx, w, sp, ru, v, lc, fe, (hc.mo z_fr).lg g_oa, hm.z hl120, tS, hsc, tO, hnx, by omega, by omega, by omega⟩⟩
  | none =>
    rw [ho] at hC
    refine s_sign (d := d + 49) tS h1 h2 hk hn (x_sign_1 (d := d + 48) tb hC) ?_
    rintro o nx' t' r' i' g' ⟨rfl, rfl, rfl, rfl, rfl, rfl⟩
    have hM : Ct l E n0 mt_Mod_sign (d + 49) 0 0 [.ref (b + 193 + 0), .int (i' sc (nI (6 * j) + 1).toNatClampNeg), .int (i' sc (nI (6 * j) + 2).toNatClampNeg)] (nx + 1) t' r' i' g' _ := c_Mod_sign (d := d + 48) hm.1 hm.2.2.2.2.2.1.1 hl120 hm.2.2.2.2.2.1.2.1 h30 h120
    rw [ho] at hM
    refine ⟨1, rfl, hm.1, tS, tO, _, hM, ?_⟩
    rintro z' i'' rfl
    exact ⟨wf_up_s, fun z => absurd z (by decide), kk _ _ _ _ _ ⟨pm, sx, tx, w, sp, ru, v, lc, fe, hc.mo z_fr, hm.z hl120, tS, hsc, tO, by omega, by omega, by omega, by omega⟩⟩
theorem q_printed (hl : l.stackTraces = false) (hj : j ≤ 512) (h1 : vp_in (nI (6 * j) + 1) n) (hk : bk' + 1 ≤ bk) (hn : bn' + 6 ≤ bn) (H : lw_st t r i g nx b sc n j) (kk : ∀ nx' t' r' i' g', lw_st t' r' i' g' nx' b sc n (j + 1) → Wf l E n0 mt_Law_law (d + 50) mc ms Q bk' bn' 988 [(0, .ref sc), (1, .ref (b + 0)), (2, .ref (b + 193 + 0)), (3, .ref (b + 221)), (4, .int (nI (6 * j)))] [] nx' t' r' i' g') : Wf l E n0 mt_Law_law (d + 50) mc ms Q bk bn 752 [(0, .ref sc), (1, .ref (b + 0)), (2, .ref (b + 193 + 0)), (3, .ref (b + 221)), (4, .int (nI (6 * j)))] [] nx t r i g := by
  obtain ⟨pm, sx, tx, w, sp, ru, v, lc, fe, hc, hm, tS, hsc, tO, hnx, b1, b2, b3⟩ := H
  have tb := hc.1.1.1
  have hl120 : v.1.length ≤ 120 := hc.2.2.2.2.2.1.1.2.1.1
  have h30 : v.2.1.length ≤ 30 := hc.2.2.2.2.2.1.1.1.2.1
  have h120 : ∀ k, k < v.2.1.length → (v.2.1.getD k []).length ≤ 120 := fun k hk => (hc.2.2.2.2.2.1.1.2.2 k hk).1
  have hK40 : v.2.2.2.1.length ≤ 40 := hc.2.2.2.2.2.1.2.2.1.1.2.1
  have hK1 : ∀ k, k < v.2.2.2.1.length → s1 (kt_at v.2.2.2.1 k).1 := hc.2.2.2.2.2.1.2.2.1.2
  have hC : Ct l E n0 mt_LR_printed (d + 48) 1 6 [.ref (b + 0), .int (i sc (nI (6 * j) + 1).toNatClampNeg)] nx t r i g _ := k_LR_printed (d := d + 41) hl hc.1 hc.2.2.2.2.2.1.2.2.2 (by omega)
  cases ho : an_printed v.2.2.2.2 (i sc (nI (6 * j) + 1).toNatClampNeg) with
  | some y =>
    rw [ho] at hC
    refine s_printed (d := d + 49) tS h1 hk hn (u_printed (d := d + 48) tb hC (wv_I tO)) ?_
    rintro o nx' t' r' i' g' ⟨z, g0, rfl, ⟨x, hx, rfl, rfl, rfl, rfl, rfl, rfl⟩, rfl⟩
    cases hx
    have hM : Ct l E n0 mt_Mod_printed (d + 49) 0 0 [.ref (b + 193 + 0), .int (i' sc (nI (6 * j) + 1).toNatClampNeg)] nx' t' r' i' (wf_up g0 (b + 221) 0 z.toInt64) _ := c_Mod_printed (d := d + 48) hm.1 hm.2.2.2.2.2.1.2.2.2.2 (by omega)
    rw [ho] at hM
    refine ⟨0, rfl, hm.1, tS, tO, _, hM, ?_⟩
    rintro z' i'' ⟨rfl, rfl⟩
    exact ⟨wf_up_s, fun _ => wf_up_s, kk _ _ _ _ _ ⟨pm, sx, tx, w, sp, ru, v, lc, fe, (hc.mo z_fr).lg g_oa, hm.z hl120, tS, hsc, tO, hnx, by omega, by omega, by omega⟩⟩
  | none =>
    rw [ho] at hC
    refine s_printed (d := d + 49) tS h1 hk hn (x_printed_1 (d := d + 48) tb hC) ?_
    rintro o nx' t' r' i' g' ⟨rfl, rfl, rfl, rfl, rfl, rfl⟩
    have hM : Ct l E n0 mt_Mod_printed (d + 49) 0 0 [.ref (b + 193 + 0), .int (i' sc (nI (6 * j) + 1).toNatClampNeg)] (nx + 1) t' r' i' g' _ := c_Mod_printed (d := d + 48) hm.1 hm.2.2.2.2.2.1.2.2.2.2 (by omega)
    rw [ho] at hM
    refine ⟨1, rfl, hm.1, tS, tO, _, hM, ?_⟩
    rintro z' i'' rfl
    exact ⟨wf_up_s, fun z => absurd z (by decide), kk _ _ _ _ _ ⟨pm, sx, tx, w, sp, ru, v, lc, fe, hc.mo z_fr, hm.z hl120, tS, hsc, tO, by omega, by omega, by omega, by omega⟩⟩
theorem q_counter (hl : l.stackTraces = false) (hj : j ≤ 512) (h1 : vp_in (nI (6 * j) + 1) n) (hk : bk' + 1 ≤ bk) (hn : bn' + 6 ≤ bn) (H : lw_st t r i g nx b sc n j) (kk : ∀ nx' t' r' i' g', lw_st t' r' i' g' nx' b sc n (j + 1) → Wf l E n0 mt_Law_law (d + 50) mc ms Q bk' bn' 988 [(0, .ref sc), (1, .ref (b + 0)), (2, .ref (b + 193 + 0)), (3, .ref (b + 221)), (4, .int (nI (6 * j)))] [] nx' t' r' i' g') : Wf l E n0 mt_Law_law (d + 50) mc ms Q bk bn 808 [(0, .ref sc), (1, .ref (b + 0)), (2, .ref (b + 193 + 0)), (3, .ref (b + 221)), (4, .int (nI (6 * j)))] [] nx t r i g := by
  obtain ⟨pm, sx, tx, w, sp, ru, v, lc, fe, hc, hm, tS, hsc, tO, hnx, b1, b2, b3⟩ := H
  have tb := hc.1.1.1
  have hl120 : v.1.length ≤ 120 := hc.2.2.2.2.2.1.1.2.1.1
  have h30 : v.2.1.length ≤ 30 := hc.2.2.2.2.2.1.1.1.2.1
  have h120 : ∀ k, k < v.2.1.length → (v.2.1.getD k []).length ≤ 120 := fun k hk => (hc.2.2.2.2.2.1.1.2.2 k hk).1
  have hK40 : v.2.2.2.1.length ≤ 40 := hc.2.2.2.2.2.1.2.2.1.1.2.1
  have hK1 : ∀ k, k < v.2.2.2.1.length → s1 (kt_at v.2.2.2.1 k).1 := hc.2.2.2.2.2.1.2.2.1.2
  have hC : Ct l E n0 mt_LR_counter (d + 48) 1 6 [.ref (b + 0), .int (i sc (nI (6 * j) + 1).toNatClampNeg)] nx t r i g _ := k_LR_counter (d := d + 41) hl hc.1 hc.2.2.2.2.2.1.2.1
  cases ho : an_counter v.2.2.1 (i sc (nI (6 * j) + 1).toNatClampNeg) with
  | some y =>
    rw [ho] at hC
    refine s_counter (d := d + 49) tS h1 hk hn (u_counter (d := d + 48) tb hC (wv_I tO)) ?_
    rintro o nx' t' r' i' g' ⟨z, g0, rfl, ⟨x, hx, rfl, rfl, rfl, rfl, rfl, rfl⟩, rfl⟩
    cases hx
    have hM : Ct l E n0 mt_Mod_counter (d + 49) 0 0 [.ref (b + 193 + 0), .int (i' sc (nI (6 * j) + 1).toNatClampNeg)] nx' t' r' i' (wf_up g0 (b + 221) 0 z.toInt64) _ := c_Mod_counter (d := d + 48) hm.1 hm.2.2.2.2.2.1.2.2.1
    rw [ho] at hM
    refine ⟨0, rfl, hm.1, tS, tO, _, hM, ?_⟩
    rintro z' i'' ⟨rfl, rfl⟩
    exact ⟨wf_up_s, fun _ => wf_up_s, kk _ _ _ _ _ ⟨pm, sx, tx, w, sp, ru, v, lc, fe, (hc.mo z_fr).lg g_oa, hm.z hl120, tS, hsc, tO, hnx, by omega, by omega, by omega⟩⟩
  | none =>
    rw [ho] at hC
    refine s_counter (d := d + 49) tS h1 hk hn (x_counter_1 (d := d + 48) tb hC) ?_
    rintro o nx' t' r' i' g' ⟨rfl, rfl, rfl, rfl, rfl, rfl⟩
    have hM : Ct l E n0 mt_Mod_counter (d + 49) 0 0 [.ref (b + 193 + 0), .int (i' sc (nI (6 * j) + 1).toNatClampNeg)] (nx + 1) t' r' i' g' _ := c_Mod_counter (d := d + 48) hm.1 hm.2.2.2.2.2.1.2.2.1
    rw [ho] at hM
    refine ⟨1, rfl, hm.1, tS, tO, _, hM, ?_⟩
    rintro z' i'' rfl
    exact ⟨wf_up_s, fun z => absurd z (by decide), kk _ _ _ _ _ ⟨pm, sx, tx, w, sp, ru, v, lc, fe, hc.mo z_fr, hm.z hl120, tS, hsc, tO, by omega, by omega, by omega, by omega⟩⟩
theorem q_key (hl : l.stackTraces = false) (hj : j ≤ 512) (h1 : vp_in (nI (6 * j) + 1) n) (h2 : vp_in (nI (6 * j) + 2) n) (hk : bk' + 1 ≤ bk) (hn : bn' + 6 ≤ bn) (H : lw_st t r i g nx b sc n j) (kk : ∀ nx' t' r' i' g', lw_st t' r' i' g' nx' b sc n (j + 1) → Wf l E n0 mt_Law_law (d + 50) mc ms Q bk' bn' 988 [(0, .ref sc), (1, .ref (b + 0)), (2, .ref (b + 193 + 0)), (3, .ref (b + 221)), (4, .int (nI (6 * j)))] [] nx' t' r' i' g') : Wf l E n0 mt_Law_law (d + 50) mc ms Q bk bn 864 [(0, .ref sc), (1, .ref (b + 0)), (2, .ref (b + 193 + 0)), (3, .ref (b + 221)), (4, .int (nI (6 * j)))] [] nx t r i g := by
  obtain ⟨pm, sx, tx, w, sp, ru, v, lc, fe, hc, hm, tS, hsc, tO, hnx, b1, b2, b3⟩ := H
  have tb := hc.1.1.1
  have hl120 : v.1.length ≤ 120 := hc.2.2.2.2.2.1.1.2.1.1
  have h30 : v.2.1.length ≤ 30 := hc.2.2.2.2.2.1.1.1.2.1
  have h120 : ∀ k, k < v.2.1.length → (v.2.1.getD k []).length ≤ 120 := fun k hk => (hc.2.2.2.2.2.1.1.2.2 k hk).1
  have hK40 : v.2.2.2.1.length ≤ 40 := hc.2.2.2.2.2.1.2.2.1.1.2.1
  have hK1 : ∀ k, k < v.2.2.2.1.length → s1 (kt_at v.2.2.2.1 k).1 := hc.2.2.2.2.2.1.2.2.1.2
  have hC : Ct l E n0 mt_LR_key (d + 48) 1 6 [.ref (b + 0), .int (i sc (nI (6 * j) + 1).toNatClampNeg), .int (i sc (nI (6 * j) + 2).toNatClampNeg)] nx t r i g _ := k_LR_key (d := d + 41) hl hc.1 hc.2.2.2.2.2.1.2.2.1
  cases ho : an_key v.2.2.2.1 (i sc (nI (6 * j) + 1).toNatClampNeg) (i sc (nI (6 * j) + 2).toNatClampNeg) with
  | some y =>
    rw [ho] at hC
    refine s_key (d := d + 49) tS h1 h2 hk hn (u_key (d := d + 48) tb hC (wv_I tO)) ?_
    rintro o nx' t' r' i' g' ⟨z, g0, rfl, ⟨x, hx, rfl, rfl, rfl, rfl, rfl, rfl⟩, rfl⟩
    cases hx
    have hM : Ct l E n0 mt_Mod_key (d + 49) 0 0 [.ref (b + 193 + 0), .int (i' sc (nI (6 * j) + 1).toNatClampNeg), .int (i' sc (nI (6 * j) + 2).toNatClampNeg)] nx' t' r' i' (wf_up g0 (b + 221) 0 z.toInt64) _ := c_Mod_key (d := d + 48) hm.1 hm.2.2.2.2.2.1.2.2.2.1 hK40 (fun k hk => (hK1 k hk).1)
    rw [ho] at hM
    refine ⟨0, rfl, hm.1, tS, tO, _, hM, ?_⟩
    rintro z' i'' ⟨rfl, rfl⟩
    exact ⟨wf_up_s, fun _ => wf_up_s, kk _ _ _ _ _ ⟨pm, sx, tx, w, sp, ru, v, lc, fe, (hc.mo z_fr).lg g_oa, hm.z hl120, tS, hsc, tO, hnx, by omega, by omega, by omega⟩⟩
  | none =>
    rw [ho] at hC
    refine s_key (d := d + 49) tS h1 h2 hk hn (x_key_1 (d := d + 48) tb hC) ?_
    rintro o nx' t' r' i' g' ⟨rfl, rfl, rfl, rfl, rfl, rfl⟩
    have hM : Ct l E n0 mt_Mod_key (d + 49) 0 0 [.ref (b + 193 + 0), .int (i' sc (nI (6 * j) + 1).toNatClampNeg), .int (i' sc (nI (6 * j) + 2).toNatClampNeg)] (nx + 1) t' r' i' g' _ := c_Mod_key (d := d + 48) hm.1 hm.2.2.2.2.2.1.2.2.2.1 hK40 (fun k hk => (hK1 k hk).1)
    rw [ho] at hM
    refine ⟨1, rfl, hm.1, tS, tO, _, hM, ?_⟩
    rintro z' i'' rfl
    exact ⟨wf_up_s, fun z => absurd z (by decide), kk _ _ _ _ _ ⟨pm, sx, tx, w, sp, ru, v, lc, fe, hc.mo z_fr, hm.z hl120, tS, hsc, tO, by omega, by omega, by omega, by omega⟩⟩
theorem q_count (hl : l.stackTraces = false) (hj : j ≤ 512) (h1 : vp_in (nI (6 * j) + 1) n) (hk : bk' + 1 ≤ bk) (hn : bn' + 6 ≤ bn) (H : lw_st t r i g nx b sc n j) (kk : ∀ nx' t' r' i' g', lw_st t' r' i' g' nx' b sc n (j + 1) → Wf l E n0 mt_Law_law (d + 50) mc ms Q bk' bn' 988 [(0, .ref sc), (1, .ref (b + 0)), (2, .ref (b + 193 + 0)), (3, .ref (b + 221)), (4, .int (nI (6 * j)))] [] nx' t' r' i' g') : Wf l E n0 mt_Law_law (d + 50) mc ms Q bk bn 932 [(0, .ref sc), (1, .ref (b + 0)), (2, .ref (b + 193 + 0)), (3, .ref (b + 221)), (4, .int (nI (6 * j)))] [] nx t r i g := by
  obtain ⟨pm, sx, tx, w, sp, ru, v, lc, fe, hc, hm, tS, hsc, tO, hnx, b1, b2, b3⟩ := H
  have tb := hc.1.1.1
  have hl120 : v.1.length ≤ 120 := hc.2.2.2.2.2.1.1.2.1.1
  have h30 : v.2.1.length ≤ 30 := hc.2.2.2.2.2.1.1.1.2.1
  have h120 : ∀ k, k < v.2.1.length → (v.2.1.getD k []).length ≤ 120 := fun k hk => (hc.2.2.2.2.2.1.1.2.2 k hk).1
  have hK40 : v.2.2.2.1.length ≤ 40 := hc.2.2.2.2.2.1.2.2.1.1.2.1
  have hK1 : ∀ k, k < v.2.2.2.1.length → s1 (kt_at v.2.2.2.1 k).1 := hc.2.2.2.2.2.1.2.2.1.2
  have hC : Ct l E n0 mt_LR_count (d + 48) 1 6 [.ref (b + 0), .int (i sc (nI (6 * j) + 1).toNatClampNeg)] nx t r i g _ := k_LR_count (d := d + 41) hl hc.1 hc.2.1 hc.2.2.2.2.1 hc.2.2.2.2.2.2.2.1 hc.2.2.2.2.2.1.1 hc.2.2.2.2.2.1.2.2.2 hc.2.2.2.2.2.1.2.2.1
  cases ho : an_count w.length ru.length lc v.2.1.length v.2.2.2.2.length v.2.2.2.1.length (i sc (nI (6 * j) + 1).toNatClampNeg) with
  | some y =>
    rw [ho] at hC
    refine s_count (d := d + 49) tS h1 hk hn (u_count (d := d + 48) tb hC (wv_I tO)) ?_
    rintro o nx' t' r' i' g' ⟨z, g0, rfl, ⟨x, hx, rfl, rfl, rfl, rfl, rfl, rfl⟩, rfl⟩
    cases hx
    have hM : Ct l E n0 mt_Mod_count (d + 49) 0 0 [.ref (b + 193 + 0), .int (i' sc (nI (6 * j) + 1).toNatClampNeg)] nx' t' r' i' (wf_up g0 (b + 221) 0 z.toInt64) _ := c_Mod_count (d := d + 48) hm.1 hm.2.1 hm.2.2.2.2.1 hm.2.2.2.2.2.2.2.1 hm.2.2.2.2.2.1.2.1 hm.2.2.2.2.2.1.2.2.2.2 hm.2.2.2.2.2.1.2.2.2.1
    rw [ho] at hM
    refine ⟨0, rfl, hm.1, tS, tO, _, hM, ?_⟩
    rintro z' i'' ⟨rfl, rfl⟩
    exact ⟨wf_up_s, fun _ => wf_up_s, kk _ _ _ _ _ ⟨pm, sx, tx, w, sp, ru, v, lc, fe, (hc.mo z_fr).lg g_oa, hm.z hl120, tS, hsc, tO, hnx, by omega, by omega, by omega⟩⟩
  | none =>
    rw [ho] at hC
    refine s_count (d := d + 49) tS h1 hk hn (x_count_1 (d := d + 48) tb hC) ?_
    rintro o nx' t' r' i' g' ⟨rfl, rfl, rfl, rfl, rfl, rfl⟩
    have hM : Ct l E n0 mt_Mod_count (d + 49) 0 0 [.ref (b + 193 + 0), .int (i' sc (nI (6 * j) + 1).toNatClampNeg)] (nx + 1) t' r' i' g' _ := c_Mod_count (d := d + 48) hm.1 hm.2.1 hm.2.2.2.2.1 hm.2.2.2.2.2.2.2.1 hm.2.2.2.2.2.1.2.1 hm.2.2.2.2.2.1.2.2.2.2 hm.2.2.2.2.2.1.2.2.2.1
    rw [ho] at hM
    refine ⟨1, rfl, hm.1, tS, tO, _, hM, ?_⟩
    rintro z' i'' rfl
    exact ⟨wf_up_s, fun z => absurd z (by decide), kk _ _ _ _ _ ⟨pm, sx, tx, w, sp, ru, v, lc, fe, hc.mo z_fr, hm.z hl120, tS, hsc, tO, by omega, by omega, by omega, by omega⟩⟩
end
