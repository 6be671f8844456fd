/-! class LineRules: count, expression -/
def ey_S (b : Nat) (pm : Nat → Nat) : List Nat := (b + 1) :: rd_fi (b + 5) (lr_V b (xo (pm 6)))
def ex_q (nx : Nat) (t : Wt) (r : Wr) (i : Wi) (g : Wl) (b : Nat) (pm : Nat → Nat) (sx : Nat → List Int32) (w : List Int32) (x : Int32) : Wq := fun o nx' t' r' i' g' => nx' = nx ∧ t' = t ∧ fr_is [b + 4, b + 5] r r' ∧ fr_is (ey_S b pm) i i' ∧ fr_is (rd_fg (lr_V b (xo (pm 6)))) g g' ∧ match ps_read w with
  | .inl e => o = .inl (some (.int (nI (e + 1)))) ∧ lr_at t r' b pm ∧ lp_exp t r' i' g' b pm sx ∧ lp_pad i' b w
  | .inr _ => o = .inl (some (.int 0)) ∧ lp_pad i' b [] ∧ ∃ pm', lr_at t r' b pm' ∧ lp_exp t r' i' g' b pm' (fun j => if j = x.toNatClampNeg then w else sx j)
section
variable {l : Launch} {E : We} {n0 d nx : Nat} {t : Wt} {r r' : Wr} {i i' : Wi} {g g' : Wl} {b : Nat} {pm : Nat → Nat}
theorem xo_sep {p q : Nat} (hp : p < 7) (hq : q < 7) (h : p ≠ q) : xo p + 6 ≤ xo q ∨ xo q + 6 ≤ xo p := by
  unfold xo
  split <;> split <;> omega
theorem xo_in {p : Nat} (hp : p < 7) : (xo p = 12 ∨ 109 ≤ xo p) ∧ xo p ≤ 139 := by
  unfold xo
  split <;> omega
theorem ex_is.fg {e : Nat} {X : Rel} (h : ex_is t r i g (b + e) X) (hat : ex_at t r (b + e) (b + (e + 1)) (b + (e + 2)) (b + (e + 3)) (b + (e + 4)) (b + (e + 5))) (hr : ∀ k, r' (b + e) k = r (b + e) k) (hi : ∀ o, o = 0 ∨ o = 5 → ∀ k, i' (b + (e + o)) k = i (b + (e + o)) k) (hg : ∀ o, 1 ≤ o → o ≤ 4 → ∀ k, g' (b + (e + o)) k = g (b + (e + o)) k) : ex_is t r' i' g' (b + e) X := by
  obtain ⟨tk, fo, fi, la, me, m, ⟨-, ⟨a1, -⟩, ⟨a2, -⟩, ⟨a3, -⟩, ⟨a4, -⟩, ⟨a5, -⟩, -⟩, h2, h3, h4⟩ := h
  obtain ⟨b0, ⟨b1, c1⟩, ⟨b2, c2⟩, ⟨b3, c3⟩, ⟨b4, c4⟩, ⟨b5, c5⟩, b6⟩ := hat
  cases b1.symm.trans a1
  cases b2.symm.trans a2
  cases b3.symm.trans a3
  cases b4.symm.trans a4
  cases b5.symm.trans a5
  have g1 : g' (b + (e + 1)) = g (b + (e + 1)) := funext (hg 1 (by omega) (by omega))
  have g2 : g' (b + (e + 2)) = g (b + (e + 2)) := funext (hg 2 (by omega) (by omega))
  have g3 : g' (b + (e + 3)) = g (b + (e + 3)) := funext (hg 3 (by omega) (by omega))
  have g4 : g' (b + (e + 4)) = g (b + (e + 4)) := funext (hg 4 (by omega) (by omega))
  have i5 : i' (b + (e + 5)) = i (b + (e + 5)) := funext (hi 5 (Or.inr rfl))
  refine ⟨_, _, _, _, _, m, ⟨b0, ⟨(hr 0).trans b1, c1⟩, ⟨(hr 1).trans b2, c2⟩, ⟨(hr 2).trans b3, c3⟩, ⟨(hr 3).trans b4, c4⟩, ⟨(hr 4).trans b5, c5⟩, b6⟩, (hi 0 (Or.inl rfl) 5).trans h2, h3, ?_⟩
  rw [g1, g2, g3, g4, i5]
  exact h4
theorem k_LR_count {w W : List Int32} {F : List (List Int32)} {ru : List RuS} {K : KtS} {out : List Int32} {lc : Nat} {x : Int32} (hl : l.stackTraces = false) (hA : lr_at t r b pm) (hP : lp_pad i b w) (hR : lp_rul i b ru) (hL : lp_lin i b lc) (hC : lp_cut i b W F) (hO : ou_is i (b + 93) (b + 94) out) (hK : lp_tab t r i b K) : Ct l E n0 mt_LR_count (d + 7) 1 6 [.ref (b + 0), .int x] nx t r i g (an_q xAE nx t r i g (an_count w.length ru.length lc F.length out.length K.length x)) := by
  have t0 := hA.1.1
  have r0 : r (b + 0) 0 = some (b + 1) := hA.2.1 (0, 0, 1) (by decide +kernel)
  have r5 : r (b + 0) 5 = some (b + 21) := hA.2.1 (0, 5, 21) (by decide +kernel)
  have r7 : r (b + 0) 7 = some (b + 90) := hA.2.1 (0, 7, 90) (by decide +kernel)
  have r8 : r (b + 0) 8 = some (b + 93) := hA.2.1 (0, 8, 93) (by decide +kernel)
  have tP := (lr_pad hA).1
  have tC := (lr_cut hA).1
  have tT := (lr_tab hA).1
  have tO := (lr_out hA).1
  refine Ct.of (by decide) (Nat.le_of_ble_eq_true rfl) ?_
  refine wf_iload_n dc_LR_count_0 rfl ?_
  rcases tw_in (x := x) (n := 5) (by omega) with h | ⟨j, hj, rfl⟩
  · refine wf_tableOut 82 dc_LR_count_1 h (by decide) ?_
    have ne : ∀ j : Nat, j ≤ 5 → ¬ x = nI j := fun j hj z => by rw [z, nI_toInt (by omega)] at h; omega
    have n0 : ¬ x = 0 := ne 0 (by omega)
    have n1 : ¬ x = 1 := ne 1 (by omega)
    have n2 : ¬ x = 2 := ne 2 (by omega)
    have n3 : ¬ x = 3 := ne 3 (by omega)
    have n4 : ¬ x = 4 := ne 4 (by omega)
    have n5 : ¬ x = 5 := ne 5 (by omega)
    rw [an_count, if_neg n0, if_neg n1, if_neg n2, if_neg n3, if_neg n4, if_neg n5]
    exact wf_throw hl xw_LR_232 (by decide +kernel) dc_LR_count_82 dc_LR_count_85 dc_LR_count_86 dc_LR_count_88 dc_LR_count_91 (by omega) (by omega) (by omega) ⟨rfl, rfl, rfl, rfl, rfl, rfl⟩
  · have hc : j = 0 ∨ j = 1 ∨ j = 2 ∨ j = 3 ∨ j = 4 ∨ j = 5 := by omega
    rcases hc with z | z | z | z | z | z <;> subst z
    · refine wf_tableIn (off := 39) 40 dc_LR_count_1 (by decide) (by decide) rfl (by decide) ?_
      refine wf_aload_n dc_LR_count_40 rfl ?_
      refine wf_getr dc_LR_count_41 fl_LR_14 rfl (by assumption) (by assumption) ?_
      refine wf_geti dc_LR_count_44 fl_LR_82 rfl (by assumption) ?_
      rw [hP.1.1]
      exact wf_ireturn rfl dc_LR_count_47 ⟨_, rfl, rfl, rfl, rfl, rfl, rfl, rfl⟩
    · refine wf_tableIn (off := 47) 48 dc_LR_count_1 (by decide) (by decide) rfl (by decide) ?_
      refine wf_aload_n dc_LR_count_48 rfl ?_
      refine wf_geti dc_LR_count_49 fl_LR_141 rfl (by assumption) ?_
      rw [hR.1]
      exact wf_ireturn rfl dc_LR_count_52 ⟨_, rfl, rfl, rfl, rfl, rfl, rfl, rfl⟩
    · refine wf_tableIn (off := 52) 53 dc_LR_count_1 (by decide) (by decide) rfl (by decide) ?_
      refine wf_aload_n dc_LR_count_53 rfl ?_
      refine wf_geti dc_LR_count_54 fl_LR_168 rfl (by assumption) ?_
      rw [show i (b + 0) 11 = nI lc from hL]
      exact wf_ireturn rfl dc_LR_count_57 ⟨_, rfl, rfl, rfl, rfl, rfl, rfl, rfl⟩
    · refine wf_tableIn (off := 57) 58 dc_LR_count_1 (by decide) (by decide) rfl (by decide) ?_
      refine wf_aload_n dc_LR_count_58 rfl ?_
      refine wf_getr dc_LR_count_59 fl_LR_44 rfl (by assumption) (by assumption) ?_
      refine wf_geti dc_LR_count_62 fl_LR_187 rfl (by assumption) ?_
      rw [hC.1.1]
      exact wf_ireturn rfl dc_LR_count_65 ⟨_, rfl, rfl, rfl, rfl, rfl, rfl, rfl⟩
    · refine wf_tableIn (off := 65) 66 dc_LR_count_1 (by decide) (by decide) rfl (by decide) ?_
      refine wf_aload_n dc_LR_count_66 rfl ?_
      refine wf_getr dc_LR_count_67 fl_LR_62 rfl (by assumption) (by assumption) ?_
      refine wf_geti dc_LR_count_70 fl_LR_229 rfl (by assumption) ?_
      rw [hO.1]
      exact wf_ireturn rfl dc_LR_count_73 ⟨_, rfl, rfl, rfl, rfl, rfl, rfl, rfl⟩
    · refine wf_tableIn (off := 73) 74 dc_LR_count_1 (by decide) (by decide) rfl (by decide) ?_
      refine wf_aload_n dc_LR_count_74 rfl ?_
      refine wf_getr dc_LR_count_75 fl_LR_55 rfl (by assumption) (by assumption) ?_
      refine wf_geti dc_LR_count_78 fl_LR_218 rfl (by assumption) ?_
      rw [hK.1.1]
      exact wf_ireturn rfl dc_LR_count_81 ⟨_, rfl, rfl, rfl, rfl, rfl, rfl, rfl⟩
/-- references of the reader and of the array of expressions have changed -/
theorem lr_at.sw {pm' : Nat → Nat} (h : lr_at t r b pm) (hf : fr_is [b + 4, b + 5] r r') (h5 : ∀ k, k ≠ 7 → k ≠ 8 → r' (b + 5) k = r (b + 5) k) (p1 : ∀ k, k < 7 → pm' k < 7) (p2 : ∀ j k, j < 7 → k < 7 → pm' j = pm' k → j = k) (p3 : ∀ k, k < 6 → r' (b + 4) k = some (b + xo (pm' k))) (p4 : r' (b + 5) 7 = some (b + xo (pm' 6))) : lr_at t r' b pm' := by
  refine ⟨h.1, fun q hq => ?_, p1, p2, p3, p4⟩
  have m4 : ∀ q ∈ lr_Wf, q.1 ≠ 4 ∧ (q.1 = 5 → q.2.1 ≠ 7 ∧ q.2.1 ≠ 8) := by decide +kernel
  obtain ⟨n4, n5⟩ := m4 q hq
  by_cases h5q : q.1 = 5
  · have := h.2.1 q hq
    rw [h5q] at this ⊢
    rw [h5 _ (n5 h5q).1 (n5 h5q).2]
    exact this
  · rw [hf _ (by simp only [List.mem_cons, List.not_mem_nil, or_false]; omega)]
    exact h.2.1 q hq
theorem k_LR_expression {sx : Nat → List Int32} {w : List Int32} {x : Int32} (hl : l.stackTraces = false) (hA : lr_at t r b pm) (hP : lp_pad i b w) (hX : lp_exp t r i g b pm sx) : Ct l E n0 mt_LR_expression (d + 48) 1 6 [.ref (b + 0), .int x] nx t r i g (if bw x 0 5 = true then (if 60 < w.length then qX xSE nx t r i g else ex_q nx t r i g b pm sx w x) else qX xNE nx t r i g) := by
  have t0 := hA.1.1
  have r0 : r (b + 0) 0 = some (b + 1) := hA.2.1 (0, 0, 1) (by decide +kernel)
  have r2 : r (b + 0) 2 = some (b + 4) := hA.2.1 (0, 2, 4) (by decide +kernel)
  have r3 : r (b + 0) 3 = some (b + 5) := hA.2.1 (0, 3, 5) (by decide +kernel)
  have t4 := hA.1.2 4 (4, .inr (4, 6)) (by decide +kernel)
  have hpd := lr_pad hA
  have tP := hpd.1
  have hw := hP.2.1
  have t5 := (lr_rdr hA).1
  refine Ct.of (by decide) (Nat.le_of_ble_eq_true rfl) ?_
  refine wf_iload_n dc_LR_expression_0 rfl ?_
  refine wf_is1 (M' := mt_LR_isExpression) dc_LR_expression_1 tg_LR_isExpression ml_LR_98 sm_LR_isExpression (Nat.le_of_ble_eq_true rfl) (Nat.le_refl _) (Nat.le_refl _) (c_LR_isExpression) qI_nt (qI_go (fun x2 i2 hp => ?_))
  obtain ⟨rfl, hq⟩ := hp; subst i2
  cases hb : bw x 0 5 with
  | false =>
    refine wf_if_ne 17 dc_LR_expression_4 (by decide) (fun hc => absurd rfl hc) (fun hc => ?_)
    rw [if_neg (by decide)]
    exact wf_throw hl xw_LR_104 (by decide +kernel) dc_LR_expression_7 dc_LR_expression_10 dc_LR_expression_11 dc_LR_expression_13 dc_LR_expression_16 (by omega) (by omega) (by omega) ⟨rfl, rfl, rfl, rfl, rfl, rfl⟩
  | true =>
    refine wf_if_ne 17 dc_LR_expression_4 (by decide) (fun hc => ?_) (fun hc => absurd hc (by decide))
    rw [if_pos rfl]
    refine wf_aload_n dc_LR_expression_17 rfl ?_
    refine wf_getr dc_LR_expression_18 fl_LR_14 rfl (by assumption) (by assumption) ?_
    refine wf_geti dc_LR_expression_21 fl_LR_82 rfl (by assumption) ?_
    rw [hP.1.1]
    refine wf_bipush 60 dc_LR_expression_24 (by decide) ?_
    by_cases h60 : 60 < w.length
    · rw [if_pos h60]
      refine wf_icmp_le 39 dc_LR_expression_26 (by decide) (fun hc => absurd ((nI_leI (b := 60) (by omega) (by omega)).mp hc) (by omega)) (fun hc => ?_)
      exact wf_throw hl xw_LR_107 (by decide +kernel) dc_LR_expression_29 dc_LR_expression_32 dc_LR_expression_33 dc_LR_expression_35 dc_LR_expression_38 (by omega) (by omega) (by omega) ⟨rfl, rfl, rfl, rfl, rfl, rfl⟩
    rw [if_neg h60]
    refine wf_icmp_le 39 dc_LR_expression_26 (by decide) (fun hc => ?_) (fun hc => absurd ((nI_leI (b := 60) (by omega) (by omega)).mpr (by omega)) hc)
    obtain ⟨k, -, hk, rfl⟩ := bw_n (lo := 0) (hi := 5) hb
    have hcl : (nI k).toNatClampNeg = k := nI_clamp (by omega)
    have hp6 := hA.2.2.1 6 (by omega)
    have hpk := hA.2.2.1 k (by omega)
    have hx6 := xo_in hp6
    generalize hV : lr_V b (xo (pm 6)) = V
    have hrd := lr_rdr hA
    rw [hV] at hrd
    have v12 : V 12 = b + 1 := by rw [← hV]; rfl
    have v13 : V 13 = b + 2 := by rw [← hV]; rfl
    have v6 : V 6 = b + xo (pm 6) := by rw [← hV]; exact (lr_V_c).1
    rw [← v12] at hrd
    have hpv : rw_is i (V 12) (V 13) w := by rw [v12, v13]; exact hP.1
    refine wf_aload_n dc_LR_expression_39 rfl ?_
    refine wf_getr dc_LR_expression_40 fl_LR_31 rfl (by assumption) (by assumption) ?_
    refine wf_aload_n dc_LR_expression_43 rfl ?_
    refine wf_getr dc_LR_expression_44 fl_LR_14 rfl (by assumption) (by assumption) ?_
    rw [← v12]
    refine wf_iv1 (M' := mt_Rdr_read) (c := 4) dc_LR_expression_47 tg_Rdr_read ml_LR_109 im_Rdr_read se_Rdr_read ⟨_, rfl, rfl⟩ (by assumption) (Nat.le_of_ble_eq_true rfl) (Nat.le_refl _) (Nat.le_refl _) (c_Rdr_read hrd hpv (by omega) (s1_ok hP.2)) qIl_nt (qIl_go (fun x2 i2 g2 hp => ?_))
    obtain ⟨hres, fI, fG⟩ := hp
    rw [v12] at hres
    rw [v12]
    have fIo : ∀ o, o < 5 ∨ (9 < o ∧ o ≠ xo (pm 6) ∧ o ≠ xo (pm 6) + 5) → ∀ j, i2 (b + o) j = i (b + o) j := fun o ho j => fI _ (by
      rw [← hV]
      simp only [rd_fi, lr_V, List.mem_cons, List.not_mem_nil, or_false]
      simp
      omega) j
    have fGo : ∀ o, o < 10 ∨ (11 < o ∧ (o < xo (pm 6) + 1 ∨ xo (pm 6) + 4 < o)) → ∀ j, g2 (b + o) j = g (b + o) j := fun o ho j => fG _ (by
      rw [← hV]
      simp only [rd_fg, lr_V, List.mem_cons, List.not_mem_nil, or_false]
      simp
      omega) j
    have hX2 : ∀ r'', fr_is [b + 4, b + 5] r r'' → ∀ i'', (∀ o, o ≠ 1 → i'' (b + o) = i2 (b + o)) → ∀ q, q < 6 → ex_is t r'' i'' g2 (b + xo (pm q)) (ps_rel (sx q)) := fun r'' hr'' i'' hi'' q hq => by
      have hpq := hA.2.2.1 q (by omega)
      have hs := xo_sep hpq hp6 (fun z => by have := hA.2.2.2.1 q 6 (by omega) (by omega) z; omega)
      have hxq := xo_in hpq
      refine (hX q hq).1.fg (lr_exp hA hpq) (fun j => hr'' _ (by simp only [List.mem_cons, List.not_mem_nil, or_false]; omega) j) (fun o ho j => ?_) (fun o o1 o2 j => fGo _ (by omega) j)
      rw [hi'' _ (by omega)]
      exact fIo _ (by omega) j
    have f8 : fr_is [b + 4, b + 5] r (wf_up r (b + 5) 8 (some (b + 1))) := fr_up fr_rf (by simp)
    have hA1 : lr_at t (wf_up r (b + 5) 8 (some (b + 1))) b pm := hA.sw f8 (fun j _ h8 => wf_up_k h8) hA.2.2.1 hA.2.2.2.1 (fun j hj => (wf_up_a (by omega)).trans (hA.2.2.2.2.1 j hj)) ((wf_up_k (by decide)).trans hA.2.2.2.2.2)
    have hP1 : lp_pad i2 b w := ⟨⟨(fIo 1 (by omega) 1).trans hP.1.1, fun j hj => (fIo 2 (by omega) j).trans (hP.1.2 j hj)⟩, hP.2⟩
    refine wf_istore_n dc_LR_expression_50 (by decide) ?_
    refine wf_iload_n dc_LR_expression_51 rfl ?_
    refine wf_iconst (-1) dc_LR_expression_52 (by decide) ?_
    cases hps : ps_read w with
    | inl e =>
      rw [hps] at hres
      simp only at hres
      subst hres
      have he := ps_read_flt hps
      refine wf_icmp_eq 60 dc_LR_expression_53 (by decide) (fun hc => absurd hc.symm (mx_m1 (by omega))) (fun hc => ?_)
      refine wf_iload_n dc_LR_expression_56 rfl ?_
      refine wf_iconst 1 dc_LR_expression_57 (by decide) ?_
      refine wf_iadd dc_LR_expression_58 ?_
      rw [nI_1]
      refine wf_ireturn rfl dc_LR_expression_59 ⟨rfl, rfl, f8, fr_mo fI (fun z hz => by unfold ey_S; rw [hV]; exact List.mem_cons_of_mem _ hz), by rw [hV]; exact fG, ?_⟩
      rw [hps]
      exact ⟨rfl, hA1, fun q hq => ⟨hX2 _ f8 i2 (fun o _ => rfl) q hq, (hX q hq).2⟩, hP1⟩
    | inr q =>
      rw [hps] at hres
      simp only at hres
      obtain ⟨rfl, hex⟩ := hres
      refine wf_icmp_eq 60 dc_LR_expression_53 (by decide) (fun hc => ?_) (fun hc => absurd rfl hc)
      have hA1' := hA1
      obtain ⟨-, -, -, -, r4, r7⟩ := hA1
      have r4k : wf_up r (b + 5) 8 (some (b + 1)) (b + 4) (nI k).toNatClampNeg = some (b + xo (pm k)) := by rw [hcl]; exact r4 k (by omega)
      have r0' : wf_up r (b + 5) 8 (some (b + 1)) (b + 0) 0 = some (b + 1) := (wf_up_a (by omega)).trans r0
      have r2' : wf_up r (b + 5) 8 (some (b + 1)) (b + 0) 2 = some (b + 4) := (wf_up_a (by omega)).trans r2
      have r3' : wf_up r (b + 5) 8 (some (b + 1)) (b + 0) 3 = some (b + 5) := (wf_up_a (by omega)).trans r3
      generalize hr1 : wf_up r (b + 5) 8 (some (b + 1)) = r1 at *
      refine wf_aload_n dc_LR_expression_60 rfl ?_
      refine wf_getr dc_LR_expression_61 fl_LR_24 rfl (by assumption) (by assumption) ?_
      refine wf_iload_n dc_LR_expression_64 rfl ?_
      refine wf_aload_n dc_LR_expression_65 rfl ?_
      refine wf_getr dc_LR_expression_66 fl_LR_31 rfl (by assumption) (by assumption) ?_
      refine wf_aload_n dc_LR_expression_69 rfl ?_
      refine wf_getr dc_LR_expression_70 fl_LR_24 rfl (by assumption) (by assumption) ?_
      refine wf_iload_n dc_LR_expression_73 rfl ?_
      refine wf_aaload (y := 4) dc_LR_expression_74 rfl rfl (by assumption) (vp_in_nI (by omega) (by omega)) (r4k) ?_
      refine wf_iv1 (M' := mt_Rdr_exchange) (c := 4) (bk' := 1) (bn' := 6) dc_LR_expression_75 tg_Rdr_exchange ml_LR_113 im_Rdr_exchange se_Rdr_exchange ⟨_, rfl, rfl⟩ t5 (Nat.le_of_ble_eq_true rfl) (by omega) (by omega) (c_Rdr_exchange t5 r7) (by rintro X a1 a2 a3 a4 a5 ⟨q, -⟩; cases q) ?_
      rintro vo nx2 t2 r2 i3 g3 ⟨hvo, e1, e2, e3, e4, e5⟩
      cases hvo
      have f1 := e1.symm
      have f2 := e2.symm
      have f4 := e4.symm
      have f5 := e5.symm
      subst f1 f2 f4 f5 e3
      have t6 := (lr_exp hA hp6).1
      refine wf_aastore (y := 4) (c := 2) dc_LR_expression_78 rfl ⟨_, rfl, rfl⟩ (by decide) (by assumption) (by assumption) (vp_in_nI (by omega) (by omega)) ?_
      rw [hcl]
      generalize hr3 : wf_up (wf_up r1 (b + 5) 7 (some (b + xo (pm k)))) (b + 4) k (some (b + xo (pm 6))) = r3
      have f3 : fr_is [b + 4, b + 5] r r3 := by
        rw [← hr3]
        exact fr_up (fr_up f8 (by simp)) (by simp)
      have q4 : ∀ j, j < 6 → r3 (b + 4) j = some (b + xo (if j = k then pm 6 else if j = 6 then pm k else pm j)) := fun j hj => by
        rw [← hr3]
        by_cases hjk : j = k
        · rw [if_pos hjk, hjk]; exact wf_up_s
        · rw [if_neg hjk, if_neg (by omega), wf_up_k hjk, wf_up_a (by omega)]; exact r4 j hj
      have q5 : ∀ j, j ≠ 7 → j ≠ 8 → r3 (b + 5) j = r (b + 5) j := fun j h7 h8 => by
        rw [← hr3, wf_up_a (by omega), wf_up_k h7, ← hr1, wf_up_k h8]
      have q7 : r3 (b + 5) 7 = some (b + xo (if 6 = k then pm 6 else if 6 = 6 then pm k else pm 6)) := by
        rw [if_neg (by omega), if_pos rfl, ← hr3, wf_up_a (by omega)]
        exact wf_up_s
      have q0 : r3 (b + 0) 0 = some (b + 1) := (f3 _ (by simp) 0).trans r0
      have hA3 : lr_at t r3 b (fun j => if j = k then pm 6 else if j = 6 then pm k else pm j) := by
        refine hA.sw f3 q5 (fun j hj => ?_) (fun a c ha hc he => ?_) q4 q7
        · split
          · exact hp6
          · split
            · exact hpk
            · exact hA.2.2.1 j hj
        · have inj := hA.2.2.2.1
          by_cases a1 : a = k
          · by_cases c1 : c = k
            · omega
            rw [if_pos a1, if_neg c1] at he
            by_cases c2 : c = 6
            · rw [if_pos c2] at he; have := inj 6 k (by omega) (by omega) he; omega
            · rw [if_neg c2] at he; have := inj 6 c (by omega) hc he; omega
          rw [if_neg a1] at he
          by_cases a2 : a = 6
          · rw [if_pos a2] at he
            by_cases c1 : c = k
            · rw [if_pos c1] at he; have := inj k 6 (by omega) (by omega) he; omega
            rw [if_neg c1] at he
            by_cases c2 : c = 6
            · omega
            · rw [if_neg c2] at he; have := inj k c (by omega) hc he; omega
          rw [if_neg a2] at he
          by_cases c1 : c = k
          · rw [if_pos c1] at he; have := inj a 6 ha (by omega) he; omega
          rw [if_neg c1] at he
          by_cases c2 : c = 6
          · rw [if_pos c2] at he; have := inj a k ha (by omega) he; omega
          · rw [if_neg c2] at he; exact inj a c ha hc he
      have hpd3 := lr_pad hA3
      have tP3 := hpd3.1
      refine wf_aload_n dc_LR_expression_79 rfl ?_
      refine wf_getr dc_LR_expression_80 fl_LR_14 rfl (by assumption) (by assumption) ?_
      refine wf_iv0 (M' := mt_Row_drop) (c := 5) dc_LR_expression_83 tg_Row_drop ml_LR_95 im_Row_drop se_Row_drop ⟨_, rfl, rfl⟩ (by assumption) (Nat.le_of_ble_eq_true rfl) (Nat.le_refl _) (Nat.le_refl _) (c_Row_drop hpd3) qV_nt (qV_go (fun i2 hp => ?_))
      obtain ⟨n1, n2⟩ := hp
      have n3 : ∀ o, o ≠ 1 → i2 (b + o) = _ := fun o ho => funext fun j => n2 (b + o) (by simp only [List.mem_singleton]; omega) j
      refine wf_iconst 0 dc_LR_expression_86 (by decide) ?_
      refine wf_ireturn rfl dc_LR_expression_87 ⟨rfl, rfl, f3, fr_mo (fr_tr fI n2) (fun z hz => by unfold ey_S; rw [hV]; rcases List.mem_append.mp hz with hz | hz; exact List.mem_cons_of_mem _ hz; rw [List.mem_singleton.mp hz]; exact List.mem_cons_self), by rw [hV]; exact fG, ?_⟩
      rw [hps]
      refine ⟨rfl, ⟨n1, s1_nil⟩, _, hA3, fun j hj => ?_⟩
      by_cases hjk : j = k
      · subst hjk
        simp only [hcl, if_true]
        refine ⟨?_, hP.2, by omega, q, hps⟩
        have hex2 := hex
        rw [v6] at hex2
        refine hex2.fg (lr_exp hA1' hp6) (fun a => ?_) (fun o ho a => ?_) (fun o _ _ _ => rfl)
        · have hno : b + xo (pm 6) ∉ [b + 4, b + 5] := by simp only [List.mem_cons, List.not_mem_nil, or_false]; omega
          have g1 := f3 (b + xo (pm 6)) hno a
          have g2 := f8 (b + xo (pm 6)) hno a
          rw [g1, g2]
        · rw [n3 _ (by omega)]
      · simp only [hcl, if_neg hjk, if_neg (show ¬ j = 6 by omega)]
        exact ⟨hX2 r3 f3 _ (fun o ho => n3 o ho) j hj, (hX j hj).2⟩
end
