/-! the law's wrappers (laid by gen/wrap.py) -/
/-- the wrapper's answer: the called method's, in the array oa -/
def wq_ok (oa : Nat) (Q' : Wq) : Wq := fun o nx' t' r' i' g' => ∃ (z : Int32) (g0 : Wl), o = .inl (some (.int 0)) ∧ Q' (.inl (some (.int z))) nx' t' r' i' g0 ∧ g' = wf_up g0 oa 0 z.toInt64
/-- the wrapper's answer where the called method threw -/
def wq_x (k : Int32) (nx : Nat) (t : Wt) (r : Wr) (i : Wi) (g : Wl) : Wq := fun o nx' t' r' i' g' => o = .inl (some (.int k)) ∧ nx' = nx + 1 ∧ t' = t ∧ r' = r ∧ i' = i ∧ g' = g
def wv_ok (oa : Nat) (Q' : Wq) : Prop := (∀ X nx t r i g, ¬ Q' (.inr X) nx t r i g) ∧ ∀ v nx t r i g, Q' (.inl v) nx t r i g → (∃ z : Int32, v = some (.int z)) ∧ t oa = some (.inr (2, 1))
theorem lk_13 : Cond.classLink "LineRulesLaw" 13 xSE ∈ wl_ALL := wl_mem 493 (by decide +kernel) rfl
theorem lk_19 : Cond.classLink "LineRulesLaw" 19 xNE ∈ wl_ALL := wl_mem 577 (by decide +kernel) rfl
theorem lk_27 : Cond.classLink "LineRulesLaw" 27 xAE ∈ wl_ALL := wl_mem 726 (by decide +kernel) rfl
theorem nc_19 : Cond.not (.castable xSE xNE) ∈ wl_JW := wl_jnew 2 rfl
section
variable {l : Launch} {E : We} {n0 d nx : Nat} {t : Wt} {r : Wr} {i : Wi} {g : Wl} {b oa : Nat}
theorem cw_feed : Cond.codeWith mt_Law_feed.1 mt_Law_feed.2.1 mt_Law_feed.2.2.1 mt_Law_feed.2.2.2 (wl_H mt_Law_feed.1) ∈ wl_ALL := wl_mem 492 (by decide +kernel) rfl
theorem ws_feed : Cond.static mt_Law_feed.1 ∈ wl_ALL := wl_mem 491 (by decide +kernel) rfl
theorem wt_feed : wc_tg mt_Law_feed 7 := ⟨cw_feed, wl_mem 63 (by decide +kernel) rfl, by decide, by decide +kernel, by decide⟩
theorem u_feed {Q' : Wq} {a1 a2 a3 a4 a5 : Int32} (hb : t b = some (.inl 0)) (hC : Ct l E n0 mt_LR_feed d 1 6 [.ref b, .int a1, .int a2, .int a3, .int a4, .int a5] nx t r i g Q') (hv : wv_ok oa Q') : Cw l E n0 mt_Law_feed (d + 1) 1 6 [.ref b, .int a1, .int a2, .int a3, .int a4, .int a5, .ref oa] nx t r i g (wq_ok oa Q') := by
  refine Cw.of (by decide) (Nat.le_of_ble_eq_true rfl) cw_feed ?_
  refine wf_aload dc_Law_feed_0 rfl ?_
  refine wf_iconst 0 dc_Law_feed_2 (by decide) ?_
  refine wf_aload_n dc_Law_feed_3 rfl ?_
  refine wf_iload_n dc_Law_feed_4 rfl ?_
  refine wf_iload_n dc_Law_feed_5 rfl ?_
  refine wf_iload_n dc_Law_feed_6 rfl ?_
  refine wf_iload dc_Law_feed_7 rfl ?_
  refine wf_iload dc_Law_feed_9 rfl ?_
  refine wf_iv (st := [.int 0, .ref oa]) (As := [.int a1, .int a2, .int a3, .int a4, .int a5]) (M' := mt_LR_feed) (c := 0) (bk' := 0) (bn' := 0) dc_Law_feed_11 tg_LR_feed ml_Law_7 im_LR_feed se_LR_feed ⟨_, rfl, rfl⟩ hb (Nat.le_of_ble_eq_true rfl) (by omega) (by omega) hC hv.1 ?_
  intro v nx' t' r' i' g' hq
  obtain ⟨⟨z, rfl⟩, ht⟩ := hv.2 _ _ _ _ _ _ hq
  refine wf_i2l dc_Law_feed_14 ?_
  refine wf_lastore (y := 2) dc_Law_feed_15 rfl (by decide) (by assumption) (vp_in_nI (n := 0) (by omega) (by omega)) ?_
  refine wf_goto 23 dc_Law_feed_16 (by decide) ?_
  refine wf_iconst 0 dc_Law_feed_23 (by decide) ?_
  exact wf_ireturn rfl dc_Law_feed_24 ⟨z, g', rfl, hq, rfl⟩
theorem x_feed_1 {a1 a2 a3 a4 a5 : Int32} (hb : t b = some (.inl 0)) (hC : Ct l E n0 mt_LR_feed d 1 6 [.ref b, .int a1, .int a2, .int a3, .int a4, .int a5] nx t r i g (qX xSE nx t r i g)) : Cw l E n0 mt_Law_feed (d + 1) 1 6 [.ref b, .int a1, .int a2, .int a3, .int a4, .int a5, .ref oa] nx t r i g (wq_x 1 nx t r i g) := by
  refine Cw.of (by decide) (Nat.le_of_ble_eq_true rfl) cw_feed ?_
  have hH : wl_H mt_Law_feed.1 = [(0, 16, 19, 13)] := by decide +kernel
  refine wf_aload dc_Law_feed_0 rfl ?_
  refine wf_iconst 0 dc_Law_feed_2 (by decide) ?_
  refine wf_aload_n dc_Law_feed_3 rfl ?_
  refine wf_iload_n dc_Law_feed_4 rfl ?_
  refine wf_iload_n dc_Law_feed_5 rfl ?_
  refine wf_iload_n dc_Law_feed_6 rfl ?_
  refine wf_iload dc_Law_feed_7 rfl ?_
  refine wf_iload dc_Law_feed_9 rfl ?_
  refine wf_ivt (st := [.int 0, .ref oa]) (As := [.int a1, .int a2, .int a3, .int a4, .int a5]) (M' := mt_LR_feed) (c := 0) (bk' := 0) (bn' := 0) (hp := 19) dc_Law_feed_11 tg_LR_feed ml_Law_7 im_LR_feed se_LR_feed ⟨_, rfl, rfl⟩ hb (Nat.le_of_ble_eq_true rfl) (by omega) (by omega) (by rw [hH]; exact ⟨by decide, by decide, by decide, Or.inl ⟨rfl, lk_13⟩⟩) hC (fun a => ?_)
  refine wf_astore dc_Law_feed_19 (by decide) ?_
  refine wf_iconst 1 dc_Law_feed_21 (by decide) ?_
  exact wf_ireturn rfl dc_Law_feed_22 ⟨rfl, rfl, rfl, rfl, rfl, rfl⟩
theorem cw_expression : Cond.codeWith mt_Law_expression.1 mt_Law_expression.2.1 mt_Law_expression.2.2.1 mt_Law_expression.2.2.2 (wl_H mt_Law_expression.1) ∈ wl_ALL := wl_mem 576 (by decide +kernel) rfl
theorem ws_expression : Cond.static mt_Law_expression.1 ∈ wl_ALL := wl_mem 575 (by decide +kernel) rfl
theorem wt_expression : wc_tg mt_Law_expression 3 := ⟨cw_expression, wl_mem 63 (by decide +kernel) rfl, by decide, by decide +kernel, by decide⟩
theorem u_expression {Q' : Wq} {a1 : Int32} (hb : t b = some (.inl 0)) (hC : Ct l E n0 mt_LR_expression d 1 6 [.ref b, .int a1] nx t r i g Q') (hv : wv_ok oa Q') : Cw l E n0 mt_Law_expression (d + 1) 1 6 [.ref b, .int a1, .ref oa] nx t r i g (wq_ok oa Q') := by
  refine Cw.of (by decide) (Nat.le_of_ble_eq_true rfl) cw_expression ?_
  refine wf_aload_n dc_Law_expression_0 rfl ?_
  refine wf_iconst 0 dc_Law_expression_1 (by decide) ?_
  refine wf_aload_n dc_Law_expression_2 rfl ?_
  refine wf_iload_n dc_Law_expression_3 rfl ?_
  refine wf_iv (st := [.int 0, .ref oa]) (As := [.int a1]) (M' := mt_LR_expression) (c := 0) (bk' := 0) (bn' := 0) dc_Law_expression_4 tg_LR_expression ml_Law_15 im_LR_expression se_LR_expression ⟨_, rfl, rfl⟩ hb (Nat.le_of_ble_eq_true rfl) (by omega) (by omega) hC hv.1 ?_
  intro v nx' t' r' i' g' hq
  obtain ⟨⟨z, rfl⟩, ht⟩ := hv.2 _ _ _ _ _ _ hq
  refine wf_i2l dc_Law_expression_7 ?_
  refine wf_lastore (y := 2) dc_Law_expression_8 rfl (by decide) (by assumption) (vp_in_nI (n := 0) (by omega) (by omega)) ?_
  refine wf_goto 18 dc_Law_expression_9 (by decide) ?_
  refine wf_iconst 0 dc_Law_expression_18 (by decide) ?_
  exact wf_ireturn rfl dc_Law_expression_19 ⟨z, g', rfl, hq, rfl⟩
theorem x_expression_1 {a1 : Int32} (hb : t b = some (.inl 0)) (hC : Ct l E n0 mt_LR_expression d 1 6 [.ref b, .int a1] nx t r i g (qX xNE nx t r i g)) : Cw l E n0 mt_Law_expression (d + 1) 1 6 [.ref b, .int a1, .ref oa] nx t r i g (wq_x 1 nx t r i g) := by
  refine Cw.of (by decide) (Nat.le_of_ble_eq_true rfl) cw_expression ?_
  have hH : wl_H mt_Law_expression.1 = [(0, 9, 12, 19), (0, 9, 15, 13)] := by decide +kernel
  refine wf_aload_n dc_Law_expression_0 rfl ?_
  refine wf_iconst 0 dc_Law_expression_1 (by decide) ?_
  refine wf_aload_n dc_Law_expression_2 rfl ?_
  refine wf_iload_n dc_Law_expression_3 rfl ?_
  refine wf_ivt (st := [.int 0, .ref oa]) (As := [.int a1]) (M' := mt_LR_expression) (c := 0) (bk' := 0) (bn' := 0) (hp := 12) dc_Law_expression_4 tg_LR_expression ml_Law_15 im_LR_expression se_LR_expression ⟨_, rfl, rfl⟩ hb (Nat.le_of_ble_eq_true rfl) (by omega) (by omega) (by rw [hH]; exact ⟨by decide, by decide, by decide, Or.inl ⟨rfl, lk_19⟩⟩) hC (fun a => ?_)
  refine wf_astore_n dc_Law_expression_12 (by decide) ?_
  refine wf_iconst 1 dc_Law_expression_13 (by decide) ?_
  exact wf_ireturn rfl dc_Law_expression_14 ⟨rfl, rfl, rfl, rfl, rfl, rfl⟩
theorem x_expression_2 {a1 : Int32} (hb : t b = some (.inl 0)) (hC : Ct l E n0 mt_LR_expression d 1 6 [.ref b, .int a1] nx t r i g (qX xSE nx t r i g)) : Cw l E n0 mt_Law_expression (d + 1) 1 6 [.ref b, .int a1, .ref oa] nx t r i g (wq_x 2 nx t r i g) := by
  refine Cw.of (by decide) (Nat.le_of_ble_eq_true rfl) cw_expression ?_
  have hH : wl_H mt_Law_expression.1 = [(0, 9, 12, 19), (0, 9, 15, 13)] := by decide +kernel
  refine wf_aload_n dc_Law_expression_0 rfl ?_
  refine wf_iconst 0 dc_Law_expression_1 (by decide) ?_
  refine wf_aload_n dc_Law_expression_2 rfl ?_
  refine wf_iload_n dc_Law_expression_3 rfl ?_
  refine wf_ivt (st := [.int 0, .ref oa]) (As := [.int a1]) (M' := mt_LR_expression) (c := 0) (bk' := 0) (bn' := 0) (hp := 15) dc_Law_expression_4 tg_LR_expression ml_Law_15 im_LR_expression se_LR_expression ⟨_, rfl, rfl⟩ hb (Nat.le_of_ble_eq_true rfl) (by omega) (by omega) (by rw [hH]; exact ⟨by decide, by decide, by decide, Or.inr ⟨xNE, lk_19, nc_19, by decide, by decide, by decide, Or.inl ⟨rfl, lk_13⟩⟩⟩) hC (fun a => ?_)
  refine wf_astore_n dc_Law_expression_15 (by decide) ?_
  refine wf_iconst 2 dc_Law_expression_16 (by decide) ?_
  exact wf_ireturn rfl dc_Law_expression_17 ⟨rfl, rfl, rfl, rfl, rfl, rfl⟩
theorem cw_text : Cond.codeWith mt_Law_text.1 mt_Law_text.2.1 mt_Law_text.2.2.1 mt_Law_text.2.2.2 (wl_H mt_Law_text.1) ∈ wl_ALL := wl_mem 712 (by decide +kernel) rfl
theorem ws_text : Cond.static mt_Law_text.1 ∈ wl_ALL := wl_mem 711 (by decide +kernel) rfl
theorem wt_text : wc_tg mt_Law_text 3 := ⟨cw_text, wl_mem 63 (by decide +kernel) rfl, by decide, by decide +kernel, by decide⟩
theorem u_text {Q' : Wq} {a1 : Int32} (hb : t b = some (.inl 0)) (hC : Ct l E n0 mt_LR_text d 1 6 [.ref b, .int a1] nx t r i g Q') (hv : wv_ok oa Q') : Cw l E n0 mt_Law_text (d + 1) 1 6 [.ref b, .int a1, .ref oa] nx t r i g (wq_ok oa Q') := by
  refine Cw.of (by decide) (Nat.le_of_ble_eq_true rfl) cw_text ?_
  refine wf_aload_n dc_Law_text_0 rfl ?_
  refine wf_iconst 0 dc_Law_text_1 (by decide) ?_
  refine wf_aload_n dc_Law_text_2 rfl ?_
  refine wf_iload_n dc_Law_text_3 rfl ?_
  refine wf_iv (st := [.int 0, .ref oa]) (As := [.int a1]) (M' := mt_LR_text) (c := 0) (bk' := 0) (bn' := 0) dc_Law_text_4 tg_LR_text ml_Law_21 im_LR_text se_LR_text ⟨_, rfl, rfl⟩ hb (Nat.le_of_ble_eq_true rfl) (by omega) (by omega) hC hv.1 ?_
  intro v nx' t' r' i' g' hq
  obtain ⟨⟨z, rfl⟩, ht⟩ := hv.2 _ _ _ _ _ _ hq
  refine wf_i2l dc_Law_text_7 ?_
  refine wf_lastore (y := 2) dc_Law_text_8 rfl (by decide) (by assumption) (vp_in_nI (n := 0) (by omega) (by omega)) ?_
  refine wf_goto 15 dc_Law_text_9 (by decide) ?_
  refine wf_iconst 0 dc_Law_text_15 (by decide) ?_
  exact wf_ireturn rfl dc_Law_text_16 ⟨z, g', rfl, hq, rfl⟩
theorem x_text_1 {a1 : Int32} (hb : t b = some (.inl 0)) (hC : Ct l E n0 mt_LR_text d 1 6 [.ref b, .int a1] nx t r i g (qX xNE nx t r i g)) : Cw l E n0 mt_Law_text (d + 1) 1 6 [.ref b, .int a1, .ref oa] nx t r i g (wq_x 1 nx t r i g) := by
  refine Cw.of (by decide) (Nat.le_of_ble_eq_true rfl) cw_text ?_
  have hH : wl_H mt_Law_text.1 = [(0, 9, 12, 19)] := by decide +kernel
  refine wf_aload_n dc_Law_text_0 rfl ?_
  refine wf_iconst 0 dc_Law_text_1 (by decide) ?_
  refine wf_aload_n dc_Law_text_2 rfl ?_
  refine wf_iload_n dc_Law_text_3 rfl ?_
  refine wf_ivt (st := [.int 0, .ref oa]) (As := [.int a1]) (M' := mt_LR_text) (c := 0) (bk' := 0) (bn' := 0) (hp := 12) dc_Law_text_4 tg_LR_text ml_Law_21 im_LR_text se_LR_text ⟨_, rfl, rfl⟩ hb (Nat.le_of_ble_eq_true rfl) (by omega) (by omega) (by rw [hH]; exact ⟨by decide, by decide, by decide, Or.inl ⟨rfl, lk_19⟩⟩) hC (fun a => ?_)
  refine wf_astore_n dc_Law_text_12 (by decide) ?_
  refine wf_iconst 1 dc_Law_text_13 (by decide) ?_
  exact wf_ireturn rfl dc_Law_text_14 ⟨rfl, rfl, rfl, rfl, rfl, rfl⟩
theorem cw_separator : Cond.codeWith mt_Law_separator.1 mt_Law_separator.2.1 mt_Law_separator.2.2.1 mt_Law_separator.2.2.2 (wl_H mt_Law_separator.1) ∈ wl_ALL := wl_mem 725 (by decide +kernel) rfl
theorem ws_separator : Cond.static mt_Law_separator.1 ∈ wl_ALL := wl_mem 724 (by decide +kernel) rfl
theorem wt_separator : wc_tg mt_Law_separator 3 := ⟨cw_separator, wl_mem 63 (by decide +kernel) rfl, by decide, by decide +kernel, by decide⟩
theorem u_separator {Q' : Wq} {a1 : Int32} (hb : t b = some (.inl 0)) (hC : Ct l E n0 mt_LR_separator d 1 6 [.ref b, .int a1] nx t r i g Q') (hv : wv_ok oa Q') : Cw l E n0 mt_Law_separator (d + 1) 1 6 [.ref b, .int a1, .ref oa] nx t r i g (wq_ok oa Q') := by
  refine Cw.of (by decide) (Nat.le_of_ble_eq_true rfl) cw_separator ?_
  refine wf_aload_n dc_Law_separator_0 rfl ?_
  refine wf_iconst 0 dc_Law_separator_1 (by decide) ?_
  refine wf_aload_n dc_Law_separator_2 rfl ?_
  refine wf_iload_n dc_Law_separator_3 rfl ?_
  refine wf_iv (st := [.int 0, .ref oa]) (As := [.int a1]) (M' := mt_LR_separator) (c := 0) (bk' := 0) (bn' := 0) dc_Law_separator_4 tg_LR_separator ml_Law_24 im_LR_separator se_LR_separator ⟨_, rfl, rfl⟩ hb (Nat.le_of_ble_eq_true rfl) (by omega) (by omega) hC hv.1 ?_
  intro v nx' t' r' i' g' hq
  obtain ⟨⟨z, rfl⟩, ht⟩ := hv.2 _ _ _ _ _ _ hq
  refine wf_i2l dc_Law_separator_7 ?_
  refine wf_lastore (y := 2) dc_Law_separator_8 rfl (by decide) (by assumption) (vp_in_nI (n := 0) (by omega) (by omega)) ?_
  refine wf_goto 15 dc_Law_separator_9 (by decide) ?_
  refine wf_iconst 0 dc_Law_separator_15 (by decide) ?_
  exact wf_ireturn rfl dc_Law_separator_16 ⟨z, g', rfl, hq, rfl⟩
theorem x_separator_1 {a1 : Int32} (hb : t b = some (.inl 0)) (hC : Ct l E n0 mt_LR_separator d 1 6 [.ref b, .int a1] nx t r i g (qX xAE nx t r i g)) : Cw l E n0 mt_Law_separator (d + 1) 1 6 [.ref b, .int a1, .ref oa] nx t r i g (wq_x 1 nx t r i g) := by
  refine Cw.of (by decide) (Nat.le_of_ble_eq_true rfl) cw_separator ?_
  have hH : wl_H mt_Law_separator.1 = [(0, 9, 12, 27)] := by decide +kernel
  refine wf_aload_n dc_Law_separator_0 rfl ?_
  refine wf_iconst 0 dc_Law_separator_1 (by decide) ?_
  refine wf_aload_n dc_Law_separator_2 rfl ?_
  refine wf_iload_n dc_Law_separator_3 rfl ?_
  refine wf_ivt (st := [.int 0, .ref oa]) (As := [.int a1]) (M' := mt_LR_separator) (c := 0) (bk' := 0) (bn' := 0) (hp := 12) dc_Law_separator_4 tg_LR_separator ml_Law_24 im_LR_separator se_LR_separator ⟨_, rfl, rfl⟩ hb (Nat.le_of_ble_eq_true rfl) (by omega) (by omega) (by rw [hH]; exact ⟨by decide, by decide, by decide, Or.inl ⟨rfl, lk_27⟩⟩) hC (fun a => ?_)
  refine wf_astore_n dc_Law_separator_12 (by decide) ?_
  refine wf_iconst 1 dc_Law_separator_13 (by decide) ?_
  exact wf_ireturn rfl dc_Law_separator_14 ⟨rfl, rfl, rfl, rfl, rfl, rfl⟩
theorem cw_rule : Cond.codeWith mt_Law_rule.1 mt_Law_rule.2.1 mt_Law_rule.2.2.1 mt_Law_rule.2.2.2 (wl_H mt_Law_rule.1) ∈ wl_ALL := wl_mem 749 (by decide +kernel) rfl
theorem ws_rule : Cond.static mt_Law_rule.1 ∈ wl_ALL := wl_mem 748 (by decide +kernel) rfl
theorem wt_rule : wc_tg mt_Law_rule 5 := ⟨cw_rule, wl_mem 63 (by decide +kernel) rfl, by decide, by decide +kernel, by decide⟩
theorem u_rule {Q' : Wq} {a1 a2 a3 : Int32} (hb : t b = some (.inl 0)) (hC : Ct l E n0 mt_LR_rule d 1 6 [.ref b, .int a1, .int a2, .int a3] nx t r i g Q') (hv : wv_ok oa Q') : Cw l E n0 mt_Law_rule (d + 1) 1 6 [.ref b, .int a1, .int a2, .int a3, .ref oa] nx t r i g (wq_ok oa Q') := by
  refine Cw.of (by decide) (Nat.le_of_ble_eq_true rfl) cw_rule ?_
  refine wf_aload dc_Law_rule_0 rfl ?_
  refine wf_iconst 0 dc_Law_rule_2 (by decide) ?_
  refine wf_aload_n dc_Law_rule_3 rfl ?_
  refine wf_iload_n dc_Law_rule_4 rfl ?_
  refine wf_iload_n dc_Law_rule_5 rfl ?_
  refine wf_iload_n dc_Law_rule_6 rfl ?_
  refine wf_iv (st := [.int 0, .ref oa]) (As := [.int a1, .int a2, .int a3]) (M' := mt_LR_rule) (c := 0) (bk' := 0) (bn' := 0) dc_Law_rule_7 tg_LR_rule ml_Law_29 im_LR_rule se_LR_rule ⟨_, rfl, rfl⟩ hb (Nat.le_of_ble_eq_true rfl) (by omega) (by omega) hC hv.1 ?_
  intro v nx' t' r' i' g' hq
  obtain ⟨⟨z, rfl⟩, ht⟩ := hv.2 _ _ _ _ _ _ hq
  refine wf_i2l dc_Law_rule_10 ?_
  refine wf_lastore (y := 2) dc_Law_rule_11 rfl (by decide) (by assumption) (vp_in_nI (n := 0) (by omega) (by omega)) ?_
  refine wf_goto 23 dc_Law_rule_12 (by decide) ?_
  refine wf_iconst 0 dc_Law_rule_23 (by decide) ?_
  exact wf_ireturn rfl dc_Law_rule_24 ⟨z, g', rfl, hq, rfl⟩
theorem x_rule_1 {a1 a2 a3 : Int32} (hb : t b = some (.inl 0)) (hC : Ct l E n0 mt_LR_rule d 1 6 [.ref b, .int a1, .int a2, .int a3] nx t r i g (qX xNE nx t r i g)) : Cw l E n0 mt_Law_rule (d + 1) 1 6 [.ref b, .int a1, .int a2, .int a3, .ref oa] nx t r i g (wq_x 1 nx t r i g) := by
  refine Cw.of (by decide) (Nat.le_of_ble_eq_true rfl) cw_rule ?_
  have hH : wl_H mt_Law_rule.1 = [(0, 12, 15, 19), (0, 12, 19, 13)] := by decide +kernel
  refine wf_aload dc_Law_rule_0 rfl ?_
  refine wf_iconst 0 dc_Law_rule_2 (by decide) ?_
  refine wf_aload_n dc_Law_rule_3 rfl ?_
  refine wf_iload_n dc_Law_rule_4 rfl ?_
  refine wf_iload_n dc_Law_rule_5 rfl ?_
  refine wf_iload_n dc_Law_rule_6 rfl ?_
  refine wf_ivt (st := [.int 0, .ref oa]) (As := [.int a1, .int a2, .int a3]) (M' := mt_LR_rule) (c := 0) (bk' := 0) (bn' := 0) (hp := 15) dc_Law_rule_7 tg_LR_rule ml_Law_29 im_LR_rule se_LR_rule ⟨_, rfl, rfl⟩ hb (Nat.le_of_ble_eq_true rfl) (by omega) (by omega) (by rw [hH]; exact ⟨by decide, by decide, by decide, Or.inl ⟨rfl, lk_19⟩⟩) hC (fun a => ?_)
  refine wf_astore dc_Law_rule_15 (by decide) ?_
  refine wf_iconst 1 dc_Law_rule_17 (by decide) ?_
  exact wf_ireturn rfl dc_Law_rule_18 ⟨rfl, rfl, rfl, rfl, rfl, rfl⟩
theorem x_rule_2 {a1 a2 a3 : Int32} (hb : t b = some (.inl 0)) (hC : Ct l E n0 mt_LR_rule d 1 6 [.ref b, .int a1, .int a2, .int a3] nx t r i g (qX xSE nx t r i g)) : Cw l E n0 mt_Law_rule (d + 1) 1 6 [.ref b, .int a1, .int a2, .int a3, .ref oa] nx t r i g (wq_x 2 nx t r i g) := by
  refine Cw.of (by decide) (Nat.le_of_ble_eq_true rfl) cw_rule ?_
  have hH : wl_H mt_Law_rule.1 = [(0, 12, 15, 19), (0, 12, 19, 13)] := by decide +kernel
  refine wf_aload dc_Law_rule_0 rfl ?_
  refine wf_iconst 0 dc_Law_rule_2 (by decide) ?_
  refine wf_aload_n dc_Law_rule_3 rfl ?_
  refine wf_iload_n dc_Law_rule_4 rfl ?_
  refine wf_iload_n dc_Law_rule_5 rfl ?_
  refine wf_iload_n dc_Law_rule_6 rfl ?_
  refine wf_ivt (st := [.int 0, .ref oa]) (As := [.int a1, .int a2, .int a3]) (M' := mt_LR_rule) (c := 0) (bk' := 0) (bn' := 0) (hp := 19) dc_Law_rule_7 tg_LR_rule ml_Law_29 im_LR_rule se_LR_rule ⟨_, rfl, rfl⟩ hb (Nat.le_of_ble_eq_true rfl) (by omega) (by omega) (by rw [hH]; exact ⟨by decide, by decide, by decide, Or.inr ⟨xNE, lk_19, nc_19, by decide, by decide, by decide, Or.inl ⟨rfl, lk_13⟩⟩⟩) hC (fun a => ?_)
  refine wf_astore dc_Law_rule_19 (by decide) ?_
  refine wf_iconst 2 dc_Law_rule_21 (by decide) ?_
  exact wf_ireturn rfl dc_Law_rule_22 ⟨rfl, rfl, rfl, rfl, rfl, rfl⟩
theorem cw_action : Cond.codeWith mt_Law_action.1 mt_Law_action.2.1 mt_Law_action.2.2.1 mt_Law_action.2.2.2 (wl_H mt_Law_action.1) ∈ wl_ALL := wl_mem 768 (by decide +kernel) rfl
theorem ws_action : Cond.static mt_Law_action.1 ∈ wl_ALL := wl_mem 767 (by decide +kernel) rfl
theorem wt_action : wc_tg mt_Law_action 6 := ⟨cw_action, wl_mem 63 (by decide +kernel) rfl, by decide, by decide +kernel, by decide⟩
theorem u_action {Q' : Wq} {a1 a2 a3 a4 : Int32} (hb : t b = some (.inl 0)) (hC : Ct l E n0 mt_LR_action d 1 6 [.ref b, .int a1, .int a2, .int a3, .int a4] nx t r i g Q') (hv : wv_ok oa Q') : Cw l E n0 mt_Law_action (d + 1) 1 6 [.ref b, .int a1, .int a2, .int a3, .int a4, .ref oa] nx t r i g (wq_ok oa Q') := by
  refine Cw.of (by decide) (Nat.le_of_ble_eq_true rfl) cw_action ?_
  refine wf_aload dc_Law_action_0 rfl ?_
  refine wf_iconst 0 dc_Law_action_2 (by decide) ?_
  refine wf_aload_n dc_Law_action_3 rfl ?_
  refine wf_iload_n dc_Law_action_4 rfl ?_
  refine wf_iload_n dc_Law_action_5 rfl ?_
  refine wf_iload_n dc_Law_action_6 rfl ?_
  refine wf_iload dc_Law_action_7 rfl ?_
  refine wf_iv (st := [.int 0, .ref oa]) (As := [.int a1, .int a2, .int a3, .int a4]) (M' := mt_LR_action) (c := 0) (bk' := 0) (bn' := 0) dc_Law_action_9 tg_LR_action ml_Law_33 im_LR_action se_LR_action ⟨_, rfl, rfl⟩ hb (Nat.le_of_ble_eq_true rfl) (by omega) (by omega) hC hv.1 ?_
  intro v nx' t' r' i' g' hq
  obtain ⟨⟨z, rfl⟩, ht⟩ := hv.2 _ _ _ _ _ _ hq
  refine wf_i2l dc_Law_action_12 ?_
  refine wf_lastore (y := 2) dc_Law_action_13 rfl (by decide) (by assumption) (vp_in_nI (n := 0) (by omega) (by omega)) ?_
  refine wf_goto 25 dc_Law_action_14 (by decide) ?_
  refine wf_iconst 0 dc_Law_action_25 (by decide) ?_
  exact wf_ireturn rfl dc_Law_action_26 ⟨z, g', rfl, hq, rfl⟩
theorem x_action_1 {a1 a2 a3 a4 : Int32} (hb : t b = some (.inl 0)) (hC : Ct l E n0 mt_LR_action d 1 6 [.ref b, .int a1, .int a2, .int a3, .int a4] nx t r i g (qX xNE nx t r i g)) : Cw l E n0 mt_Law_action (d + 1) 1 6 [.ref b, .int a1, .int a2, .int a3, .int a4, .ref oa] nx t r i g (wq_x 1 nx t r i g) := by
  refine Cw.of (by decide) (Nat.le_of_ble_eq_true rfl) cw_action ?_
  have hH : wl_H mt_Law_action.1 = [(0, 14, 17, 19), (0, 14, 21, 13)] := by decide +kernel
  refine wf_aload dc_Law_action_0 rfl ?_
  refine wf_iconst 0 dc_Law_action_2 (by decide) ?_
  refine wf_aload_n dc_Law_action_3 rfl ?_
  refine wf_iload_n dc_Law_action_4 rfl ?_
  refine wf_iload_n dc_Law_action_5 rfl ?_
  refine wf_iload_n dc_Law_action_6 rfl ?_
  refine wf_iload dc_Law_action_7 rfl ?_
  refine wf_ivt (st := [.int 0, .ref oa]) (As := [.int a1, .int a2, .int a3, .int a4]) (M' := mt_LR_action) (c := 0) (bk' := 0) (bn' := 0) (hp := 17) dc_Law_action_9 tg_LR_action ml_Law_33 im_LR_action se_LR_action ⟨_, rfl, rfl⟩ hb (Nat.le_of_ble_eq_true rfl) (by omega) (by omega) (by rw [hH]; exact ⟨by decide, by decide, by decide, Or.inl ⟨rfl, lk_19⟩⟩) hC (fun a => ?_)
  refine wf_astore dc_Law_action_17 (by decide) ?_
  refine wf_iconst 1 dc_Law_action_19 (by decide) ?_
  exact wf_ireturn rfl dc_Law_action_20 ⟨rfl, rfl, rfl, rfl, rfl, rfl⟩
theorem x_action_2 {a1 a2 a3 a4 : Int32} (hb : t b = some (.inl 0)) (hC : Ct l E n0 mt_LR_action d 1 6 [.ref b, .int a1, .int a2, .int a3, .int a4] nx t r i g (qX xSE nx t r i g)) : Cw l E n0 mt_Law_action (d + 1) 1 6 [.ref b, .int a1, .int a2, .int a3, .int a4, .ref oa] nx t r i g (wq_x 2 nx t r i g) := by
  refine Cw.of (by decide) (Nat.le_of_ble_eq_true rfl) cw_action ?_
  have hH : wl_H mt_Law_action.1 = [(0, 14, 17, 19), (0, 14, 21, 13)] := by decide +kernel
  refine wf_aload dc_Law_action_0 rfl ?_
  refine wf_iconst 0 dc_Law_action_2 (by decide) ?_
  refine wf_aload_n dc_Law_action_3 rfl ?_
  refine wf_iload_n dc_Law_action_4 rfl ?_
  refine wf_iload_n dc_Law_action_5 rfl ?_
  refine wf_iload_n dc_Law_action_6 rfl ?_
  refine wf_iload dc_Law_action_7 rfl ?_
  refine wf_ivt (st := [.int 0, .ref oa]) (As := [.int a1, .int a2, .int a3, .int a4]) (M' := mt_LR_action) (c := 0) (bk' := 0) (bn' := 0) (hp := 21) dc_Law_action_9 tg_LR_action ml_Law_33 im_LR_action se_LR_action ⟨_, rfl, rfl⟩ hb (Nat.le_of_ble_eq_true rfl) (by omega) (by omega) (by rw [hH]; exact ⟨by decide, by decide, by decide, Or.inr ⟨xNE, lk_19, nc_19, by decide, by decide, by decide, Or.inl ⟨rfl, lk_13⟩⟩⟩) hC (fun a => ?_)
  refine wf_astore dc_Law_action_21 (by decide) ?_
  refine wf_iconst 2 dc_Law_action_23 (by decide) ?_
  exact wf_ireturn rfl dc_Law_action_24 ⟨rfl, rfl, rfl, rfl, rfl, rfl⟩
theorem cw_find : Cond.codeWith mt_Law_find.1 mt_Law_find.2.1 mt_Law_find.2.2.1 mt_Law_find.2.2.2 (wl_H mt_Law_find.1) ∈ wl_ALL := wl_mem 792 (by decide +kernel) rfl
theorem ws_find : Cond.static mt_Law_find.1 ∈ wl_ALL := wl_mem 791 (by decide +kernel) rfl
theorem wt_find : wc_tg mt_Law_find 4 := ⟨cw_find, wl_mem 63 (by decide +kernel) rfl, by decide, by decide +kernel, by decide⟩
theorem u_find {Q' : Wq} {a1 a2 : Int32} (hb : t b = some (.inl 0)) (hC : Ct l E n0 mt_LR_find d 1 6 [.ref b, .int a1, .int a2] nx t r i g Q') (hv : wv_ok oa Q') : Cw l E n0 mt_Law_find (d + 1) 1 6 [.ref b, .int a1, .int a2, .ref oa] nx t r i g (wq_ok oa Q') := by
  refine Cw.of (by decide) (Nat.le_of_ble_eq_true rfl) cw_find ?_
  refine wf_aload_n dc_Law_find_0 rfl ?_
  refine wf_iconst 0 dc_Law_find_1 (by decide) ?_
  refine wf_aload_n dc_Law_find_2 rfl ?_
  refine wf_iload_n dc_Law_find_3 rfl ?_
  refine wf_iload_n dc_Law_find_4 rfl ?_
  refine wf_iv (st := [.int 0, .ref oa]) (As := [.int a1, .int a2]) (M' := mt_LR_find) (c := 0) (bk' := 0) (bn' := 0) dc_Law_find_5 tg_LR_find ml_Law_37 im_LR_find se_LR_find ⟨_, rfl, rfl⟩ hb (Nat.le_of_ble_eq_true rfl) (by omega) (by omega) hC hv.1 ?_
  intro v nx' t' r' i' g' hq
  obtain ⟨⟨z, rfl⟩, ht⟩ := hv.2 _ _ _ _ _ _ hq
  refine wf_i2l dc_Law_find_8 ?_
  refine wf_lastore (y := 2) dc_Law_find_9 rfl (by decide) (by assumption) (vp_in_nI (n := 0) (by omega) (by omega)) ?_
  refine wf_goto 17 dc_Law_find_10 (by decide) ?_
  refine wf_iconst 0 dc_Law_find_17 (by decide) ?_
  exact wf_ireturn rfl dc_Law_find_18 ⟨z, g', rfl, hq, rfl⟩
theorem x_find_1 {a1 a2 : Int32} (hb : t b = some (.inl 0)) (hC : Ct l E n0 mt_LR_find d 1 6 [.ref b, .int a1, .int a2] nx t r i g (qX xNE nx t r i g)) : Cw l E n0 mt_Law_find (d + 1) 1 6 [.ref b, .int a1, .int a2, .ref oa] nx t r i g (wq_x 1 nx t r i g) := by
  refine Cw.of (by decide) (Nat.le_of_ble_eq_true rfl) cw_find ?_
  have hH : wl_H mt_Law_find.1 = [(0, 10, 13, 19)] := by decide +kernel
  refine wf_aload_n dc_Law_find_0 rfl ?_
  refine wf_iconst 0 dc_Law_find_1 (by decide) ?_
  refine wf_aload_n dc_Law_find_2 rfl ?_
  refine wf_iload_n dc_Law_find_3 rfl ?_
  refine wf_iload_n dc_Law_find_4 rfl ?_
  refine wf_ivt (st := [.int 0, .ref oa]) (As := [.int a1, .int a2]) (M' := mt_LR_find) (c := 0) (bk' := 0) (bn' := 0) (hp := 13) dc_Law_find_5 tg_LR_find ml_Law_37 im_LR_find se_LR_find ⟨_, rfl, rfl⟩ hb (Nat.le_of_ble_eq_true rfl) (by omega) (by omega) (by rw [hH]; exact ⟨by decide, by decide, by decide, Or.inl ⟨rfl, lk_19⟩⟩) hC (fun a => ?_)
  refine wf_astore dc_Law_find_13 (by decide) ?_
  refine wf_iconst 1 dc_Law_find_15 (by decide) ?_
  exact wf_ireturn rfl dc_Law_find_16 ⟨rfl, rfl, rfl, rfl, rfl, rfl⟩
theorem cw_sign : Cond.codeWith mt_Law_sign.1 mt_Law_sign.2.1 mt_Law_sign.2.2.1 mt_Law_sign.2.2.2 (wl_H mt_Law_sign.1) ∈ wl_ALL := wl_mem 800 (by decide +kernel) rfl
theorem ws_sign : Cond.static mt_Law_sign.1 ∈ wl_ALL := wl_mem 799 (by decide +kernel) rfl
theorem wt_sign : wc_tg mt_Law_sign 4 := ⟨cw_sign, wl_mem 63 (by decide +kernel) rfl, by decide, by decide +kernel, by decide⟩
theorem u_sign {Q' : Wq} {a1 a2 : Int32} (hb : t b = some (.inl 0)) (hC : Ct l E n0 mt_LR_sign d 1 6 [.ref b, .int a1, .int a2] nx t r i g Q') (hv : wv_ok oa Q') : Cw l E n0 mt_Law_sign (d + 1) 1 6 [.ref b, .int a1, .int a2, .ref oa] nx t r i g (wq_ok oa Q') := by
  refine Cw.of (by decide) (Nat.le_of_ble_eq_true rfl) cw_sign ?_
  refine wf_aload_n dc_Law_sign_0 rfl ?_
  refine wf_iconst 0 dc_Law_sign_1 (by decide) ?_
  refine wf_aload_n dc_Law_sign_2 rfl ?_
  refine wf_iload_n dc_Law_sign_3 rfl ?_
  refine wf_iload_n dc_Law_sign_4 rfl ?_
  refine wf_iv (st := [.int 0, .ref oa]) (As := [.int a1, .int a2]) (M' := mt_LR_sign) (c := 0) (bk' := 0) (bn' := 0) dc_Law_sign_5 tg_LR_sign ml_Law_41 im_LR_sign se_LR_sign ⟨_, rfl, rfl⟩ hb (Nat.le_of_ble_eq_true rfl) (by omega) (by omega) hC hv.1 ?_
  intro v nx' t' r' i' g' hq
  obtain ⟨⟨z, rfl⟩, ht⟩ := hv.2 _ _ _ _ _ _ hq
  refine wf_i2l dc_Law_sign_8 ?_
  refine wf_lastore (y := 2) dc_Law_sign_9 rfl (by decide) (by assumption) (vp_in_nI (n := 0) (by omega) (by omega)) ?_
  refine wf_goto 17 dc_Law_sign_10 (by decide) ?_
  refine wf_iconst 0 dc_Law_sign_17 (by decide) ?_
  exact wf_ireturn rfl dc_Law_sign_18 ⟨z, g', rfl, hq, rfl⟩
theorem x_sign_1 {a1 a2 : Int32} (hb : t b = some (.inl 0)) (hC : Ct l E n0 mt_LR_sign d 1 6 [.ref b, .int a1, .int a2] nx t r i g (qX xNE nx t r i g)) : Cw l E n0 mt_Law_sign (d + 1) 1 6 [.ref b, .int a1, .int a2, .ref oa] nx t r i g (wq_x 1 nx t r i g) := by
  refine Cw.of (by decide) (Nat.le_of_ble_eq_true rfl) cw_sign ?_
  have hH : wl_H mt_Law_sign.1 = [(0, 10, 13, 19)] := by decide +kernel
  refine wf_aload_n dc_Law_sign_0 rfl ?_
  refine wf_iconst 0 dc_Law_sign_1 (by decide) ?_
  refine wf_aload_n dc_Law_sign_2 rfl ?_
  refine wf_iload_n dc_Law_sign_3 rfl ?_
  refine wf_iload_n dc_Law_sign_4 rfl ?_
  refine wf_ivt (st := [.int 0, .ref oa]) (As := [.int a1, .int a2]) (M' := mt_LR_sign) (c := 0) (bk' := 0) (bn' := 0) (hp := 13) dc_Law_sign_5 tg_LR_sign ml_Law_41 im_LR_sign se_LR_sign ⟨_, rfl, rfl⟩ hb (Nat.le_of_ble_eq_true rfl) (by omega) (by omega) (by rw [hH]; exact ⟨by decide, by decide, by decide, Or.inl ⟨rfl, lk_19⟩⟩) hC (fun a => ?_)
  refine wf_astore dc_Law_sign_13 (by decide) ?_
  refine wf_iconst 1 dc_Law_sign_15 (by decide) ?_
  exact wf_ireturn rfl dc_Law_sign_16 ⟨rfl, rfl, rfl, rfl, rfl, rfl⟩
theorem cw_printed : Cond.codeWith mt_Law_printed.1 mt_Law_printed.2.1 mt_Law_printed.2.2.1 mt_Law_printed.2.2.2 (wl_H mt_Law_printed.1) ∈ wl_ALL := wl_mem 813 (by decide +kernel) rfl
theorem ws_printed : Cond.static mt_Law_printed.1 ∈ wl_ALL := wl_mem 812 (by decide +kernel) rfl
theorem wt_printed : wc_tg mt_Law_printed 3 := ⟨cw_printed, wl_mem 63 (by decide +kernel) rfl, by decide, by decide +kernel, by decide⟩
theorem u_printed {Q' : Wq} {a1 : Int32} (hb : t b = some (.inl 0)) (hC : Ct l E n0 mt_LR_printed d 1 6 [.ref b, .int a1] nx t r i g Q') (hv : wv_ok oa Q') : Cw l E n0 mt_Law_printed (d + 1) 1 6 [.ref b, .int a1, .ref oa] nx t r i g (wq_ok oa Q') := by
  refine Cw.of (by decide) (Nat.le_of_ble_eq_true rfl) cw_printed ?_
  refine wf_aload_n dc_Law_printed_0 rfl ?_
  refine wf_iconst 0 dc_Law_printed_1 (by decide) ?_
  refine wf_aload_n dc_Law_printed_2 rfl ?_
  refine wf_iload_n dc_Law_printed_3 rfl ?_
  refine wf_iv (st := [.int 0, .ref oa]) (As := [.int a1]) (M' := mt_LR_printed) (c := 0) (bk' := 0) (bn' := 0) dc_Law_printed_4 tg_LR_printed ml_Law_44 im_LR_printed se_LR_printed ⟨_, rfl, rfl⟩ hb (Nat.le_of_ble_eq_true rfl) (by omega) (by omega) hC hv.1 ?_
  intro v nx' t' r' i' g' hq
  obtain ⟨⟨z, rfl⟩, ht⟩ := hv.2 _ _ _ _ _ _ hq
  refine wf_i2l dc_Law_printed_7 ?_
  refine wf_lastore (y := 2) dc_Law_printed_8 rfl (by decide) (by assumption) (vp_in_nI (n := 0) (by omega) (by omega)) ?_
  refine wf_goto 15 dc_Law_printed_9 (by decide) ?_
  refine wf_iconst 0 dc_Law_printed_15 (by decide) ?_
  exact wf_ireturn rfl dc_Law_printed_16 ⟨z, g', rfl, hq, rfl⟩
theorem x_printed_1 {a1 : Int32} (hb : t b = some (.inl 0)) (hC : Ct l E n0 mt_LR_printed d 1 6 [.ref b, .int a1] nx t r i g (qX xNE nx t r i g)) : Cw l E n0 mt_Law_printed (d + 1) 1 6 [.ref b, .int a1, .ref oa] nx t r i g (wq_x 1 nx t r i g) := by
  refine Cw.of (by decide) (Nat.le_of_ble_eq_true rfl) cw_printed ?_
  have hH : wl_H mt_Law_printed.1 = [(0, 9, 12, 19)] := by decide +kernel
  refine wf_aload_n dc_Law_printed_0 rfl ?_
  refine wf_iconst 0 dc_Law_printed_1 (by decide) ?_
  refine wf_aload_n dc_Law_printed_2 rfl ?_
  refine wf_iload_n dc_Law_printed_3 rfl ?_
  refine wf_ivt (st := [.int 0, .ref oa]) (As := [.int a1]) (M' := mt_LR_printed) (c := 0) (bk' := 0) (bn' := 0) (hp := 12) dc_Law_printed_4 tg_LR_printed ml_Law_44 im_LR_printed se_LR_printed ⟨_, rfl, rfl⟩ hb (Nat.le_of_ble_eq_true rfl) (by omega) (by omega) (by rw [hH]; exact ⟨by decide, by decide, by decide, Or.inl ⟨rfl, lk_19⟩⟩) hC (fun a => ?_)
  refine wf_astore_n dc_Law_printed_12 (by decide) ?_
  refine wf_iconst 1 dc_Law_printed_13 (by decide) ?_
  exact wf_ireturn rfl dc_Law_printed_14 ⟨rfl, rfl, rfl, rfl, rfl, rfl⟩
theorem cw_counter : Cond.codeWith mt_Law_counter.1 mt_Law_counter.2.1 mt_Law_counter.2.2.1 mt_Law_counter.2.2.2 (wl_H mt_Law_counter.1) ∈ wl_ALL := wl_mem 829 (by decide +kernel) rfl
theorem ws_counter : Cond.static mt_Law_counter.1 ∈ wl_ALL := wl_mem 828 (by decide +kernel) rfl
theorem wt_counter : wc_tg mt_Law_counter 3 := ⟨cw_counter, wl_mem 63 (by decide +kernel) rfl, by decide, by decide +kernel, by decide⟩
theorem u_counter {Q' : Wq} {a1 : Int32} (hb : t b = some (.inl 0)) (hC : Ct l E n0 mt_LR_counter d 1 6 [.ref b, .int a1] nx t r i g Q') (hv : wv_ok oa Q') : Cw l E n0 mt_Law_counter (d + 1) 1 6 [.ref b, .int a1, .ref oa] nx t r i g (wq_ok oa Q') := by
  refine Cw.of (by decide) (Nat.le_of_ble_eq_true rfl) cw_counter ?_
  refine wf_aload_n dc_Law_counter_0 rfl ?_
  refine wf_iconst 0 dc_Law_counter_1 (by decide) ?_
  refine wf_aload_n dc_Law_counter_2 rfl ?_
  refine wf_iload_n dc_Law_counter_3 rfl ?_
  refine wf_iv (st := [.int 0, .ref oa]) (As := [.int a1]) (M' := mt_LR_counter) (c := 0) (bk' := 0) (bn' := 0) dc_Law_counter_4 tg_LR_counter ml_Law_47 im_LR_counter se_LR_counter ⟨_, rfl, rfl⟩ hb (Nat.le_of_ble_eq_true rfl) (by omega) (by omega) hC hv.1 ?_
  intro v nx' t' r' i' g' hq
  obtain ⟨⟨z, rfl⟩, ht⟩ := hv.2 _ _ _ _ _ _ hq
  refine wf_i2l dc_Law_counter_7 ?_
  refine wf_lastore (y := 2) dc_Law_counter_8 rfl (by decide) (by assumption) (vp_in_nI (n := 0) (by omega) (by omega)) ?_
  refine wf_goto 15 dc_Law_counter_9 (by decide) ?_
  refine wf_iconst 0 dc_Law_counter_15 (by decide) ?_
  exact wf_ireturn rfl dc_Law_counter_16 ⟨z, g', rfl, hq, rfl⟩
theorem x_counter_1 {a1 : Int32} (hb : t b = some (.inl 0)) (hC : Ct l E n0 mt_LR_counter d 1 6 [.ref b, .int a1] nx t r i g (qX xNE nx t r i g)) : Cw l E n0 mt_Law_counter (d + 1) 1 6 [.ref b, .int a1, .ref oa] nx t r i g (wq_x 1 nx t r i g) := by
  refine Cw.of (by decide) (Nat.le_of_ble_eq_true rfl) cw_counter ?_
  have hH : wl_H mt_Law_counter.1 = [(0, 9, 12, 19)] := by decide +kernel
  refine wf_aload_n dc_Law_counter_0 rfl ?_
  refine wf_iconst 0 dc_Law_counter_1 (by decide) ?_
  refine wf_aload_n dc_Law_counter_2 rfl ?_
  refine wf_iload_n dc_Law_counter_3 rfl ?_
  refine wf_ivt (st := [.int 0, .ref oa]) (As := [.int a1]) (M' := mt_LR_counter) (c := 0) (bk' := 0) (bn' := 0) (hp := 12) dc_Law_counter_4 tg_LR_counter ml_Law_47 im_LR_counter se_LR_counter ⟨_, rfl, rfl⟩ hb (Nat.le_of_ble_eq_true rfl) (by omega) (by omega) (by rw [hH]; exact ⟨by decide, by decide, by decide, Or.inl ⟨rfl, lk_19⟩⟩) hC (fun a => ?_)
  refine wf_astore_n dc_Law_counter_12 (by decide) ?_
  refine wf_iconst 1 dc_Law_counter_13 (by decide) ?_
  exact wf_ireturn rfl dc_Law_counter_14 ⟨rfl, rfl, rfl, rfl, rfl, rfl⟩
theorem cw_key : Cond.codeWith mt_Law_key.1 mt_Law_key.2.1 mt_Law_key.2.2.1 mt_Law_key.2.2.2 (wl_H mt_Law_key.1) ∈ wl_ALL := wl_mem 837 (by decide +kernel) rfl
theorem ws_key : Cond.static mt_Law_key.1 ∈ wl_ALL := wl_mem 836 (by decide +kernel) rfl
theorem wt_key : wc_tg mt_Law_key 4 := ⟨cw_key, wl_mem 63 (by decide +kernel) rfl, by decide, by decide +kernel, by decide⟩
theorem u_key {Q' : Wq} {a1 a2 : Int32} (hb : t b = some (.inl 0)) (hC : Ct l E n0 mt_LR_key d 1 6 [.ref b, .int a1, .int a2] nx t r i g Q') (hv : wv_ok oa Q') : Cw l E n0 mt_Law_key (d + 1) 1 6 [.ref b, .int a1, .int a2, .ref oa] nx t r i g (wq_ok oa Q') := by
  refine Cw.of (by decide) (Nat.le_of_ble_eq_true rfl) cw_key ?_
  refine wf_aload_n dc_Law_key_0 rfl ?_
  refine wf_iconst 0 dc_Law_key_1 (by decide) ?_
  refine wf_aload_n dc_Law_key_2 rfl ?_
  refine wf_iload_n dc_Law_key_3 rfl ?_
  refine wf_iload_n dc_Law_key_4 rfl ?_
  refine wf_iv (st := [.int 0, .ref oa]) (As := [.int a1, .int a2]) (M' := mt_LR_key) (c := 0) (bk' := 0) (bn' := 0) dc_Law_key_5 tg_LR_key ml_Law_50 im_LR_key se_LR_key ⟨_, rfl, rfl⟩ hb (Nat.le_of_ble_eq_true rfl) (by omega) (by omega) hC hv.1 ?_
  intro v nx' t' r' i' g' hq
  obtain ⟨⟨z, rfl⟩, ht⟩ := hv.2 _ _ _ _ _ _ hq
  refine wf_i2l dc_Law_key_8 ?_
  refine wf_lastore (y := 2) dc_Law_key_9 rfl (by decide) (by assumption) (vp_in_nI (n := 0) (by omega) (by omega)) ?_
  refine wf_goto 17 dc_Law_key_10 (by decide) ?_
  refine wf_iconst 0 dc_Law_key_17 (by decide) ?_
  exact wf_ireturn rfl dc_Law_key_18 ⟨z, g', rfl, hq, rfl⟩
theorem x_key_1 {a1 a2 : Int32} (hb : t b = some (.inl 0)) (hC : Ct l E n0 mt_LR_key d 1 6 [.ref b, .int a1, .int a2] nx t r i g (qX xNE nx t r i g)) : Cw l E n0 mt_Law_key (d + 1) 1 6 [.ref b, .int a1, .int a2, .ref oa] nx t r i g (wq_x 1 nx t r i g) := by
  refine Cw.of (by decide) (Nat.le_of_ble_eq_true rfl) cw_key ?_
  have hH : wl_H mt_Law_key.1 = [(0, 10, 13, 19)] := by decide +kernel
  refine wf_aload_n dc_Law_key_0 rfl ?_
  refine wf_iconst 0 dc_Law_key_1 (by decide) ?_
  refine wf_aload_n dc_Law_key_2 rfl ?_
  refine wf_iload_n dc_Law_key_3 rfl ?_
  refine wf_iload_n dc_Law_key_4 rfl ?_
  refine wf_ivt (st := [.int 0, .ref oa]) (As := [.int a1, .int a2]) (M' := mt_LR_key) (c := 0) (bk' := 0) (bn' := 0) (hp := 13) dc_Law_key_5 tg_LR_key ml_Law_50 im_LR_key se_LR_key ⟨_, rfl, rfl⟩ hb (Nat.le_of_ble_eq_true rfl) (by omega) (by omega) (by rw [hH]; exact ⟨by decide, by decide, by decide, Or.inl ⟨rfl, lk_19⟩⟩) hC (fun a => ?_)
  refine wf_astore dc_Law_key_13 (by decide) ?_
  refine wf_iconst 1 dc_Law_key_15 (by decide) ?_
  exact wf_ireturn rfl dc_Law_key_16 ⟨rfl, rfl, rfl, rfl, rfl, rfl⟩
theorem cw_count : Cond.codeWith mt_Law_count.1 mt_Law_count.2.1 mt_Law_count.2.2.1 mt_Law_count.2.2.2 (wl_H mt_Law_count.1) ∈ wl_ALL := wl_mem 845 (by decide +kernel) rfl
theorem ws_count : Cond.static mt_Law_count.1 ∈ wl_ALL := wl_mem 844 (by decide +kernel) rfl
theorem wt_count : wc_tg mt_Law_count 3 := ⟨cw_count, wl_mem 63 (by decide +kernel) rfl, by decide, by decide +kernel, by decide⟩
theorem u_count {Q' : Wq} {a1 : Int32} (hb : t b = some (.inl 0)) (hC : Ct l E n0 mt_LR_count d 1 6 [.ref b, .int a1] nx t r i g Q') (hv : wv_ok oa Q') : Cw l E n0 mt_Law_count (d + 1) 1 6 [.ref b, .int a1, .ref oa] nx t r i g (wq_ok oa Q') := by
  refine Cw.of (by decide) (Nat.le_of_ble_eq_true rfl) cw_count ?_
  refine wf_aload_n dc_Law_count_0 rfl ?_
  refine wf_iconst 0 dc_Law_count_1 (by decide) ?_
  refine wf_aload_n dc_Law_count_2 rfl ?_
  refine wf_iload_n dc_Law_count_3 rfl ?_
  refine wf_iv (st := [.int 0, .ref oa]) (As := [.int a1]) (M' := mt_LR_count) (c := 0) (bk' := 0) (bn' := 0) dc_Law_count_4 tg_LR_count ml_Law_53 im_LR_count se_LR_count ⟨_, rfl, rfl⟩ hb (Nat.le_of_ble_eq_true rfl) (by omega) (by omega) hC hv.1 ?_
  intro v nx' t' r' i' g' hq
  obtain ⟨⟨z, rfl⟩, ht⟩ := hv.2 _ _ _ _ _ _ hq
  refine wf_i2l dc_Law_count_7 ?_
  refine wf_lastore (y := 2) dc_Law_count_8 rfl (by decide) (by assumption) (vp_in_nI (n := 0) (by omega) (by omega)) ?_
  refine wf_goto 15 dc_Law_count_9 (by decide) ?_
  refine wf_iconst 0 dc_Law_count_15 (by decide) ?_
  exact wf_ireturn rfl dc_Law_count_16 ⟨z, g', rfl, hq, rfl⟩
theorem x_count_1 {a1 : Int32} (hb : t b = some (.inl 0)) (hC : Ct l E n0 mt_LR_count d 1 6 [.ref b, .int a1] nx t r i g (qX xAE nx t r i g)) : Cw l E n0 mt_Law_count (d + 1) 1 6 [.ref b, .int a1, .ref oa] nx t r i g (wq_x 1 nx t r i g) := by
  refine Cw.of (by decide) (Nat.le_of_ble_eq_true rfl) cw_count ?_
  have hH : wl_H mt_Law_count.1 = [(0, 9, 12, 27)] := by decide +kernel
  refine wf_aload_n dc_Law_count_0 rfl ?_
  refine wf_iconst 0 dc_Law_count_1 (by decide) ?_
  refine wf_aload_n dc_Law_count_2 rfl ?_
  refine wf_iload_n dc_Law_count_3 rfl ?_
  refine wf_ivt (st := [.int 0, .ref oa]) (As := [.int a1]) (M' := mt_LR_count) (c := 0) (bk' := 0) (bn' := 0) (hp := 12) dc_Law_count_4 tg_LR_count ml_Law_53 im_LR_count se_LR_count ⟨_, rfl, rfl⟩ hb (Nat.le_of_ble_eq_true rfl) (by omega) (by omega) (by rw [hH]; exact ⟨by decide, by decide, by decide, Or.inl ⟨rfl, lk_27⟩⟩) hC (fun a => ?_)
  refine wf_astore_n dc_Law_count_12 (by decide) ?_
  refine wf_iconst 1 dc_Law_count_13 (by decide) ?_
  exact wf_ireturn rfl dc_Law_count_14 ⟨rfl, rfl, rfl, rfl, rfl, rfl⟩
end
