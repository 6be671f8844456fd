/-! class Rule: pattern, its two ints, at most ten actions -/
abbrev RuS : Type := Int32 × Int32 × Int32 × List (Int32 × Int32 × Int32)
section
variable {l : Launch} {E : We} {n0 d nx : Nat} {t : Wt} {r : Wr} {i : Wi} {g : Wl}
def ru_at (t : Wt) (r : Wr) (a x y z : Nat) : Prop := t a = some (.inl 6) ∧ r a 3 = some x ∧ r a 4 = some y ∧ r a 5 = some z ∧ t x = some (.inr (0, 10)) ∧ t y = some (.inr (0, 10)) ∧ t z = some (.inr (0, 10)) ∧ x ≠ y ∧ x ≠ z ∧ y ≠ z
def ru_is (i : Wi) (a x y z : Nat) (u : RuS) : Prop := i a 0 = u.1 ∧ i a 1 = u.2.1 ∧ i a 2 = u.2.2.1 ∧ i a 6 = nI u.2.2.2.length ∧ ∀ k, k < u.2.2.2.length → i x k = (u.2.2.2.getD k (0, 0, 0)).1 ∧ i y k = (u.2.2.2.getD k (0, 0, 0)).2.1 ∧ i z k = (u.2.2.2.getD k (0, 0, 0)).2.2
theorem ru_is.fr {i' : Wi} {a x y z : Nat} {u : RuS} {S : List Nat} (h : ru_is i a x y z u) (hf : fr_is S i i') (ha : a ∉ S) (hx : x ∉ S) (hy : y ∉ S) (hz : z ∉ S) : ru_is i' a x y z u :=
  ⟨(hf a ha _).trans h.1, (hf a ha _).trans h.2.1, (hf a ha _).trans h.2.2.1, (hf a ha _).trans h.2.2.2.1, fun k hk => ⟨(hf x hx k).trans (h.2.2.2.2 k hk).1, (hf y hy k).trans (h.2.2.2.2 k hk).2.1, (hf z hz k).trans (h.2.2.2.2 k hk).2.2⟩⟩
theorem c_Rul_begin {a x y z : Nat} {p b c : Int32} (hA : ru_at t r a x y z) : Ct l E n0 mt_Rul_begin d 0 0 [.ref a, .int p, .int b, .int c] nx t r i g (qV nx t r g (fun i' => ru_is i' a x y z (p, b, c, []) ∧ fr_is [a] i i')) := by
  obtain ⟨ha, -⟩ := hA
  refine Ct.of (by decide) (Nat.le_of_ble_eq_true rfl) ?_
  refine wf_aload_n dc_Rul_begin_0 rfl ?_
  refine wf_iload_n dc_Rul_begin_1 rfl ?_
  refine wf_puti dc_Rul_begin_2 fl_Rul_21 (Or.inl nf_Rul_0) rfl rfl rfl (by assumption) ?_
  refine wf_aload_n dc_Rul_begin_5 rfl ?_
  refine wf_iload_n dc_Rul_begin_6 rfl ?_
  refine wf_puti dc_Rul_begin_7 fl_Rul_25 (Or.inl nf_Rul_1) rfl rfl rfl (by assumption) ?_
  refine wf_aload_n dc_Rul_begin_10 rfl ?_
  refine wf_iload_n dc_Rul_begin_11 rfl ?_
  refine wf_puti dc_Rul_begin_12 fl_Rul_28 (Or.inl nf_Rul_2) rfl rfl rfl (by assumption) ?_
  refine wf_aload_n dc_Rul_begin_15 rfl ?_
  refine wf_iconst 0 dc_Rul_begin_16 (by decide) ?_
  refine wf_puti dc_Rul_begin_17 fl_Rul_31 (Or.inl nf_Rul_6) rfl rfl rfl (by assumption) ?_
  refine wf_return rfl dc_Rul_begin_20 ⟨rfl, rfl, rfl, rfl, rfl, ⟨?_, ?_, ?_, wf_up_s, fun k hk => absurd hk (Nat.not_lt_zero _)⟩, fr_up (fr_up (fr_up (fr_up fr_rf (by simp)) (by simp)) (by simp)) (by simp)⟩
  · rw [wf_up_k (by decide), wf_up_k (by decide), wf_up_k (by decide), wf_up_s]
  · rw [wf_up_k (by decide), wf_up_k (by decide), wf_up_s]
  · rw [wf_up_k (by decide), wf_up_s]
theorem c_Rul_isFull {a x y z : Nat} {u : RuS} (hA : ru_at t r a x y z) (hu : ru_is i a x y z u) (hl : u.2.2.2.length ≤ 10) : Ct l E n0 mt_Rul_isFull d 0 0 [.ref a] nx t r i g (qI nx t r g (fun z i' => z = (if u.2.2.2.length = 10 then 1 else 0) ∧ i' = i)) := by
  obtain ⟨ha, -⟩ := hA
  obtain ⟨-, -, -, h4, -⟩ := hu
  refine Ct.of (by decide) (Nat.le_of_ble_eq_true rfl) ?_
  refine wf_aload_n dc_Rul_isFull_0 rfl ?_
  refine wf_geti dc_Rul_isFull_1 fl_Rul_31 rfl (by assumption) ?_
  rw [h4]
  refine wf_bipush 10 dc_Rul_isFull_4 (by decide) ?_
  refine wf_icmp_ne 13 dc_Rul_isFull_6 (by decide) (fun hc => ?_) (fun hc => ?_)
  · refine wf_iconst 0 dc_Rul_isFull_13 (by decide) ?_
    exact wf_zreturn rfl rfl dc_Rul_isFull_14 ⟨0, rfl, rfl, rfl, rfl, rfl, by rw [if_neg (fun q => hc (by rw [q]; rfl))], rfl⟩
  · refine wf_iconst 1 dc_Rul_isFull_9 (by decide) ?_
    refine wf_goto 14 dc_Rul_isFull_10 (by decide) ?_
    exact wf_zreturn rfl rfl dc_Rul_isFull_14 ⟨1, rfl, rfl, rfl, rfl, rfl, by rw [if_pos ((nI_eq (a := u.2.2.2.length) (b := 10) (by omega) (by omega)).mp hc)], rfl⟩
theorem ga_l {w v : List (Int32 × Int32 × Int32)} {j : Nat} (h : j < w.length) : (w ++ v).getD j (0, 0, 0) = w.getD j (0, 0, 0) := by
  rw [List.getD_eq_getElem?_getD, List.getD_eq_getElem?_getD, List.getElem?_append_left h]
theorem ga_r {w v : List (Int32 × Int32 × Int32)} {j : Nat} : (w ++ v).getD (w.length + j) (0, 0, 0) = v.getD j (0, 0, 0) := by
  rw [List.getD_eq_getElem?_getD, List.getD_eq_getElem?_getD, List.getElem?_append_right (Nat.le_add_right _ _), Nat.add_sub_cancel_left]
theorem c_Rul_add {a x y z : Nat} {u : RuS} {p b c : Int32} (hA : ru_at t r a x y z) (hu : ru_is i a x y z u) (hl : u.2.2.2.length < 10) : Ct l E n0 mt_Rul_add (d + 1) 0 0 [.ref a, .int p, .int b, .int c] nx t r i g (qI nx t r g (fun v i' => v = nI (u.2.2.2.length + 1) ∧ ru_is i' a x y z (u.1, u.2.1, u.2.2.1, u.2.2.2 ++ [(p, b, c)]) ∧ fr_is [a, x, y, z] i i')) := by
  have hA' := hA
  obtain ⟨ha, hx, hy, hz, tx, ty, tz, nxy, nxz, nyz⟩ := hA
  have hu' := hu
  obtain ⟨u1, u2, u3, u4, u5⟩ := hu
  have nax : a ≠ x := fun q => by rw [q, tx] at ha; cases ha
  have nay : a ≠ y := fun q => by rw [q, ty] at ha; cases ha
  have naz : a ≠ z := fun q => by rw [q, tz] at ha; cases ha
  refine Ct.of (by decide) (Nat.le_of_ble_eq_true rfl) ?_
  refine wf_aload_n dc_Rul_add_0 rfl ?_
  refine wf_iv0 (M' := mt_Rul_isFull) (c := 6) dc_Rul_add_1 tg_Rul_isFull ml_Rul_34 im_Rul_isFull se_Rul_isFull ⟨_, rfl, rfl⟩ (by assumption) (Nat.le_of_ble_eq_true rfl) (Nat.le_refl _) (Nat.le_refl _) (c_Rul_isFull hA' hu' (by omega)) qI_nt (qI_go (fun x2 i2 hp => ?_))
  obtain ⟨hx2, rfl⟩ := hp
  rw [if_neg (by omega)] at hx2
  subst hx2
  refine wf_if_ne 47 dc_Rul_add_4 (by decide) (fun hc => absurd rfl hc) (fun hc => ?_)
  refine wf_aload_n dc_Rul_add_7 rfl ?_
  refine wf_getr dc_Rul_add_8 fl_Rul_9 rfl (by assumption) (by assumption) ?_
  refine wf_aload_n dc_Rul_add_11 rfl ?_
  refine wf_geti dc_Rul_add_12 fl_Rul_31 rfl (by assumption) ?_
  rw [u4]
  refine wf_iload_n dc_Rul_add_15 rfl ?_
  refine wf_iastore (y := 0) dc_Rul_add_16 rfl (by decide) (by assumption) (vp_in_nI hl (by omega)) ?_
  rw [nI_clamp (by omega)]
  refine wf_aload_n dc_Rul_add_17 rfl ?_
  refine wf_getr dc_Rul_add_18 fl_Rul_15 rfl (by assumption) (by assumption) ?_
  refine wf_aload_n dc_Rul_add_21 rfl ?_
  refine wf_geti dc_Rul_add_22 fl_Rul_31 rfl (by assumption) ?_
  rw [wf_up_a nax, u4]
  refine wf_iload_n dc_Rul_add_25 rfl ?_
  refine wf_iastore (y := 0) dc_Rul_add_26 rfl (by decide) (by assumption) (vp_in_nI hl (by omega)) ?_
  rw [nI_clamp (by omega)]
  refine wf_aload_n dc_Rul_add_27 rfl ?_
  refine wf_getr dc_Rul_add_28 fl_Rul_18 rfl (by assumption) (by assumption) ?_
  refine wf_aload_n dc_Rul_add_31 rfl ?_
  refine wf_geti dc_Rul_add_32 fl_Rul_31 rfl (by assumption) ?_
  rw [wf_up_a nay, wf_up_a nax, u4]
  refine wf_iload_n dc_Rul_add_35 rfl ?_
  refine wf_iastore (y := 0) dc_Rul_add_36 rfl (by decide) (by assumption) (vp_in_nI hl (by omega)) ?_
  rw [nI_clamp (by omega)]
  refine wf_aload_n dc_Rul_add_37 rfl ?_
  refine wf_dup dc_Rul_add_38 rfl ?_
  refine wf_geti dc_Rul_add_39 fl_Rul_31 rfl (by assumption) ?_
  refine wf_iconst 1 dc_Rul_add_42 (by decide) ?_
  refine wf_iadd dc_Rul_add_43 ?_
  rw [wf_up_a naz, wf_up_a nay, wf_up_a nax, u4, nI_1]
  refine wf_puti dc_Rul_add_44 fl_Rul_31 (Or.inl nf_Rul_6) rfl rfl rfl (by assumption) ?_
  refine wf_aload_n dc_Rul_add_47 rfl ?_
  refine wf_geti dc_Rul_add_48 fl_Rul_31 rfl (by assumption) ?_
  rw [wf_up_s]
  refine wf_ireturn rfl dc_Rul_add_51 ⟨_, rfl, rfl, rfl, rfl, rfl, rfl, ⟨?_, ?_, ?_, ?_, ?_⟩, fr_up (fr_up (fr_up (fr_up fr_rf (by simp)) (by simp)) (by simp)) (by simp)⟩
  · rw [wf_up_k (by decide), wf_up_a naz, wf_up_a nay, wf_up_a nax, u1]
  · rw [wf_up_k (by decide), wf_up_a naz, wf_up_a nay, wf_up_a nax, u2]
  · rw [wf_up_k (by decide), wf_up_a naz, wf_up_a nay, wf_up_a nax, u3]
  · rw [wf_up_s]
    show _ = nI (u.2.2.2 ++ [(p, b, c)]).length
    rw [List.length_append]
    rfl
  · intro k hk
    have hk : k < (u.2.2.2 ++ [(p, b, c)]).length := hk
    rw [List.length_append] at hk
    have hk : k < u.2.2.2.length + 1 := hk
    show _ = ((u.2.2.2 ++ [(p, b, c)]).getD k (0, 0, 0)).1 ∧ _ = ((u.2.2.2 ++ [(p, b, c)]).getD k (0, 0, 0)).2.1 ∧ _ = ((u.2.2.2 ++ [(p, b, c)]).getD k (0, 0, 0)).2.2
    rw [wf_up_a nax.symm, wf_up_a nay.symm, wf_up_a naz.symm, wf_up_a nxz, wf_up_a nxy, wf_up_a nyz]
    by_cases hk2 : k = u.2.2.2.length
    · subst hk2
      rw [wf_up_s, wf_up_s, wf_up_s, show u.2.2.2.length = u.2.2.2.length + 0 from rfl, ga_r]
      exact ⟨rfl, rfl, rfl⟩
    · simp only [wf_up_k hk2]
      rw [ga_l (by omega)]
      exact u5 k (by omega)
end
