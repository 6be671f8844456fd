/-! constructors: Expression, Rule, Output, Table -/
section
variable {l : Launch} {E : We} {n0 d nx : Nat} {t : Wt} {r : Wr} {i : Wi} {g : Wl}
theorem up1_x {v w : Nat ⊕ (Nat × Nat)} {z : Nat} (h : t z = some w) (hn : t nx = none) : wf_up1 t nx (some v) z = some w := by
  rw [wf_up1_n (fun q => by rw [q, hn] at h; cases h)]
  exact h
theorem c_Out_init {a : Nat} (ha : t a = some (.inl 3)) : Ct l E n0 mt_Out_init (d + 1) 1 1500 [.ref a] nx t r i g (fun o nx' t' r' i' g' => o = .inl none ∧ nx' = nx + 1 ∧ t' = wf_up1 t nx (some (.inr (0, 1500))) ∧ r' = wf_up r a 0 (some nx) ∧ i' = i ∧ g' = g) := by
  refine Ct.of (by decide) (Nat.le_of_ble_eq_true rfl) ?_
  refine wf_aload_n dc_Out_init_0 rfl ?_
  refine wf_objinit dc_Out_init_1 ml_Out_3 im_obj co_obj (Nat.le_of_ble_eq_true rfl) ?_
  refine wf_aload_n dc_Out_init_4 rfl ?_
  refine wf_sipush 1500 dc_Out_init_5 (by decide) ?_
  refine wf_newarr (y := 0) (N := 1500) (bk' := 0) (bn' := 0) dc_Out_init_8 rfl (by decide) ac_int (fun U h => h) rfl (by decide) (by decide) (by decide) (Nat.le_of_ble_eq_true rfl) (Nat.le_of_ble_eq_true rfl) (fun f1 f2 => ?_)
  have ha := up1_x (v := .inr (0, 1500)) ha f1
  refine wf_putr dc_Out_init_10 fl_Out_9 (Or.inr ⟨fi_Out_0, rfl⟩) rfl rfl rfl (by assumption) ?_
  exact wf_return rfl dc_Out_init_13 ⟨rfl, rfl, rfl, rfl, rfl, rfl⟩
theorem c_Rul_init {a : Nat} (ha : t a = some (.inl 6)) : Ct l E n0 mt_Rul_init (d + 1) 3 30 [.ref a] nx t r i g (fun o nx' t' r' i' g' => o = .inl none ∧ nx' = nx + 3 ∧ t' = wf_up1 (wf_up1 (wf_up1 t nx (some (.inr (0, 10)))) (nx + 1) (some (.inr (0, 10)))) (nx + 2) (some (.inr (0, 10))) ∧ r' = wf_up (wf_up (wf_up r a 3 (some nx)) a 4 (some (nx + 1))) a 5 (some (nx + 2)) ∧ i' = i ∧ g' = g) := by
  refine Ct.of (by decide) (Nat.le_of_ble_eq_true rfl) ?_
  refine wf_aload_n dc_Rul_init_0 rfl ?_
  refine wf_objinit dc_Rul_init_1 ml_Rul_3 im_obj co_obj (Nat.le_of_ble_eq_true rfl) ?_
  refine wf_aload_n dc_Rul_init_4 rfl ?_
  refine wf_bipush 10 dc_Rul_init_5 (by decide) ?_
  refine wf_newarr (y := 0) (N := 10) (bk' := 2) (bn' := 20) dc_Rul_init_7 rfl (by decide) ac_int (fun U h => h) rfl (by decide) (by decide) (by decide) (Nat.le_of_ble_eq_true rfl) (Nat.le_of_ble_eq_true rfl) (fun f1 f2 => ?_)
  have ha := up1_x (v := .inr (0, 10)) ha f1
  refine wf_putr dc_Rul_init_9 fl_Rul_9 (Or.inr ⟨fi_Rul_3, rfl⟩) rfl rfl rfl (by assumption) ?_
  refine wf_aload_n dc_Rul_init_12 rfl ?_
  refine wf_bipush 10 dc_Rul_init_13 (by decide) ?_
  refine wf_newarr (y := 0) (N := 10) (bk' := 1) (bn' := 10) dc_Rul_init_15 rfl (by decide) ac_int (fun U h => h) rfl (by decide) (by decide) (by decide) (Nat.le_of_ble_eq_true rfl) (Nat.le_of_ble_eq_true rfl) (fun f1 f2 => ?_)
  have ha := up1_x (v := .inr (0, 10)) ha f1
  refine wf_putr dc_Rul_init_17 fl_Rul_15 (Or.inr ⟨fi_Rul_4, rfl⟩) rfl rfl rfl (by assumption) ?_
  refine wf_aload_n dc_Rul_init_20 rfl ?_
  refine wf_bipush 10 dc_Rul_init_21 (by decide) ?_
  refine wf_newarr (y := 0) (N := 10) (bk' := 0) (bn' := 0) dc_Rul_init_23 rfl (by decide) ac_int (fun U h => h) rfl (by decide) (by decide) (by decide) (Nat.le_of_ble_eq_true rfl) (Nat.le_of_ble_eq_true rfl) (fun f1 f2 => ?_)
  have ha := up1_x (v := .inr (0, 10)) ha f1
  refine wf_putr dc_Rul_init_25 fl_Rul_18 (Or.inr ⟨fi_Rul_5, rfl⟩) rfl rfl rfl (by assumption) ?_
  exact wf_return rfl dc_Rul_init_28 ⟨rfl, rfl, rfl, rfl, rfl, rfl⟩
theorem c_Tab_init {a : Nat} (ha : t a = some (.inl 7)) : Ct l E n0 mt_Tab_init (d + 1) 2 80 [.ref a] nx t r i g (fun o nx' t' r' i' g' => o = .inl none ∧ nx' = nx + 2 ∧ t' = wf_up1 (wf_up1 t nx (some (.inr (3, 40)))) (nx + 1) (some (.inr (0, 40))) ∧ r' = wf_up (wf_up r a 0 (some nx)) a 1 (some (nx + 1)) ∧ i' = i ∧ g' = g) := by
  refine Ct.of (by decide) (Nat.le_of_ble_eq_true rfl) ?_
  refine wf_aload_n dc_Tab_init_0 rfl ?_
  refine wf_objinit dc_Tab_init_1 ml_Tab_3 im_obj co_obj (Nat.le_of_ble_eq_true rfl) ?_
  refine wf_aload_n dc_Tab_init_4 rfl ?_
  refine wf_bipush 40 dc_Tab_init_5 (by decide) ?_
  refine wf_anew (y := 3) (N := 40) (bk' := 1) (bn' := 40) dc_Tab_init_7 rfl (by decide) cl_Tab_9 (by decide) (by decide) (by decide) (by decide) (Nat.le_of_ble_eq_true rfl) (Nat.le_of_ble_eq_true rfl) (fun f1 f2 => ?_)
  have ha := up1_x (v := .inr (3, 40)) ha f1
  refine wf_putr dc_Tab_init_10 fl_Tab_11 (Or.inr ⟨fi_Tab_0, rfl⟩) rfl rfl rfl (by assumption) ?_
  refine wf_aload_n dc_Tab_init_13 rfl ?_
  refine wf_bipush 40 dc_Tab_init_14 (by decide) ?_
  refine wf_newarr (y := 0) (N := 40) (bk' := 0) (bn' := 0) dc_Tab_init_16 rfl (by decide) ac_int (fun U h => h) rfl (by decide) (by decide) (by decide) (Nat.le_of_ble_eq_true rfl) (Nat.le_of_ble_eq_true rfl) (fun f1 f2 => ?_)
  have ha := up1_x (v := .inr (0, 40)) ha f1
  refine wf_putr dc_Tab_init_18 fl_Tab_17 (Or.inr ⟨fi_Tab_1, rfl⟩) rfl rfl rfl (by assumption) ?_
  exact wf_return rfl dc_Tab_init_21 ⟨rfl, rfl, rfl, rfl, rfl, rfl⟩
theorem c_Exp_init {a : Nat} (ha : t a = some (.inl 2)) : Ct l E n0 mt_Exp_init (d + 1) 5 328 [.ref a] nx t r i g (fun o nx' t' r' i' g' => o = .inl none ∧ nx' = nx + 5 ∧ t' = wf_up1 (wf_up1 (wf_up1 (wf_up1 (wf_up1 t nx (some (.inr (2, 256)))) (nx + 1) (some (.inr (2, 60)))) (nx + 2) (some (.inr (2, 4)))) (nx + 3) (some (.inr (2, 4)))) (nx + 4) (some (.inr (1, 4))) ∧ r' = wf_up (wf_up (wf_up (wf_up (wf_up r a 0 (some nx)) a 1 (some (nx + 1))) a 2 (some (nx + 2))) a 3 (some (nx + 3))) a 4 (some (nx + 4)) ∧ i' = wf_up (wf_up (wf_up (wf_up i (nx + 4) 0 1) (nx + 4) 1 1) (nx + 4) 2 1) (nx + 4) 3 1 ∧ g' = g) := by
  refine Ct.of (by decide) (Nat.le_of_ble_eq_true rfl) ?_
  refine wf_aload_n dc_Exp_init_0 rfl ?_
  refine wf_objinit dc_Exp_init_1 ml_Exp_3 im_obj co_obj (Nat.le_of_ble_eq_true rfl) ?_
  refine wf_aload_n dc_Exp_init_4 rfl ?_
  refine wf_sipush 256 dc_Exp_init_5 (by decide) ?_
  refine wf_newarr (y := 2) (N := 256) (bk' := 4) (bn' := 72) dc_Exp_init_8 rfl (by decide) ac_long (fun U h => h) rfl (by decide) (by decide) (by decide) (Nat.le_of_ble_eq_true rfl) (Nat.le_of_ble_eq_true rfl) (fun f1 f2 => ?_)
  have ha := up1_x (v := .inr (2, 256)) ha f1
  refine wf_putr dc_Exp_init_10 fl_Exp_9 (Or.inr ⟨fi_Exp_0, rfl⟩) rfl rfl rfl (by assumption) ?_
  refine wf_aload_n dc_Exp_init_13 rfl ?_
  refine wf_bipush 60 dc_Exp_init_14 (by decide) ?_
  refine wf_newarr (y := 2) (N := 60) (bk' := 3) (bn' := 12) dc_Exp_init_16 rfl (by decide) ac_long (fun U h => h) rfl (by decide) (by decide) (by decide) (Nat.le_of_ble_eq_true rfl) (Nat.le_of_ble_eq_true rfl) (fun f1 f2 => ?_)
  have ha := up1_x (v := .inr (2, 60)) ha f1
  refine wf_putr dc_Exp_init_18 fl_Exp_15 (Or.inr ⟨fi_Exp_1, rfl⟩) rfl rfl rfl (by assumption) ?_
  refine wf_aload_n dc_Exp_init_21 rfl ?_
  refine wf_iconst 4 dc_Exp_init_22 (by decide) ?_
  refine wf_newarr (y := 2) (N := 4) (bk' := 2) (bn' := 8) dc_Exp_init_23 rfl (by decide) ac_long (fun U h => h) rfl (by decide) (by decide) (by decide) (Nat.le_of_ble_eq_true rfl) (Nat.le_of_ble_eq_true rfl) (fun f1 f2 => ?_)
  have ha := up1_x (v := .inr (2, 4)) ha f1
  refine wf_putr dc_Exp_init_25 fl_Exp_18 (Or.inr ⟨fi_Exp_2, rfl⟩) rfl rfl rfl (by assumption) ?_
  refine wf_aload_n dc_Exp_init_28 rfl ?_
  refine wf_iconst 4 dc_Exp_init_29 (by decide) ?_
  refine wf_newarr (y := 2) (N := 4) (bk' := 1) (bn' := 4) dc_Exp_init_30 rfl (by decide) ac_long (fun U h => h) rfl (by decide) (by decide) (by decide) (Nat.le_of_ble_eq_true rfl) (Nat.le_of_ble_eq_true rfl) (fun f1 f2 => ?_)
  have ha := up1_x (v := .inr (2, 4)) ha f1
  refine wf_putr dc_Exp_init_32 fl_Exp_21 (Or.inr ⟨fi_Exp_3, rfl⟩) rfl rfl rfl (by assumption) ?_
  refine wf_aload_n dc_Exp_init_35 rfl ?_
  refine wf_iconst 4 dc_Exp_init_36 (by decide) ?_
  refine wf_newarr (y := 1) (N := 4) (bk' := 0) (bn' := 0) dc_Exp_init_37 rfl (by decide) ac_boolean (fun U h => h) rfl (by decide) (by decide) (by decide) (Nat.le_of_ble_eq_true rfl) (Nat.le_of_ble_eq_true rfl) (fun f1 f2 => ?_)
  have ha := up1_x (v := .inr (1, 4)) ha f1
  have hb : wf_up1 (wf_up1 (wf_up1 (wf_up1 (wf_up1 t nx (some (.inr (2, 256)))) (nx + 1) (some (.inr (2, 60)))) (nx + 1 + 1) (some (.inr (2, 4)))) (nx + 1 + 1 + 1) (some (.inr (2, 4)))) (nx + 1 + 1 + 1 + 1) (some (.inr (1, 4))) (nx + 1 + 1 + 1 + 1) = some (.inr (1, 4)) := wf_up1_s
  refine wf_dup dc_Exp_init_39 rfl ?_
  refine wf_iconst 0 dc_Exp_init_40 (by decide) ?_
  refine wf_iconst 1 dc_Exp_init_41 (by decide) ?_
  refine wf_zastore (y := 1) dc_Exp_init_42 rfl (by decide) (rfl) (by assumption) (vp_in_nI (n := 0) (by omega) (by omega)) ?_
  refine wf_dup dc_Exp_init_43 rfl ?_
  refine wf_iconst 1 dc_Exp_init_44 (by decide) ?_
  refine wf_iconst 1 dc_Exp_init_45 (by decide) ?_
  refine wf_zastore (y := 1) dc_Exp_init_46 rfl (by decide) (rfl) (by assumption) (vp_in_nI (n := 1) (by omega) (by omega)) ?_
  refine wf_dup dc_Exp_init_47 rfl ?_
  refine wf_iconst 2 dc_Exp_init_48 (by decide) ?_
  refine wf_iconst 1 dc_Exp_init_49 (by decide) ?_
  refine wf_zastore (y := 1) dc_Exp_init_50 rfl (by decide) (rfl) (by assumption) (vp_in_nI (n := 2) (by omega) (by omega)) ?_
  refine wf_dup dc_Exp_init_51 rfl ?_
  refine wf_iconst 3 dc_Exp_init_52 (by decide) ?_
  refine wf_iconst 1 dc_Exp_init_53 (by decide) ?_
  refine wf_zastore (y := 1) dc_Exp_init_54 rfl (by decide) (rfl) (by assumption) (vp_in_nI (n := 3) (by omega) (by omega)) ?_
  refine wf_putr dc_Exp_init_55 fl_Exp_24 (Or.inr ⟨fi_Exp_4, rfl⟩) rfl rfl rfl (by assumption) ?_
  exact wf_return rfl dc_Exp_init_58 ⟨rfl, rfl, rfl, rfl, rfl, rfl⟩
end
