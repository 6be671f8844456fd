/-! class LineRules: clear, forget, end -/
section
variable {l : Launch} {E : We} {n0 d nx : Nat} {t : Wt} {r : Wr} {i i' : Wi} {g : Wl} {b : Nat} {pm : Nat → Nat}
theorem c_LR_clear {w : List Int32} (hA : lr_at t r b pm) (hP : lp_pad i b w) : Ct l E n0 mt_LR_clear (d + 1) 0 0 [.ref (b + 0)] nx t r i g (qI nx t r g (fun z i' => z = nI w.length ∧ lp_pad i' b [] ∧ fr_is [b + 1] i i')) := by
  have t0 := hA.1.1
  have r0 : r (b + 0) 0 = some (b + 1) := hA.2.1 (0, 0, 1) (by decide +kernel)
  have hpd := lr_pad hA
  have tP := hpd.1
  refine Ct.of (by decide) (Nat.le_of_ble_eq_true rfl) ?_
  refine wf_aload_n dc_LR_clear_0 rfl ?_
  refine wf_getr dc_LR_clear_1 fl_LR_14 rfl (by assumption) (by assumption) ?_
  refine wf_geti dc_LR_clear_4 fl_LR_82 rfl (by assumption) ?_
  rw [hP.1.1]
  refine wf_istore_n dc_LR_clear_7 (by decide) ?_
  refine wf_aload_n dc_LR_clear_8 rfl ?_
  refine wf_getr dc_LR_clear_9 fl_LR_14 rfl (by assumption) (by assumption) ?_
  refine wf_iv0 (M' := mt_Row_drop) (c := 5) dc_LR_clear_12 tg_Row_drop ml_LR_95 im_Row_drop se_Row_drop ⟨_, rfl, rfl⟩ (by assumption) (Nat.le_of_ble_eq_true rfl) (Nat.le_refl _) (Nat.le_refl _) (c_Row_drop hpd) qV_nt (qV_go (fun i2 hp => ?_))
  refine wf_iload_n dc_LR_clear_15 rfl ?_
  exact wf_ireturn rfl dc_LR_clear_16 ⟨_, rfl, rfl, rfl, rfl, rfl, rfl, ⟨hp.1, s1_nil⟩, hp.2⟩
theorem c_LR_end {fe : Option Nat} (hA : lr_at t r b pm) (hE : lp_end i b fe) : Ct l E n0 mt_LR_end d 0 0 [.ref (b + 0)] nx t r i g (qI nx t r g (fun z i' => z = oI fe ∧ i' = i)) := by
  have t0 := hA.1.1
  refine Ct.of (by decide) (Nat.le_of_ble_eq_true rfl) ?_
  refine wf_aload_n dc_LR_end_0 rfl ?_
  refine wf_geti dc_LR_end_1 fl_LR_73 rfl (by assumption) ?_
  rw [hE.1]
  exact wf_ireturn rfl dc_LR_end_4 ⟨_, rfl, rfl, rfl, rfl, rfl, rfl, rfl⟩
theorem c_LR_forget {ru : List RuS} (hA : lr_at t r b pm) (hR : lp_rul i b ru) : Ct l E n0 mt_LR_forget d 0 0 [.ref (b + 0)] nx t r i g (qI nx t r g (fun z i' => z = nI ru.length ∧ i' = wf_up i (b + 0) 10 0)) := by
  have t0 := hA.1.1
  refine Ct.of (by decide) (Nat.le_of_ble_eq_true rfl) ?_
  refine wf_aload_n dc_LR_forget_0 rfl ?_
  refine wf_geti dc_LR_forget_1 fl_LR_141 rfl (by assumption) ?_
  rw [hR.1]
  refine wf_istore_n dc_LR_forget_4 (by decide) ?_
  refine wf_aload_n dc_LR_forget_5 rfl ?_
  refine wf_iconst 0 dc_LR_forget_6 (by decide) ?_
  refine wf_puti dc_LR_forget_7 fl_LR_141 (Or.inl nf_LR_10) rfl rfl rfl (by assumption) ?_
  refine wf_iload_n dc_LR_forget_10 rfl ?_
  exact wf_ireturn rfl dc_LR_forget_11 ⟨_, rfl, rfl, rfl, rfl, rfl, rfl, rfl⟩
end
