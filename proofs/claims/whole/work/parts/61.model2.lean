/-! the reference: what looks at ints alone -/
section
variable {l : Launch} {E : We} {n0 d nx : Nat} {t : Wt} {r : Wr} {i : Wi} {g : Wl}
theorem c_Mod_within {v lo hi : Int32} : Ct l E n0 mt_Mod_within d 0 0 [.int v, .int lo, .int hi] nx t r i g (qI nx t r g (fun z i' => z = wt_b (bw v lo.toInt hi.toInt) ∧ i' = i)) := by
  refine Ct.of (by decide) (Nat.le_of_ble_eq_true rfl) ?_
  have no : bw v lo.toInt hi.toInt = false → Wf l E n0 mt_Mod_within d 0 0 (qI nx t r g (fun z i' => z = wt_b (bw v lo.toInt hi.toInt) ∧ i' = i)) 0 0 14 [(0, .int v), (1, .int lo), (2, .int hi)] [] nx t r i g := fun h => by
    refine wf_iconst 0 dc_Mod_within_14 (by decide) ?_
    exact wf_zreturn rfl rfl dc_Mod_within_15 ⟨0, rfl, rfl, rfl, rfl, rfl, by rw [h]; rfl, rfl⟩
  refine wf_iload_n dc_Mod_within_0 rfl ?_
  refine wf_iload_n dc_Mod_within_1 rfl ?_
  refine wf_icmp_lt 14 dc_Mod_within_2 (by decide) (fun h1 => ?_) (fun h1 => ?_)
  · exact Wf.to (by exact ⟨rfl, rfl, rfl, trivial⟩) (no (bw_f (by have := Int32.lt_iff_toInt_lt.mp h1; omega)))
  refine wf_iload_n dc_Mod_within_5 rfl ?_
  refine wf_iload_n dc_Mod_within_6 rfl ?_
  refine wf_icmp_gt 14 dc_Mod_within_7 (by decide) (fun h2 => ?_) (fun h2 => ?_)
  · exact Wf.to (by exact ⟨rfl, rfl, rfl, trivial⟩) (no (bw_f (by have := Int32.lt_iff_toInt_lt.mp h2; omega)))
  refine wf_iconst 1 dc_Mod_within_10 (by decide) ?_
  refine wf_goto 15 dc_Mod_within_11 (by decide) ?_
  exact wf_zreturn rfl rfl dc_Mod_within_15 ⟨1, rfl, rfl, rfl, rfl, rfl, by rw [bw_t.mpr ⟨by have : ¬ v.toInt < lo.toInt := fun z => h1 (Int32.lt_iff_toInt_lt.mpr z); omega, by have : ¬ hi.toInt < v.toInt := fun z => h2 (Int32.lt_iff_toInt_lt.mpr z); omega⟩]; rfl, rfl⟩
end
