/-! the reference: isAction, action -/
section
variable {l : Launch} {E : We} {n0 d nx : Nat} {t : Wt} {r : Wr} {i i1 i2 : Wi} {g : Wl} {m : Nat} {S : Ms}
theorem c_Mod_isAction {p a c : Int32} : Ct l E n0 mt_Mod_isAction (d + 2) 0 0 [.int p, .int a, .int c] nx t r i g (qI nx t r g (fun z i' => z = wt_b (ac_ok p a c) ∧ i' = i)) := by
  have e5 : ∀ x, bw x (Int32.toInt 0) (Int32.toInt 5) = bw x 0 5 := fun _ => rfl
  have e7 : ∀ x, bw x (Int32.toInt 0) (Int32.toInt 7) = bw x 0 7 := fun _ => rfl
  refine Ct.of (by decide) (Nat.le_of_ble_eq_true rfl) ?_
  have one : ac_ok p a c = true → Wf l E n0 mt_Mod_isAction (d + 2) 0 0 (qI nx t r g (fun z i' => z = wt_b (ac_ok p a c) ∧ i' = i)) 0 0 68 [] [] nx t r i g := fun h => by
    rw [h]
    refine wf_iconst 1 dc_Mod_isAction_68 (by decide) ?_
    exact wf_zreturn rfl rfl dc_Mod_isAction_69 ⟨_, rfl, rfl, rfl, rfl, rfl, rfl, rfl⟩
  have fld1 : ac_ok p a c = bw a 1 30 → Wf l E n0 mt_Mod_isAction (d + 2) 0 0 (qI nx t r g (fun z i' => z = wt_b (ac_ok p a c) ∧ i' = i)) 0 0 70 [(1, .int a)] [] nx t r i g := fun h => by
    rw [h]
    refine wf_iload_n dc_Mod_isAction_70 rfl ?_
    refine wf_is1 (M' := mt_Mod_isField) dc_Mod_isAction_71 tg_Mod_isField ml_Mod_169 sm_Mod_isField (Nat.le_of_ble_eq_true rfl) (Nat.le_refl _) (Nat.le_refl _) (c_Mod_isField) qI_nt (qI_go (fun x2 i2 hp => ?_))
    obtain ⟨rfl, hq⟩ := hp; subst i2
    exact wf_zreturn rfl (wt_bn2 _) dc_Mod_isAction_74 ⟨_, rfl, rfl, rfl, rfl, rfl, rfl, rfl⟩
  have fld7 : ac_ok p a c = (bw a 1 30 && bw c 0 7) → Wf l E n0 mt_Mod_isAction (d + 2) 0 0 (qI nx t r g (fun z i' => z = wt_b (ac_ok p a c) ∧ i' = i)) 0 0 75 [(1, .int a), (2, .int c)] [] nx t r i g := fun h => by
    rw [h]
    refine wf_iload_n dc_Mod_isAction_75 rfl ?_
    refine wf_is1 (M' := mt_Mod_isField) dc_Mod_isAction_76 tg_Mod_isField ml_Mod_169 sm_Mod_isField (Nat.le_of_ble_eq_true rfl) (Nat.le_refl _) (Nat.le_refl _) (c_Mod_isField) qI_nt (qI_go (fun x2 i2 hp => ?_))
    obtain ⟨rfl, hq⟩ := hp; subst i2
    cases ha : bw a 1 30 with
    | false =>
      refine wf_if_eq 96 dc_Mod_isAction_79 (by decide) (fun hc => ?_) (fun hc => absurd rfl hc)
      refine wf_iconst 0 dc_Mod_isAction_96 (by decide) ?_
      exact wf_zreturn rfl rfl dc_Mod_isAction_97 ⟨_, rfl, rfl, rfl, rfl, rfl, rfl, rfl⟩
    | true =>
      refine wf_if_eq 96 dc_Mod_isAction_79 (by decide) (fun hc => absurd hc (by decide)) (fun hc => ?_)
      refine wf_iload_n dc_Mod_isAction_82 rfl ?_
      refine wf_iconst 0 dc_Mod_isAction_83 (by decide) ?_
      refine wf_bipush 7 dc_Mod_isAction_84 (by decide) ?_
      refine wf_is3 (M' := mt_Mod_within) dc_Mod_isAction_86 tg_Mod_within ml_Mod_142 sm_Mod_within (Nat.le_of_ble_eq_true rfl) (Nat.le_refl _) (Nat.le_refl _) (c_Mod_within) qI_nt (qI_go (fun x2 i2 hp => ?_))
      obtain ⟨rfl, hq⟩ := hp; subst i2
      rw [e7]
      cases hcc : bw c 0 7 with
      | false =>
        refine wf_if_eq 96 dc_Mod_isAction_89 (by decide) (fun hc => ?_) (fun hc => absurd rfl hc)
        refine wf_iconst 0 dc_Mod_isAction_96 (by decide) ?_
        exact wf_zreturn rfl rfl dc_Mod_isAction_97 ⟨_, rfl, rfl, rfl, rfl, rfl, rfl, rfl⟩
      | true =>
        refine wf_if_eq 96 dc_Mod_isAction_89 (by decide) (fun hc => absurd hc (by decide)) (fun hc => ?_)
        refine wf_iconst 1 dc_Mod_isAction_92 (by decide) ?_
        refine wf_goto 97 dc_Mod_isAction_93 (by decide) ?_
        exact wf_zreturn rfl rfl dc_Mod_isAction_97 ⟨_, rfl, rfl, rfl, rfl, rfl, rfl, rfl⟩
  have fldf : ac_ok p a c = (bw a 1 30 && bw c 1 30) → Wf l E n0 mt_Mod_isAction (d + 2) 0 0 (qI nx t r g (fun z i' => z = wt_b (ac_ok p a c) ∧ i' = i)) 0 0 98 [(1, .int a), (2, .int c)] [] nx t r i g := fun h => by
    rw [h]
    refine wf_iload_n dc_Mod_isAction_98 rfl ?_
    refine wf_is1 (M' := mt_Mod_isField) dc_Mod_isAction_99 tg_Mod_isField ml_Mod_169 sm_Mod_isField (Nat.le_of_ble_eq_true rfl) (Nat.le_refl _) (Nat.le_refl _) (c_Mod_isField) qI_nt (qI_go (fun x2 i2 hp => ?_))
    obtain ⟨rfl, hq⟩ := hp; subst i2
    cases ha : bw a 1 30 with
    | false =>
      refine wf_if_eq 116 dc_Mod_isAction_102 (by decide) (fun hc => ?_) (fun hc => absurd rfl hc)
      refine wf_iconst 0 dc_Mod_isAction_116 (by decide) ?_
      exact wf_zreturn rfl rfl dc_Mod_isAction_117 ⟨_, rfl, rfl, rfl, rfl, rfl, rfl, rfl⟩
    | true =>
      refine wf_if_eq 116 dc_Mod_isAction_102 (by decide) (fun hc => absurd hc (by decide)) (fun hc => ?_)
      refine wf_iload_n dc_Mod_isAction_105 rfl ?_
      refine wf_is1 (M' := mt_Mod_isField) dc_Mod_isAction_106 tg_Mod_isField ml_Mod_169 sm_Mod_isField (Nat.le_of_ble_eq_true rfl) (Nat.le_refl _) (Nat.le_refl _) (c_Mod_isField) qI_nt (qI_go (fun x2 i2 hp => ?_))
      obtain ⟨rfl, hq⟩ := hp; subst i2
      cases hcc : bw c 1 30 with
      | false =>
        refine wf_if_eq 116 dc_Mod_isAction_109 (by decide) (fun hc => ?_) (fun hc => absurd rfl hc)
        refine wf_iconst 0 dc_Mod_isAction_116 (by decide) ?_
        exact wf_zreturn rfl rfl dc_Mod_isAction_117 ⟨_, rfl, rfl, rfl, rfl, rfl, rfl, rfl⟩
      | true =>
        refine wf_if_eq 116 dc_Mod_isAction_109 (by decide) (fun hc => absurd hc (by decide)) (fun hc => ?_)
        refine wf_iconst 1 dc_Mod_isAction_112 (by decide) ?_
        refine wf_goto 117 dc_Mod_isAction_113 (by decide) ?_
        exact wf_zreturn rfl rfl dc_Mod_isAction_117 ⟨_, rfl, rfl, rfl, rfl, rfl, rfl, rfl⟩
  have f55 : ac_ok p a c = (bw a 0 5 && bw c 0 5) → Wf l E n0 mt_Mod_isAction (d + 2) 0 0 (qI nx t r g (fun z i' => z = wt_b (ac_ok p a c) ∧ i' = i)) 0 0 118 [(1, .int a), (2, .int c)] [] nx t r i g := fun h => by
    rw [h]
    refine wf_iload_n dc_Mod_isAction_118 rfl ?_
    refine wf_iconst 0 dc_Mod_isAction_119 (by decide) ?_
    refine wf_iconst 5 dc_Mod_isAction_120 (by decide) ?_
    refine wf_is3 (M' := mt_Mod_within) dc_Mod_isAction_121 tg_Mod_within ml_Mod_142 sm_Mod_within (Nat.le_of_ble_eq_true rfl) (Nat.le_refl _) (Nat.le_refl _) (c_Mod_within) qI_nt (qI_go (fun x2 i2 hp => ?_))
    obtain ⟨rfl, hq⟩ := hp; subst i2
    rw [e5]
    cases ha : bw a 0 5 with
    | false =>
      refine wf_if_eq 140 dc_Mod_isAction_124 (by decide) (fun hc => ?_) (fun hc => absurd rfl hc)
      refine wf_iconst 0 dc_Mod_isAction_140 (by decide) ?_
      exact wf_zreturn rfl rfl dc_Mod_isAction_141 ⟨_, rfl, rfl, rfl, rfl, rfl, rfl, rfl⟩
    | true =>
      refine wf_if_eq 140 dc_Mod_isAction_124 (by decide) (fun hc => absurd hc (by decide)) (fun hc => ?_)
      refine wf_iload_n dc_Mod_isAction_127 rfl ?_
      refine wf_iconst 0 dc_Mod_isAction_128 (by decide) ?_
      refine wf_iconst 5 dc_Mod_isAction_129 (by decide) ?_
      refine wf_is3 (M' := mt_Mod_within) dc_Mod_isAction_130 tg_Mod_within ml_Mod_142 sm_Mod_within (Nat.le_of_ble_eq_true rfl) (Nat.le_refl _) (Nat.le_refl _) (c_Mod_within) qI_nt (qI_go (fun x2 i2 hp => ?_))
      obtain ⟨rfl, hq⟩ := hp; subst i2
      rw [e5]
      cases hcc : bw c 0 5 with
      | false =>
        refine wf_if_eq 140 dc_Mod_isAction_133 (by decide) (fun hc => ?_) (fun hc => absurd rfl hc)
        refine wf_iconst 0 dc_Mod_isAction_140 (by decide) ?_
        exact wf_zreturn rfl rfl dc_Mod_isAction_141 ⟨_, rfl, rfl, rfl, rfl, rfl, rfl, rfl⟩
      | true =>
        refine wf_if_eq 140 dc_Mod_isAction_133 (by decide) (fun hc => absurd hc (by decide)) (fun hc => ?_)
        refine wf_iconst 1 dc_Mod_isAction_136 (by decide) ?_
        refine wf_goto 141 dc_Mod_isAction_137 (by decide) ?_
        exact wf_zreturn rfl rfl dc_Mod_isAction_141 ⟨_, rfl, rfl, rfl, rfl, rfl, rfl, rfl⟩
  have f5 : ac_ok p a c = bw a 0 5 → Wf l E n0 mt_Mod_isAction (d + 2) 0 0 (qI nx t r g (fun z i' => z = wt_b (ac_ok p a c) ∧ i' = i)) 0 0 142 [(1, .int a)] [] nx t r i g := fun h => by
    rw [h]
    refine wf_iload_n dc_Mod_isAction_142 rfl ?_
    refine wf_iconst 0 dc_Mod_isAction_143 (by decide) ?_
    refine wf_iconst 5 dc_Mod_isAction_144 (by decide) ?_
    refine wf_is3 (M' := mt_Mod_within) dc_Mod_isAction_145 tg_Mod_within ml_Mod_142 sm_Mod_within (Nat.le_of_ble_eq_true rfl) (Nat.le_refl _) (Nat.le_refl _) (c_Mod_within) qI_nt (qI_go (fun x2 i2 hp => ?_))
    obtain ⟨rfl, hq⟩ := hp; subst i2
    exact wf_zreturn rfl (wt_bn2 _) dc_Mod_isAction_148 ⟨_, rfl, rfl, rfl, rfl, rfl, rfl, rfl⟩
  have f7 : ac_ok p a c = bw a 0 7 → Wf l E n0 mt_Mod_isAction (d + 2) 0 0 (qI nx t r g (fun z i' => z = wt_b (ac_ok p a c) ∧ i' = i)) 0 0 149 [(1, .int a)] [] nx t r i g := fun h => by
    rw [h]
    refine wf_iload_n dc_Mod_isAction_149 rfl ?_
    refine wf_iconst 0 dc_Mod_isAction_150 (by decide) ?_
    refine wf_bipush 7 dc_Mod_isAction_151 (by decide) ?_
    refine wf_is3 (M' := mt_Mod_within) dc_Mod_isAction_153 tg_Mod_within ml_Mod_142 sm_Mod_within (Nat.le_of_ble_eq_true rfl) (Nat.le_refl _) (Nat.le_refl _) (c_Mod_within) qI_nt (qI_go (fun x2 i2 hp => ?_))
    obtain ⟨rfl, hq⟩ := hp; subst i2
    exact wf_zreturn rfl (wt_bn2 _) dc_Mod_isAction_156 ⟨_, rfl, rfl, rfl, rfl, rfl, rfl, rfl⟩
  refine wf_iload_n dc_Mod_isAction_0 rfl ?_
  rcases tw_in (x := p) (n := 12) (by omega) with h | ⟨j, hj, rfl⟩
  · refine wf_tableOut 157 dc_Mod_isAction_1 (by omega) (by decide) ?_
    refine wf_iconst 0 dc_Mod_isAction_157 (by decide) ?_
    have hf : ac_ok p a c = false := by
      rw [← Bool.not_eq_true]
      intro z
      obtain ⟨j, hj, rfl⟩ := ac_cases z
      rw [nI_toInt (by omega)] at h
      omega
    rw [hf]
    exact wf_zreturn rfl rfl dc_Mod_isAction_158 ⟨_, rfl, rfl, rfl, rfl, rfl, rfl, rfl⟩
  · have hc : j = 0 ∨ j = 1 ∨ j = 2 ∨ j = 3 ∨ j = 4 ∨ j = 5 ∨ j = 6 ∨ j = 7 ∨ j = 8 ∨ j = 9 ∨ j = 10 ∨ j = 11 ∨ j = 12 := by omega
    rcases hc with z | z | z | z | z | z | z | z | z | z | z | z | z <;> subst z
    · refine wf_tableIn (off := 67) 68 dc_Mod_isAction_1 (by decide) (by decide) rfl (by decide) ?_
      exact Wf.to (by trivial) (one rfl)
    · refine wf_tableIn (off := 69) 70 dc_Mod_isAction_1 (by decide) (by decide) rfl (by decide) ?_
      exact Wf.to (by exact ⟨rfl, trivial⟩) (fld1 rfl)
    · refine wf_tableIn (off := 74) 75 dc_Mod_isAction_1 (by decide) (by decide) rfl (by decide) ?_
      exact Wf.to (by exact ⟨rfl, rfl, trivial⟩) (fld7 rfl)
    · refine wf_tableIn (off := 69) 70 dc_Mod_isAction_1 (by decide) (by decide) rfl (by decide) ?_
      exact Wf.to (by exact ⟨rfl, trivial⟩) (fld1 rfl)
    · refine wf_tableIn (off := 97) 98 dc_Mod_isAction_1 (by decide) (by decide) rfl (by decide) ?_
      exact Wf.to (by exact ⟨rfl, rfl, trivial⟩) (fldf rfl)
    · refine wf_tableIn (off := 74) 75 dc_Mod_isAction_1 (by decide) (by decide) rfl (by decide) ?_
      exact Wf.to (by exact ⟨rfl, rfl, trivial⟩) (fld7 rfl)
    · refine wf_tableIn (off := 117) 118 dc_Mod_isAction_1 (by decide) (by decide) rfl (by decide) ?_
      exact Wf.to (by exact ⟨rfl, rfl, trivial⟩) (f55 rfl)
    · refine wf_tableIn (off := 117) 118 dc_Mod_isAction_1 (by decide) (by decide) rfl (by decide) ?_
      exact Wf.to (by exact ⟨rfl, rfl, trivial⟩) (f55 rfl)
    · refine wf_tableIn (off := 141) 142 dc_Mod_isAction_1 (by decide) (by decide) rfl (by decide) ?_
      exact Wf.to (by exact ⟨rfl, trivial⟩) (f5 rfl)
    · refine wf_tableIn (off := 148) 149 dc_Mod_isAction_1 (by decide) (by decide) rfl (by decide) ?_
      exact Wf.to (by exact ⟨rfl, trivial⟩) (f7 rfl)
    · refine wf_tableIn (off := 67) 68 dc_Mod_isAction_1 (by decide) (by decide) rfl (by decide) ?_
      exact Wf.to (by trivial) (one rfl)
    · refine wf_tableIn (off := 148) 149 dc_Mod_isAction_1 (by decide) (by decide) rfl (by decide) ?_
      exact Wf.to (by exact ⟨rfl, trivial⟩) (f7 rfl)
    · refine wf_tableIn (off := 148) 149 dc_Mod_isAction_1 (by decide) (by decide) rfl (by decide) ?_
      exact Wf.to (by exact ⟨rfl, trivial⟩) (f7 rfl)
theorem c_Mod_action {ru : List RuS} {x p y z : Int32} (hA : mo_at t r m) (hR : mp_rul i m ru) (h12 : ru.length ≤ 12) (h10 : ∀ k, k < ru.length → (ru_d ru k).2.2.2.length ≤ 10) : Ct l E n0 mt_Mod_action (d + 3) 0 0 [.ref (m + 0), .int x, .int p, .int y, .int z] nx t r i g (qI nx t r g (fun v i' => if bw x 0 ((ru.length : Int) - 1) = true ∧ ac_ok p y z = true then (if (ru_d ru x.toNatClampNeg).2.2.2.length = 10 then i' = wf_up i (m + 0) 0 2 else v = nI ((ru_d ru x.toNatClampNeg).2.2.2.length + 1) ∧ i' (m + 0) 0 = 0 ∧ mp_rul i' m (ru.set x.toNatClampNeg ((ru_d ru x.toNatClampNeg).1, (ru_d ru x.toNatClampNeg).2.1, (ru_d ru x.toNatClampNeg).2.2.1, (ru_d ru x.toNatClampNeg).2.2.2 ++ [(p, y, z)])) ∧ mf m at_S i i') else i' = wf_up i (m + 0) 0 1)) := by
  have t0 := hA.1.1
  have r10 : r (m + 0) 10 = some (m + 8) := hA.2 (0, 10, 8) (by decide +kernel)
  have r11 : r (m + 0) 11 = some (m + 9) := hA.2 (0, 11, 9) (by decide +kernel)
  have r12 : r (m + 0) 12 = some (m + 10) := hA.2 (0, 12, 10) (by decide +kernel)
  have r13 : r (m + 0) 13 = some (m + 11) := hA.2 (0, 13, 11) (by decide +kernel)
  have t8 := hA.1.2 8 (8, .inr (0, 12)) (by decide +kernel)
  have t9 := hA.1.2 9 (9, .inr (0, 120)) (by decide +kernel)
  have t10 := hA.1.2 10 (10, .inr (0, 120)) (by decide +kernel)
  have t11 := hA.1.2 11 (11, .inr (0, 120)) (by decide +kernel)
  generalize hQ : (qI nx t r g (fun v i' => if bw x 0 ((ru.length : Int) - 1) = true ∧ ac_ok p y z = true then (if (ru_d ru x.toNatClampNeg).2.2.2.length = 10 then i' = wf_up i (m + 0) 0 2 else v = nI ((ru_d ru x.toNatClampNeg).2.2.2.length + 1) ∧ i' (m + 0) 0 = 0 ∧ mp_rul i' m (ru.set x.toNatClampNeg ((ru_d ru x.toNatClampNeg).1, (ru_d ru x.toNatClampNeg).2.1, (ru_d ru x.toNatClampNeg).2.2.1, (ru_d ru x.toNatClampNeg).2.2.2 ++ [(p, y, z)])) ∧ mf m at_S i i') else i' = wf_up i (m + 0) 0 1)) = Q0
  refine Ct.of (by decide) (Nat.le_of_ble_eq_true rfl) ?_
  have no : ¬ (bw x 0 ((ru.length : Int) - 1) = true ∧ ac_ok p y z = true) → Wf l E n0 mt_Mod_action (d + 3) 0 0 Q0 0 0 26 [(0, .ref (m + 0)), (1, .int x), (2, .int p), (3, .int y), (4, .int z)] [] nx t r i g := fun hb => by
    refine wf_iconst 0 dc_Mod_action_26 (by decide) ?_
    refine wf_istore dc_Mod_action_27 (by decide) ?_
    refine wf_aload_n dc_Mod_action_29 rfl ?_
    refine wf_iload dc_Mod_action_30 rfl ?_
    refine wf_iload dc_Mod_action_32 rfl ?_
    refine wf_if_eq 52 dc_Mod_action_34 (by decide) (fun hc => ?_) (fun hc => absurd rfl hc)
    refine wf_iconst 0 dc_Mod_action_52 (by decide) ?_
    refine wf_iv2 (M' := mt_Mod_goes) (c := 8) dc_Mod_action_53 tg_Mod_goes ml_Mod_106 im_Mod_goes se_Mod_goes ⟨_, rfl, rfl⟩ (by assumption) (Nat.le_of_ble_eq_true rfl) (Nat.le_refl _) (Nat.le_refl _) (c_Mod_goes (a := false) (c := false) hA) qI_nt (qI_go (fun x2 i2 hp => ?_))
    obtain ⟨rfl, rfl⟩ := hp
    refine wf_if_ne 61 dc_Mod_action_56 (by decide) (fun hc => absurd rfl hc) (fun hc => ?_)
    refine wf_iconst 0 dc_Mod_action_59 (by decide) ?_
    rw [← hQ]
    refine wf_ireturn rfl dc_Mod_action_60 ⟨_, rfl, rfl, rfl, rfl, rfl, ?_⟩
    dsimp only
    rw [if_neg hb]
    rfl
  refine wf_iload_n dc_Mod_action_0 rfl ?_
  refine wf_if_lt 26 dc_Mod_action_1 (by decide) (fun h1 => ?_) (fun h1 => ?_)
  · exact Wf.to (by exact ⟨rfl, rfl, rfl, rfl, rfl, trivial⟩) (no (fun q => ((bw_row (by omega)).mpr q.1).1 h1))
  refine wf_iload_n dc_Mod_action_4 rfl ?_
  refine wf_aload_n dc_Mod_action_5 rfl ?_
  refine wf_geti dc_Mod_action_6 fl_Mod_172 rfl (by assumption) ?_
  rw [hR.1]
  refine wf_icmp_ge 26 dc_Mod_action_9 (by decide) (fun hc => ?_) (fun hc => ?_)
  · exact Wf.to (by exact ⟨rfl, rfl, rfl, rfl, rfl, trivial⟩) (no (fun q => Int32.not_lt.mpr hc ((bw_row (by omega)).mpr q.1).2))
  have hb : bw x 0 ((ru.length : Int) - 1) = true := (bw_row (by omega)).mp ⟨h1, Int32.not_le.mp hc⟩
  refine wf_iload_n dc_Mod_action_12 rfl ?_
  refine wf_iload_n dc_Mod_action_13 rfl ?_
  refine wf_iload dc_Mod_action_14 rfl ?_
  refine wf_is3 (M' := mt_Mod_isAction) dc_Mod_action_16 tg_Mod_isAction ml_Mod_175 sm_Mod_isAction (Nat.le_of_ble_eq_true rfl) (Nat.le_refl _) (Nat.le_refl _) (c_Mod_isAction) qI_nt (qI_go (fun x2 i2 hp => ?_))
  obtain ⟨rfl, hq⟩ := hp; subst i2
  cases ha : ac_ok p y z with
  | false =>
    refine wf_if_eq 26 dc_Mod_action_19 (by decide) (fun hc => ?_) (fun hc => absurd rfl hc)
    exact Wf.to (by exact ⟨rfl, rfl, rfl, rfl, rfl, trivial⟩) (no (fun q => by rw [ha] at q; exact absurd q.2 (by decide)))
  | true =>
    refine wf_if_eq 26 dc_Mod_action_19 (by decide) (fun hc => absurd hc (by decide)) (fun hc => ?_)
    obtain ⟨k, hk, rfl⟩ := bw_k (by omega) hb
    have cl : (nI k).toNatClampNeg = k := nI_clamp (by omega)
    rw [cl] at hQ
    obtain ⟨b1, b2, b3, b4, b5⟩ := hR.2 k hk
    have hA10 := h10 k hk
    refine wf_iconst 1 dc_Mod_action_22 (by decide) ?_
    refine wf_goto 27 dc_Mod_action_23 (by decide) ?_
    refine wf_istore dc_Mod_action_27 (by decide) ?_
    refine wf_aload_n dc_Mod_action_29 rfl ?_
    refine wf_iload dc_Mod_action_30 rfl ?_
    refine wf_iload dc_Mod_action_32 rfl ?_
    refine wf_if_eq 52 dc_Mod_action_34 (by decide) (fun hc => absurd hc (by decide)) (fun hc => ?_)
    refine wf_aload_n dc_Mod_action_37 rfl ?_
    refine wf_getr dc_Mod_action_38 fl_Mod_35 rfl (by assumption) (by assumption) ?_
    refine wf_iload_n dc_Mod_action_41 rfl ?_
    refine wf_iaload (y := 0) dc_Mod_action_42 rfl (by assumption) (vp_in_nI (by omega) (by omega)) ?_
    rw [cl, b4]
    refine wf_bipush 10 dc_Mod_action_43 (by decide) ?_
    by_cases hful : (ru_d ru k).2.2.2.length = 10
    · refine wf_icmp_ge 52 dc_Mod_action_45 (by decide) (fun hc => ?_) (fun hc => absurd ((nI_leI (a := 10) (by omega) (by omega)).mpr (by omega)) hc)
      refine wf_iconst 0 dc_Mod_action_52 (by decide) ?_
      refine wf_iv2 (M' := mt_Mod_goes) (c := 8) dc_Mod_action_53 tg_Mod_goes ml_Mod_106 im_Mod_goes se_Mod_goes ⟨_, rfl, rfl⟩ (by assumption) (Nat.le_of_ble_eq_true rfl) (Nat.le_refl _) (Nat.le_refl _) (c_Mod_goes (a := true) (c := false) hA) qI_nt (qI_go (fun x2 i2 hp => ?_))
      obtain ⟨rfl, rfl⟩ := hp
      refine wf_if_ne 61 dc_Mod_action_56 (by decide) (fun hc => absurd rfl hc) (fun hc => ?_)
      refine wf_iconst 0 dc_Mod_action_59 (by decide) ?_
      rw [← hQ]
      refine wf_ireturn rfl dc_Mod_action_60 ⟨_, rfl, rfl, rfl, rfl, rfl, ?_⟩
      dsimp only
      rw [if_pos ⟨hb, ha⟩, if_pos hful]
      rfl
    · refine wf_icmp_ge 52 dc_Mod_action_45 (by decide) (fun hc => absurd ((nI_leI (a := 10) (by omega) (by omega)).mp hc) (by omega)) (fun hc => ?_)
      refine wf_iconst 1 dc_Mod_action_48 (by decide) ?_
      refine wf_goto 53 dc_Mod_action_49 (by decide) ?_
      refine wf_iv2 (M' := mt_Mod_goes) (c := 8) dc_Mod_action_53 tg_Mod_goes ml_Mod_106 im_Mod_goes se_Mod_goes ⟨_, rfl, rfl⟩ (by assumption) (Nat.le_of_ble_eq_true rfl) (Nat.le_refl _) (Nat.le_refl _) (c_Mod_goes (a := true) (c := true) hA) qI_nt (qI_go (fun x2 i2 hp => ?_))
      obtain ⟨rfl, rfl⟩ := hp
      refine wf_if_ne 61 dc_Mod_action_56 (by decide) (fun hc => ?_) (fun hc => absurd hc (by decide))
      generalize hn0 : (ru_d ru k).2.2.2.length = n at b4 b5 hA10 hful
      have f0 : mf m at_S i (wf_up i (m + 0) 0 (th_of true true)) := mf_up mf_rf ⟨(0, 0, 1), by simp [at_S], rfl, by decide, by decide⟩
      have z0 : wf_up i (m + 0) 0 (th_of true true) (m + 0) 0 = 0 := wf_up_s
      have k0 : ∀ c j, 1 ≤ c → wf_up i (m + 0) 0 (th_of true true) (m + c) j = i (m + c) j := fun c j hc => up_b (by omega)
      have k6 : wf_up i (m + 0) 0 (th_of true true) (m + 0) 6 = i (m + 0) 6 := up_b (by omega)
      generalize wf_up i (m + 0) 0 (th_of true true) = i0 at f0 z0 k0 k6 ⊢
      refine wf_bipush 10 dc_Mod_action_61 (by decide) ?_
      refine wf_iload_n dc_Mod_action_63 rfl ?_
      refine wf_imul dc_Mod_action_64 ?_
      rw [show (10 : Int32) * nI k = nI (10 * k) from nI_mul 10 k]
      refine wf_aload_n dc_Mod_action_65 rfl ?_
      refine wf_getr dc_Mod_action_66 fl_Mod_35 rfl (by assumption) (by assumption) ?_
      refine wf_iload_n dc_Mod_action_69 rfl ?_
      refine wf_iaload (y := 0) dc_Mod_action_70 rfl (by assumption) (vp_in_nI (by omega) (by omega)) ?_
      rw [cl, k0 8 k (by omega), b4]
      refine wf_iadd dc_Mod_action_71 ?_
      rw [nI_add]
      have cq : (nI (10 * k + n)).toNatClampNeg = 10 * k + n := nI_clamp (by omega)
      refine wf_istore dc_Mod_action_72 (by decide) ?_
      refine wf_aload_n dc_Mod_action_74 rfl ?_
      refine wf_getr dc_Mod_action_75 fl_Mod_38 rfl (by assumption) (by assumption) ?_
      refine wf_iload dc_Mod_action_78 rfl ?_
      refine wf_iload_n dc_Mod_action_80 rfl ?_
      refine wf_iastore (y := 0) dc_Mod_action_81 rfl (by decide) (by assumption) (vp_in_nI (by omega) (by omega)) ?_
      rw [cq]
      refine wf_aload_n dc_Mod_action_82 rfl ?_
      refine wf_getr dc_Mod_action_83 fl_Mod_41 rfl (by assumption) (by assumption) ?_
      refine wf_iload dc_Mod_action_86 rfl ?_
      refine wf_iload_n dc_Mod_action_88 rfl ?_
      refine wf_iastore (y := 0) dc_Mod_action_89 rfl (by decide) (by assumption) (vp_in_nI (by omega) (by omega)) ?_
      rw [cq]
      refine wf_aload_n dc_Mod_action_90 rfl ?_
      refine wf_getr dc_Mod_action_91 fl_Mod_44 rfl (by assumption) (by assumption) ?_
      refine wf_iload dc_Mod_action_94 rfl ?_
      refine wf_iload dc_Mod_action_96 rfl ?_
      refine wf_iastore (y := 0) dc_Mod_action_98 rfl (by decide) (by assumption) (vp_in_nI (by omega) (by omega)) ?_
      rw [cq]
      have f3 : mf m at_S i (wf_up (wf_up (wf_up i0 (m + 9) (10 * k + n) p) (m + 10) (10 * k + n) y) (m + 11) (10 * k + n) z) := mf_up (mf_up (mf_up f0 ⟨(9, 0, 120), by simp [at_S], rfl, Nat.zero_le _, by simp only; omega⟩) ⟨(10, 0, 120), by simp [at_S], rfl, Nat.zero_le _, by simp only; omega⟩) ⟨(11, 0, 120), by simp [at_S], rfl, Nat.zero_le _, by simp only; omega⟩
      have v9 : ∀ j, wf_up (wf_up (wf_up i0 (m + 9) (10 * k + n) p) (m + 10) (10 * k + n) y) (m + 11) (10 * k + n) z (m + 9) j = if j = 10 * k + n then p else i (m + 9) j := fun j => by
        rw [wf_up_a (by omega), wf_up_a (by omega)]
        by_cases hj : j = 10 * k + n
        · rw [if_pos hj, hj, wf_up_s]
        · rw [if_neg hj, wf_up_k hj, k0 9 j (by omega)]
      have v10 : ∀ j, wf_up (wf_up (wf_up i0 (m + 9) (10 * k + n) p) (m + 10) (10 * k + n) y) (m + 11) (10 * k + n) z (m + 10) j = if j = 10 * k + n then y else i (m + 10) j := fun j => by
        rw [wf_up_a (by omega)]
        by_cases hj : j = 10 * k + n
        · rw [if_pos hj, hj, wf_up_s]
        · rw [if_neg hj, wf_up_k hj, wf_up_a (by omega), k0 10 j (by omega)]
      have v11 : ∀ j, wf_up (wf_up (wf_up i0 (m + 9) (10 * k + n) p) (m + 10) (10 * k + n) y) (m + 11) (10 * k + n) z (m + 11) j = if j = 10 * k + n then z else i (m + 11) j := fun j => by
        by_cases hj : j = 10 * k + n
        · rw [if_pos hj, hj, wf_up_s]
        · rw [if_neg hj, wf_up_k hj, wf_up_a (by omega), wf_up_a (by omega), k0 11 j (by omega)]
      have v5 : ∀ c j, 1 ≤ c → c ≤ 8 → wf_up (wf_up (wf_up i0 (m + 9) (10 * k + n) p) (m + 10) (10 * k + n) y) (m + 11) (10 * k + n) z (m + c) j = i (m + c) j := fun c j h1 h2 => by
        rw [wf_up_a (by omega), wf_up_a (by omega), wf_up_a (by omega), k0 c j (by omega)]
      have v6 : wf_up (wf_up (wf_up i0 (m + 9) (10 * k + n) p) (m + 10) (10 * k + n) y) (m + 11) (10 * k + n) z (m + 0) 6 = i (m + 0) 6 := by
        rw [wf_up_a (by omega), wf_up_a (by omega), wf_up_a (by omega), k6]
      have v0 : wf_up (wf_up (wf_up i0 (m + 9) (10 * k + n) p) (m + 10) (10 * k + n) y) (m + 11) (10 * k + n) z (m + 0) 0 = 0 := by
        rw [wf_up_a (by omega), wf_up_a (by omega), wf_up_a (by omega), z0]
      generalize wf_up (wf_up (wf_up i0 (m + 9) (10 * k + n) p) (m + 10) (10 * k + n) y) (m + 11) (10 * k + n) z = i3 at f3 v9 v10 v11 v5 v6 v0 ⊢
      refine wf_aload_n dc_Mod_action_99 rfl ?_
      refine wf_getr dc_Mod_action_100 fl_Mod_35 rfl (by assumption) (by assumption) ?_
      refine wf_iload_n dc_Mod_action_103 rfl ?_
      refine wf_dup2 dc_Mod_action_104 rfl rfl ?_
      refine wf_iaload (y := 0) dc_Mod_action_105 rfl (by assumption) (vp_in_nI (by omega) (by omega)) ?_
      rw [cl, v5 8 k (by omega) (by omega), b4]
      refine wf_iconst 1 dc_Mod_action_106 (by decide) ?_
      refine wf_iadd dc_Mod_action_107 ?_
      rw [nI_1]
      refine wf_iastore (y := 0) dc_Mod_action_108 rfl (by decide) (by assumption) (vp_in_nI (by omega) (by omega)) ?_
      rw [cl]
      refine wf_aload_n dc_Mod_action_109 rfl ?_
      refine wf_getr dc_Mod_action_110 fl_Mod_35 rfl (by assumption) (by assumption) ?_
      refine wf_iload_n dc_Mod_action_113 rfl ?_
      refine wf_iaload (y := 0) dc_Mod_action_114 rfl (by assumption) (vp_in_nI (by omega) (by omega)) ?_
      rw [cl, wf_up_s]
      rw [← hQ]
      refine wf_ireturn rfl dc_Mod_action_115 ⟨_, rfl, rfl, rfl, rfl, rfl, ?_⟩
      dsimp only
      rw [if_pos ⟨hb, ha⟩, hn0, if_neg hful]
      refine ⟨rfl, (wf_up_a (by omega)).trans v0, ⟨?_, fun q hq => ?_⟩, mf_up f3 ⟨(8, 0, 12), by simp [at_S], rfl, Nat.zero_le _, by simp only; omega⟩⟩
      · rw [wf_up_a (by omega), v6, List.length_set]
        exact hR.1
      · rw [List.length_set] at hq
        rw [ru_ds hq]
        obtain ⟨a1, a2, a3, a4, a5⟩ := hR.2 q hq
        have hq10 := h10 q hq
        by_cases hqk : q = k
        · subst hqk
          rw [if_pos rfl]
          simp only
          rw [wf_up_a (by omega), wf_up_a (by omega), wf_up_a (by omega), wf_up_s, v5 5 q (by omega) (by omega), v5 6 q (by omega) (by omega), v5 7 q (by omega) (by omega), List.length_append, List.length_singleton, hn0]
          refine ⟨a1, a2, a3, rfl, fun j hj => ?_⟩
          rw [wf_up_a (by omega), wf_up_a (by omega), wf_up_a (by omega), v9, v10, v11]
          by_cases hjn : j = n
          · rw [if_pos (by omega), if_pos (by omega), if_pos (by omega), hjn, ← hn0, gt_n]
            exact ⟨rfl, rfl, rfl⟩
          · rw [if_neg (by omega), if_neg (by omega), if_neg (by omega), gt_l (by omega)]
            exact a5 j (by omega)
        · rw [if_neg hqk]
          rw [wf_up_a (by omega), wf_up_a (by omega), wf_up_a (by omega), wf_up_k hqk, v5 5 q (by omega) (by omega), v5 6 q (by omega) (by omega), v5 7 q (by omega) (by omega), v5 8 q (by omega) (by omega)]
          refine ⟨a1, a2, a3, a4, fun j hj => ?_⟩
          rw [wf_up_a (by omega), wf_up_a (by omega), wf_up_a (by omega), v9, v10, v11, if_neg (by omega), if_neg (by omega), if_neg (by omega)]
          exact a5 j hj
end
