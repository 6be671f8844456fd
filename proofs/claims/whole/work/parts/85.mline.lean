/-! the reference: line -/
theorem rp_ne {c : Nat} (h : (3 ≤ c ∧ c ≤ 11) ∨ (14 ≤ c ∧ c ≤ 18)) : ∀ q ∈ rp_S, q.1 ≠ c := by
  intro q hq
  simp only [rp_S, sk_S, mr_S, mF_S, List.mem_append, List.mem_cons, List.not_mem_nil, or_false] at hq
  rcases hq with ((hq | hq) | hq) | hq
  · rcases hq with rfl | rfl | rfl | rfl | rfl | rfl | rfl | rfl | rfl | rfl | rfl <;> simp only <;> omega
  · rcases hq with rfl | rfl <;> simp only <;> omega
  · rcases hq with rfl | rfl <;> simp only <;> omega
  · rcases hq with rfl | rfl | rfl <;> simp only <;> omega
theorem ac_ne {c : Nat} (h : 3 ≤ c ∧ c ≤ 11) : ∀ q ∈ ac_S, q.1 ≠ c := by
  intro q hq
  unfold ac_S at hq
  rcases List.mem_append.mp hq with hq | hq
  · rcases List.mem_append.mp hq with hq | hq
    · rcases List.mem_append.mp hq with hq | hq
      · exact rp_ne (by omega) q hq
      · simp only [mo_S, List.mem_cons, List.not_mem_nil, or_false] at hq
        rcases hq with rfl | rfl <;> simp only <;> omega
    · simp only [mK_S, List.mem_cons, List.not_mem_nil, or_false] at hq
      rcases hq with rfl | rfl | rfl | rfl <;> simp only <;> omega
  · rw [List.mem_singleton.mp hq]; simp only; omega
theorem da_10 {sx tx : Nat → List Int32} {sp : Int32} {lc : Nat} {p a c : Int32} {v : LnS} : (if p = 10 then v else da_of sx tx sp lc p a c v) = da_of sx tx sp lc p a c v := by
  by_cases h : p = 10
  · rw [if_pos h, h]; rfl
  · rw [if_neg h]
section
variable {l : Launch} {E : We} {n0 d nx : Nat} {t : Wt} {r : Wr} {i i1 i2 : Wi} {g : Wl} {m : Nat} {S : Ms}
theorem c_Mod_line_l {sx tx : Nat → List Int32} {sp : Int32} {lc : Nat} {ru : List RuS} {Q : Wq} (hA : mo_at t r m) (hX : mp_exp i m sx) (hT : mp_txt i m tx) (hL : i (m + 0) 14 = nI lc) (hS : i (m + 0) 5 = sp) (hsp : ∃ c : Nat, 1 ≤ c ∧ c < 256 ∧ sp = nI c) (hR : mp_rul i m ru) (h12 : ru.length ≤ 12) (hok : ∀ k, k < ru.length → ru_ok (ru_d ru k)) :
    ∀ (c n h : Nat) (mo : Bool) (v : LnS) (i1 : Wi), n + c = ru.length → h ≤ n → mn_is i1 m v → lv_ok v → v.2.2.2.2.length + 1210 * c < 1999980000 → mf m ac_S i i1 →
    (∀ x v' i2, (x, v') = (if mo = true then lns_of sx tx sp lc (ru.drop n) h v else (h, v)) → mn_is i2 m v' → mf m ac_S i i2 → Q (.inl (some (.int (nI x)))) nx t r i2 g) →
    Wf l E n0 mt_Mod_line (d + 6) 0 0 Q 0 0 38 [(0, .ref (m + 0)), (1, .int (nI h)), (2, .int (wt_b mo)), (3, .int (nI n))] [] nx t r i1 g := by
  have t0 := hA.1.1
  have r7 : r (m + 0) 7 = some (m + 5) := hA.2 (0, 7, 5) (by decide +kernel)
  have r8 : r (m + 0) 8 = some (m + 6) := hA.2 (0, 8, 6) (by decide +kernel)
  have r9 : r (m + 0) 9 = some (m + 7) := hA.2 (0, 9, 7) (by decide +kernel)
  have r10 : r (m + 0) 10 = some (m + 8) := hA.2 (0, 10, 8) (by decide +kernel)
  have r11 : r (m + 0) 11 = some (m + 9) := hA.2 (0, 11, 9) (by decide +kernel)
  have r12 : r (m + 0) 12 = some (m + 10) := hA.2 (0, 12, 10) (by decide +kernel)
  have r13 : r (m + 0) 13 = some (m + 11) := hA.2 (0, 13, 11) (by decide +kernel)
  have t5 := hA.1.2 5 (5, .inr (0, 12)) (by decide +kernel)
  have t6 := hA.1.2 6 (6, .inr (0, 12)) (by decide +kernel)
  have t7 := hA.1.2 7 (7, .inr (0, 12)) (by decide +kernel)
  have t8 := hA.1.2 8 (8, .inr (0, 12)) (by decide +kernel)
  have t9 := hA.1.2 9 (9, .inr (0, 120)) (by decide +kernel)
  have t10 := hA.1.2 10 (10, .inr (0, 120)) (by decide +kernel)
  have t11 := hA.1.2 11 (11, .inr (0, 120)) (by decide +kernel)
  have fR : ∀ i1, mf m ac_S i i1 → mp_rul i1 m ru := fun i1 h => hR.fr h (ac_no (by omega)) (fun c c1 c2 => ac_ne (by omega))
  have fL : ∀ i1, mf m ac_S i i1 → i1 (m + 0) 14 = nI lc := fun i1 h => (h.at (ac_no (by omega))).trans hL
  have fS : ∀ i1, mf m ac_S i i1 → i1 (m + 0) 5 = sp := fun i1 h => (h.at (ac_no (by omega))).trans hS
  intro c
  induction c with
  | zero =>
    intro n h mo v i1 hn hh hI hv hl hf hQ
    refine wf_iload_n dc_Mod_line_38 rfl ?_
    refine wf_aload_n dc_Mod_line_39 rfl ?_
    refine wf_geti dc_Mod_line_40 fl_Mod_172 rfl (by assumption) ?_
    rw [(fR i1 hf).1]
    refine wf_icmp_ge 159 dc_Mod_line_43 (by decide) (fun hc => ?_) (fun hc => absurd ((nI_leI (by omega) (by omega)).mpr (by omega)) hc)
    refine wf_iload_n dc_Mod_line_159 rfl ?_
    have hnil : ru.drop n = [] := List.drop_eq_nil_of_le (by omega)
    exact wf_ireturn rfl dc_Mod_line_160 (hQ h v i1 (by rw [hnil]; cases mo <;> rfl) hI hf)
  | succ c ih =>
    intro n h mo v i1 hn hh hI hv hl hf hQ
    have hlt : n < ru.length := by omega
    have cn : (nI n).toNatClampNeg = n := nI_clamp (by omega)
    rw [rd_s hlt] at hQ
    have hk := hok n hlt
    refine wf_iload_n dc_Mod_line_38 rfl ?_
    refine wf_aload_n dc_Mod_line_39 rfl ?_
    refine wf_geti dc_Mod_line_40 fl_Mod_172 rfl (by assumption) ?_
    rw [(fR i1 hf).1]
    refine wf_icmp_ge 159 dc_Mod_line_43 (by decide) (fun hc => absurd ((nI_leI (by omega) (by omega)).mp hc) (by omega)) (fun hc => ?_)
    refine wf_iload_n dc_Mod_line_46 rfl ?_
    cases mo with
    | false =>
      refine wf_if_eq 159 dc_Mod_line_47 (by decide) (fun _ => ?_) (fun hc => absurd rfl hc)
      refine wf_iload_n dc_Mod_line_159 rfl ?_
      exact wf_ireturn rfl dc_Mod_line_160 (hQ h v i1 rfl hI hf)
    | true =>
      refine wf_if_eq 159 dc_Mod_line_47 (by decide) (fun hc => absurd hc (by decide)) (fun _ => ?_)
      obtain ⟨u0, u1, u2, -, -⟩ := (fR i1 hf).2 n hlt
      refine wf_aload_n dc_Mod_line_50 rfl ?_
      refine wf_aload_n dc_Mod_line_51 rfl ?_
      refine wf_getr dc_Mod_line_52 fl_Mod_26 rfl (by assumption) (by assumption) ?_
      refine wf_iload_n dc_Mod_line_55 rfl ?_
      refine wf_iaload (y := 0) dc_Mod_line_56 rfl (by assumption) (vp_in_nI (by omega) (by omega)) ?_
      rw [cn, u0]
      refine wf_aload_n dc_Mod_line_57 rfl ?_
      refine wf_getr dc_Mod_line_58 fl_Mod_29 rfl (by assumption) (by assumption) ?_
      refine wf_iload_n dc_Mod_line_61 rfl ?_
      refine wf_iaload (y := 0) dc_Mod_line_62 rfl (by assumption) (vp_in_nI (by omega) (by omega)) ?_
      rw [cn, u1]
      refine wf_aload_n dc_Mod_line_63 rfl ?_
      refine wf_getr dc_Mod_line_64 fl_Mod_32 rfl (by assumption) (by assumption) ?_
      refine wf_iload_n dc_Mod_line_67 rfl ?_
      refine wf_iaload (y := 0) dc_Mod_line_68 rfl (by assumption) (vp_in_nI (by omega) (by omega)) ?_
      rw [cn, u2]
      refine wf_iv3 (M' := mt_Mod_has) (c := 8) dc_Mod_line_69 tg_Mod_has ml_Mod_244 im_Mod_has se_Mod_has ⟨_, rfl, rfl⟩ (by assumption) (Nat.le_of_ble_eq_true rfl) (Nat.le_refl _) (Nat.le_refl _) (c_Mod_has (u := ru_d ru n) hA (hX.ac hf) (fL i1 hf) hI hv hk.2.1) qI_nt (qI_go (fun x2 i2 hp => ?_))
      obtain ⟨⟨hI2, hf2⟩, hz⟩ := hp
      have f2 := mf_ss hf hf2
      rcases hz with ⟨rfl, hz⟩ | ⟨rfl, hz⟩
      · refine wf_if_eq 153 dc_Mod_line_72 (by decide) (fun hc => absurd hc (by decide)) (fun _ => ?_)
        have h10 := hk.1
        -- the actions from j on
        have inner : ∀ (c2 j : Nat) (f : Bool) (w : LnS) (i1 : Wi), j + c2 = (ru_d ru n).2.2.2.length → mn_is i1 m w → lv_ok w → w.2.2.2.2.length + 121 * c2 + 1210 * c < 1999980000 → mf m ac_S i i1 →
            (∀ v' i2, v' = das_of sx tx sp lc ((ru_d ru n).2.2.2.drop j) w → lv_ok v' → v'.2.2.2.2.length + 1210 * c < 1999980000 → mn_is i2 m v' → mf m ac_S i i2 → Wf l E n0 mt_Mod_line (d + 6) 0 0 Q 0 0 153 [(0, .ref (m + 0)), (1, .int (nI (h + 1))), (2, .int (wt_b (f && das_b ((ru_d ru n).2.2.2.drop j)))), (3, .int (nI n))] [] nx t r i2 g) →
            Wf l E n0 mt_Mod_line (d + 6) 0 0 Q 0 0 84 [(0, .ref (m + 0)), (1, .int (nI (h + 1))), (2, .int (wt_b f)), (3, .int (nI n)), (4, .int (nI (10 * n + j)))] [] nx t r i1 g := by
          intro c2
          induction c2 with
          | zero =>
            intro j f w i1 hj p1 p2 p3 p4 kk
            obtain ⟨-, -, -, u3, -⟩ := (fR i1 p4).2 n hlt
            refine wf_iload dc_Mod_line_84 rfl ?_
            refine wf_bipush 10 dc_Mod_line_86 (by decide) ?_
            refine wf_iload_n dc_Mod_line_88 rfl ?_
            refine wf_imul dc_Mod_line_89 ?_
            rw [show (10 : Int32) * nI n = nI (10 * n) from nI_mul 10 n]
            refine wf_aload_n dc_Mod_line_90 rfl ?_
            refine wf_getr dc_Mod_line_91 fl_Mod_35 rfl (by assumption) (by assumption) ?_
            refine wf_iload_n dc_Mod_line_94 rfl ?_
            refine wf_iaload (y := 0) dc_Mod_line_95 rfl (by assumption) (vp_in_nI (by omega) (by omega)) ?_
            rw [cn, u3]
            refine wf_iadd dc_Mod_line_96 ?_
            rw [nI_add]
            refine wf_icmp_ge 153 dc_Mod_line_97 (by decide) (fun hc => ?_) (fun hc => absurd ((nI_leI (by omega) (by omega)).mpr (by omega)) hc)
            have hnil : (ru_d ru n).2.2.2.drop j = [] := List.drop_eq_nil_of_le (by omega)
            rw [hnil] at kk
            have := kk w i1 rfl p2 (by omega) p1 p4
            rw [show (f && das_b []) = f from Bool.and_true f] at this
            exact Wf.to (by exact ⟨rfl, rfl, rfl, rfl, trivial⟩) this
          | succ c2 ih2 =>
            intro j f w i1 hj p1 p2 p3 p4 kk
            obtain ⟨-, -, -, u3, u4⟩ := (fR i1 p4).2 n hlt
            have hjl : j < (ru_d ru n).2.2.2.length := by omega
            obtain ⟨a1, a2, a3⟩ := u4 j hjl
            have haok := hk.2.2 j hjl
            rw [ad_s hjl] at kk
            have cj : (nI (10 * n + j)).toNatClampNeg = 10 * n + j := nI_clamp (by omega)
            have u4a : ∀ i2, mf m ac_S i i2 → i2 (m + 9) (10 * n + j) = ((ru_d ru n).2.2.2.getD j (0, 0, 0)).1 := fun i2 h => (((fR i2 h).2 n hlt).2.2.2.2 j hjl).1
            generalize hq0 : (ru_d ru n).2.2.2.getD j (0, 0, 0) = q at a1 a2 a3 haok kk u4a
            obtain ⟨qp, qa, qc⟩ := q
            simp only at a1 a2 a3 haok u4a
            refine wf_iload dc_Mod_line_84 rfl ?_
            refine wf_bipush 10 dc_Mod_line_86 (by decide) ?_
            refine wf_iload_n dc_Mod_line_88 rfl ?_
            refine wf_imul dc_Mod_line_89 ?_
            rw [show (10 : Int32) * nI n = nI (10 * n) from nI_mul 10 n]
            refine wf_aload_n dc_Mod_line_90 rfl ?_
            refine wf_getr dc_Mod_line_91 fl_Mod_35 rfl (by assumption) (by assumption) ?_
            refine wf_iload_n dc_Mod_line_94 rfl ?_
            refine wf_iaload (y := 0) dc_Mod_line_95 rfl (by assumption) (vp_in_nI (by omega) (by omega)) ?_
            rw [cn, u3]
            refine wf_iadd dc_Mod_line_96 ?_
            rw [nI_add]
            refine wf_icmp_ge 153 dc_Mod_line_97 (by decide) (fun hc => absurd ((nI_leI (by omega) (by omega)).mp hc) (by omega)) (fun hc => ?_)
            refine wf_aload_n dc_Mod_line_100 rfl ?_
            refine wf_aload_n dc_Mod_line_101 rfl ?_
            refine wf_getr dc_Mod_line_102 fl_Mod_38 rfl (by assumption) (by assumption) ?_
            refine wf_iload dc_Mod_line_105 rfl ?_
            refine wf_iaload (y := 0) dc_Mod_line_107 rfl (by assumption) (vp_in_nI (by omega) (by omega)) ?_
            rw [cj, a1]
            refine wf_aload_n dc_Mod_line_108 rfl ?_
            refine wf_getr dc_Mod_line_109 fl_Mod_41 rfl (by assumption) (by assumption) ?_
            refine wf_iload dc_Mod_line_112 rfl ?_
            refine wf_iaload (y := 0) dc_Mod_line_114 rfl (by assumption) (vp_in_nI (by omega) (by omega)) ?_
            rw [cj, a2]
            refine wf_aload_n dc_Mod_line_115 rfl ?_
            refine wf_getr dc_Mod_line_116 fl_Mod_44 rfl (by assumption) (by assumption) ?_
            refine wf_iload dc_Mod_line_119 rfl ?_
            refine wf_iaload (y := 0) dc_Mod_line_121 rfl (by assumption) (vp_in_nI (by omega) (by omega)) ?_
            rw [cj, a3]
            have hdl := da_len (sx := sx) (tx := tx) (sp := sp) (lc := lc) (p := qp) (a := qa) (b := qc) (v := w) p2.1.1 p2.2.1
            have hlv := da_lv (sx := sx) (lc := lc) (fun k hk => (hT k hk).2) haok hsp p2
            refine wf_iv3 (M' := mt_Mod_act) (c := 8) dc_Mod_line_122 tg_Mod_act ml_Mod_247 im_Mod_act se_Mod_act ⟨_, rfl, rfl⟩ (by assumption) (Nat.le_of_ble_eq_true rfl) (Nat.le_refl _) (Nat.le_refl _) (c_Mod_act hA (hX.ac p4) (hT.ac p4) (fL i1 p4) (fS i1 p4) p1 p2 haok (by omega)) qV_nt (qV_go (fun i2 hp => ?_))
            refine wf_iload_n dc_Mod_line_125 rfl ?_
            obtain ⟨e1, e2⟩ := hp
            have p5 := mf_ss p4 e2
            have a9 := u4a i2 p5
            have nxt : ∀ f' : Bool, f' = (f && !(decide (qp = 10))) → Wf l E n0 mt_Mod_line (d + 6) 0 0 Q 0 0 146 [(0, .ref (m + 0)), (1, .int (nI (h + 1))), (3, .int (nI n)), (4, .int (nI (10 * n + j)))] [.int (wt_b f')] nx t r i2 g := fun f' hf' => by
              refine wf_istore_n dc_Mod_line_146 (by decide) ?_
              refine wf_iinc _ dc_Mod_line_147 rfl (nI_1 (10 * n + j)) (by decide) ?_
              refine wf_goto 84 dc_Mod_line_150 (by decide) ?_
              refine Wf.to (L' := [(0, .ref (m + 0)), (1, .int (nI (h + 1))), (2, .int (wt_b f')), (3, .int (nI n)), (4, .int (nI (10 * n + (j + 1))))]) (by exact ⟨rfl, rfl, rfl, rfl, rfl, trivial⟩) (ih2 (j + 1) f' _ i2 (by omega) e1 hlv (by omega) p5 (fun v' i3 h1 h2 h3 h4 h5 => ?_))
              have := kk v' i3 (h1.trans (by rw [das_of, da_10])) h2 h3 h4 h5
              rw [das_b] at this
              rw [hf', Bool.and_assoc]
              exact this
            cases f with
            | false =>
              refine wf_if_eq 145 dc_Mod_line_126 (by decide) (fun hc => ?_) (fun hc => absurd rfl hc)
              refine wf_iconst 0 dc_Mod_line_145 (by decide) ?_
              exact Wf.to (by exact ⟨rfl, rfl, rfl, rfl, trivial⟩) (nxt false rfl)
            | true =>
              refine wf_if_eq 145 dc_Mod_line_126 (by decide) (fun hc => absurd hc (by decide)) (fun hc => ?_)
              refine wf_aload_n dc_Mod_line_129 rfl ?_
              refine wf_getr dc_Mod_line_130 fl_Mod_38 rfl (by assumption) (by assumption) ?_
              refine wf_iload dc_Mod_line_133 rfl ?_
              refine wf_iaload (y := 0) dc_Mod_line_135 rfl (by assumption) (vp_in_nI (by omega) (by omega)) ?_
              refine wf_bipush 10 dc_Mod_line_136 (by decide) ?_
              rw [cj, a9]
              by_cases h10 : qp = 10
              · refine wf_icmp_eq 145 dc_Mod_line_138 (by decide) (fun hc => ?_) (fun hc => absurd h10 hc)
                refine wf_iconst 0 dc_Mod_line_145 (by decide) ?_
                exact Wf.to (by exact ⟨rfl, rfl, rfl, rfl, trivial⟩) (nxt false (by rw [decide_eq_true h10]; rfl))
              · refine wf_icmp_eq 145 dc_Mod_line_138 (by decide) (fun hc => absurd hc h10) (fun hc => ?_)
                refine wf_iconst 1 dc_Mod_line_141 (by decide) ?_
                refine wf_goto 146 dc_Mod_line_142 (by decide) ?_
                exact Wf.to (by exact ⟨rfl, rfl, rfl, rfl, trivial⟩) (nxt true (by rw [decide_eq_false h10]; rfl))
        refine wf_iinc _ dc_Mod_line_75 rfl (nI_1 h) (by decide) ?_
        refine wf_bipush 10 dc_Mod_line_78 (by decide) ?_
        refine wf_iload_n dc_Mod_line_80 rfl ?_
        refine wf_imul dc_Mod_line_81 ?_
        rw [show (10 : Int32) * nI n = nI (10 * n) from nI_mul 10 n]
        refine wf_istore dc_Mod_line_82 (by decide) ?_
        refine Wf.to (L' := [(0, .ref (m + 0)), (1, .int (nI (h + 1))), (2, .int (wt_b true)), (3, .int (nI n)), (4, .int (nI (10 * n + 0)))]) (by exact ⟨rfl, rfl, rfl, rfl, rfl, trivial⟩) (inner (ru_d ru n).2.2.2.length 0 true v i2 (Nat.zero_add _) hI2 hv (by omega) f2 (fun v' i3 h1 h2 h3 h4 h5 => ?_))
        rw [List.drop_zero] at h1
        rw [List.drop_zero, Bool.true_and]
        refine wf_iinc _ dc_Mod_line_153 rfl (nI_1 n) (by decide) ?_
        refine wf_goto 38 dc_Mod_line_156 (by decide) ?_
        refine Wf.to (L' := [(0, .ref (m + 0)), (1, .int (nI (h + 1))), (2, .int (wt_b (das_b (ru_d ru n).2.2.2))), (3, .int (nI (n + 1)))]) (by exact ⟨rfl, rfl, rfl, rfl, trivial⟩) ?_
        refine ih (n + 1) (h + 1) _ v' i3 (by omega) (by omega) h4 h2 (by omega) h5 (fun x v2 i4 hv2 => hQ x v2 i4 (hv2.trans ?_))
        rw [if_pos rfl, h1]
        show _ = @ite _ (hp_of sx lc v.1 v.2.1 (ru_d ru n)) (Classical.propDecidable _) _ _
        rw [if_pos hz]
      · refine wf_if_eq 153 dc_Mod_line_72 (by decide) (fun _ => ?_) (fun hc => absurd rfl hc)
        refine wf_iinc _ dc_Mod_line_153 rfl (nI_1 n) (by decide) ?_
        refine wf_goto 38 dc_Mod_line_156 (by decide) ?_
        refine Wf.to (L' := [(0, .ref (m + 0)), (1, .int (nI h)), (2, .int (wt_b true)), (3, .int (nI (n + 1)))]) (by exact ⟨rfl, rfl, rfl, rfl, trivial⟩) ?_
        refine ih (n + 1) h true v i2 (by omega) (by omega) hI2 hv (by omega) f2 (fun x v' i3 hv' => hQ x v' i3 (hv'.trans ?_))
        rw [if_pos rfl, if_pos rfl]
        show _ = @ite _ (hp_of sx lc v.1 v.2.1 (ru_d ru n)) (Classical.propDecidable _) _ _
        rw [if_neg hz]
def li_S : Ms := ac_S ++ [(0, 0, 1), (0, 14, 15), (2, 0, 1)]
theorem li_ac : ∀ q ∈ ac_S, q ∈ li_S := fun q hq => by simp [li_S, hq]
theorem li_no {c lo hi : Nat} (h : (c = 0 ∧ ((1 ≤ lo ∧ hi ≤ 14) ∨ (24 ≤ lo ∧ hi ≤ 26))) ∨ (3 ≤ c ∧ c ≤ 11) ∨ (c = 2 ∧ 2 ≤ lo ∧ hi ≤ 8) ∨ (c = 1 ∧ (hi ≤ 120 ∨ (240 ≤ lo ∧ hi ≤ 960)))) : ms_no li_S c lo hi := by
  intro q hq z
  unfold li_S at hq
  rcases List.mem_append.mp hq with hq | hq
  · exact ac_no (c := c) (lo := lo) (hi := hi) (by omega) q hq z
  · simp only [List.mem_cons, List.not_mem_nil, or_false] at hq
    rcases hq with rfl | rfl | rfl <;> simp only at z ⊢ <;> omega
theorem li_ne {c : Nat} (h : 3 ≤ c ∧ c ≤ 11) : ∀ q ∈ li_S, q.1 ≠ c := by
  intro q hq
  unfold li_S at hq
  rcases List.mem_append.mp hq with hq | hq
  · exact ac_ne h q hq
  · simp only [List.mem_cons, List.not_mem_nil, or_false] at hq
    rcases hq with rfl | rfl | rfl <;> simp only <;> omega
theorem c_Mod_line {sx tx : Nat → List Int32} {sp : Int32} {lc : Nat} {ru : List RuS} {w W : List Int32} {F : List (List Int32)} {co : Nat → Int32} {K : KtS} {out : List Int32} (hA : mo_at t r m) (hP : mr i m 0 w) (hw : s1 w) (hX : mp_exp i m sx) (hT : mp_txt i m tx) (hL : i (m + 0) 14 = nI lc) (hS : i (m + 0) 5 = sp) (hsp : ∃ c : Nat, 1 ≤ c ∧ c < 256 ∧ sp = nI c) (hR : mp_rul i m ru) (h12 : ru.length ≤ 12) (hok : ∀ k, k < ru.length → ru_ok (ru_d ru k)) (hI : mn_is i m (W, F, co, K, out)) (h40 : K.length ≤ 40) (hsK : sK K) (hl : out.length < 1999900000) : Ct l E n0 mt_Mod_line (d + 6) 0 0 [.ref (m + 0)] nx t r i g (qI nx t r g (fun z i' => ∃ x v', (x, v') = lns_of sx tx sp (lc + 1) ru 0 (w, fl_cut w sp, co, K, out) ∧ z = nI x ∧ i' (m + 0) 0 = 0 ∧ mr i' m 0 [] ∧ i' (m + 0) 14 = nI (lc + 1) ∧ mn_is i' m v' ∧ mf m li_S i i')) := by
  have t0 := hA.1.1
  have r2 : r (m + 0) 2 = some (m + 2) := hA.2 (0, 2, 2) (by decide +kernel)
  have t2 := hA.1.2 2 (2, .inr (0, 9)) (by decide +kernel)
  have hwl := hw.1
  refine Ct.of (by decide) (Nat.le_of_ble_eq_true rfl) ?_
  refine wf_aload_n dc_Mod_line_0 rfl ?_
  refine wf_iconst 0 dc_Mod_line_1 (by decide) ?_
  refine wf_puti dc_Mod_line_2 fl_Mod_99 (Or.inl nf_Mod_0) rfl rfl rfl (by assumption) ?_
  have f0 : mf m [(0, 0, 1)] i (wf_up i (m + 0) 0 0) := mf_up mf_rf ⟨(0, 0, 1), by simp, rfl, by decide, by decide⟩
  have hP0 : mr (wf_up i (m + 0) 0 0) m 0 w := hP.fr f0 hwl (by simp [ms_no]) (by simp [ms_no])
  have z0 : wf_up i (m + 0) 0 0 (m + 0) 0 = 0 := wf_up_s
  generalize wf_up i (m + 0) 0 0 = i0 at f0 hP0 z0 ⊢
  refine wf_aload_n dc_Mod_line_5 rfl ?_
  refine wf_iconst 0 dc_Mod_line_6 (by decide) ?_
  refine wf_iconst 1 dc_Mod_line_7 (by decide) ?_
  refine wf_iv2 (M' := mt_Mod_copyRow) (c := 8) dc_Mod_line_8 tg_Mod_copyRow ml_Mod_166 im_Mod_copyRow se_Mod_copyRow ⟨_, rfl, rfl⟩ (by assumption) (Nat.le_of_ble_eq_true rfl) (Nat.le_refl _) (Nat.le_refl _) (c_Mod_copyRow (a := 0) (b := 1) hA (by omega) (by omega) (by omega) hP0 hwl) qV_nt (qV_go (fun i2 hp => ?_))
  obtain ⟨e1, e2⟩ := hp
  refine wf_aload_n dc_Mod_line_11 rfl ?_
  refine wf_getr dc_Mod_line_12 fl_Mod_13 rfl (by assumption) (by assumption) ?_
  refine wf_iconst 0 dc_Mod_line_15 (by decide) ?_
  refine wf_iconst 0 dc_Mod_line_16 (by decide) ?_
  refine wf_iastore (y := 0) dc_Mod_line_17 rfl (by decide) (by assumption) (vp_in_nI (n := 0) (by omega) (by omega)) ?_
  have g2 : mf m [(2, 0, 1)] i2 (wf_up i2 (m + 2) (Int32.toNatClampNeg 0) 0) := mf_up mf_rf ⟨(2, 0, 1), by simp, rfl, by decide, by decide⟩
  have g3 : mr (wf_up i2 (m + 2) (Int32.toNatClampNeg 0) 0) m 0 [] := ⟨(wf_up_s : wf_up i2 (m + 2) 0 0 (m + 2) 0 = 0), mz_nil⟩
  generalize wf_up i2 (m + 2) (Int32.toNatClampNeg 0) 0 = i3 at g2 g3 ⊢
  have g4 : mr i3 m 1 w := e1.fr g2 hwl (by simp [ms_no]) (by simp [ms_no])
  have g5 : i3 (m + 0) 14 = nI lc := ((g2.at (by simp [ms_no])).trans ((e2.at (by simp [ms_no, mr_S])).trans (f0.at (by simp [ms_no])))).trans hL
  have g6 : i3 (m + 0) 0 = 0 := ((g2.at (by simp [ms_no])).trans (e2.at (by simp [ms_no, mr_S]))).trans z0
  have g7 : mf m li_S i i3 := mf_mo (mf_tr (mf_tr f0 e2) g2) (ms_sub (fun q hq => by
    simp only [mr_S, List.mem_append, List.mem_cons, List.not_mem_nil, or_false] at hq
    rcases hq with (rfl | rfl | rfl) | rfl
    · simp [li_S]
    · exact li_ac _ (ac_r1 _ (by simp [mr_S]))
    · exact li_ac _ (ac_r1 _ (by simp [mr_S]))
    · simp [li_S]))
  refine wf_aload_n dc_Mod_line_18 rfl ?_
  refine wf_dup dc_Mod_line_19 rfl ?_
  refine wf_geti dc_Mod_line_20 fl_Mod_241 rfl (by assumption) ?_
  refine wf_iconst 1 dc_Mod_line_23 (by decide) ?_
  refine wf_iadd dc_Mod_line_24 ?_
  rw [g5, nI_1]
  refine wf_puti dc_Mod_line_25 fl_Mod_241 (Or.inl nf_Mod_14) rfl rfl rfl (by assumption) ?_
  have j1 : mf m [(0, 14, 15)] i3 (wf_up i3 (m + 0) 14 (nI (lc + 1))) := mf_up mf_rf ⟨(0, 14, 15), by simp, rfl, by decide, by decide⟩
  have j2 : wf_up i3 (m + 0) 14 (nI (lc + 1)) (m + 0) 14 = nI (lc + 1) := wf_up_s
  generalize wf_up i3 (m + 0) 14 (nI (lc + 1)) = i4 at j1 j2 ⊢
  have j3 : mr i4 m 1 w := g4.fr j1 hwl (by simp [ms_no]) (by simp [ms_no])
  have j4 : mr i4 m 0 [] := g3.fr j1 (by simp) (by simp [ms_no]) (by simp [ms_no])
  have j5 : i4 (m + 0) 0 = 0 := (j1.at (by simp [ms_no])).trans g6
  have j6 : mf m li_S i i4 := mf_ss g7 (mf_mo j1 (ms_sub (fun q hq => by rw [List.mem_singleton.mp hq]; simp [li_S])))
  have j7 : i4 (m + 0) 5 = sp := (j6.at (li_no (by omega))).trans hS
  refine wf_aload_n dc_Mod_line_28 rfl ?_
  refine wf_iv0 (M' := mt_Mod_part) (c := 8) dc_Mod_line_29 tg_Mod_part ml_Mod_215 im_Mod_part se_Mod_part ⟨_, rfl, rfl⟩ (by assumption) (Nat.le_of_ble_eq_true rfl) (Nat.le_refl _) (Nat.le_refl _) (c_Mod_part hA j3 hwl j7) qV_nt (qV_go (fun i2 hp => ?_))
  obtain ⟨k1, k2⟩ := hp
  have k3 : mf m li_S i i2 := mf_ss j6 (mf_mo k2 (ms_sub (fun q hq => li_ac q (ac_F q hq))))
  have k4 : mr i2 m 1 w := j3.mF k2 hwl
  have k5 : mr i2 m 0 [] := j4.mF k2 (by simp)
  have k6 : i2 (m + 0) 0 = 0 := (k2.at (by simp [ms_no, mF_S])).trans j5
  have k7 : i2 (m + 0) 14 = nI (lc + 1) := (k2.at (by simp [ms_no, mF_S])).trans j2
  have k8 : i2 (m + 0) 5 = sp := (k2.at (by simp [ms_no, mF_S])).trans j7
  have hX2 : mp_exp i2 m sx := hX.fr k3 (fun q hq => ⟨li_ne (by omega) q hq, li_ne (by omega) q hq⟩)
  have hT2 : mp_txt i2 m tx := fun k hk => ⟨(hT k hk).1.fr k3 (hT k hk).2.1 (li_no (by omega)) (li_no (by omega)), (hT k hk).2⟩
  have hR2 : mp_rul i2 m ru := hR.fr k3 (li_no (by omega)) (fun c c1 c2 => li_ne (by omega))
  -- the rest of the line's state is as it was
  have kk : mf m ([(0, 0, 1)] ++ mr_S 1 ++ [(2, 0, 1)] ++ [(0, 14, 15)] ++ mF_S) i i2 := mf_tr (mf_tr (mf_tr (mf_tr f0 e2) g2) j1) k2
  have ne : ∀ c, 14 ≤ c → ∀ q ∈ ([(0, 0, 1)] ++ mr_S 1 ++ [(2, 0, 1)] ++ [(0, 14, 15)] ++ mF_S : Ms), q.1 ≠ c := fun c hc q hq => by
    simp only [mr_S, mF_S, List.mem_append, List.mem_cons, List.not_mem_nil, or_false] at hq
    rcases hq with (((rfl | rfl | rfl) | rfl) | rfl) | rfl | rfl | rfl <;> simp only <;> omega
  obtain ⟨h1, h2, h3, h4, h5⟩ := hI
  have hI2 : mn_is i2 m (w, fl_cut w sp, co, K, out) := ⟨k4, k1, h3.fr kk (ne 14 (by omega)), h4.fr kk (by simp [ms_no, mr_S, mF_S]) (fun c c1 c2 => ne c (by omega)), h5.fr kk (by simp [ms_no, mr_S, mF_S]) (ne 18 (by omega))⟩
  have hv2 : lv_ok (w, fl_cut w sp, co, K, out) := ⟨hw, sF_cut hw, fl_cut_30 _ _, h40, hsK⟩
  refine wf_iconst 0 dc_Mod_line_32 (by decide) ?_
  refine wf_istore_n dc_Mod_line_33 (by decide) ?_
  refine wf_iconst 1 dc_Mod_line_34 (by decide) ?_
  refine wf_istore_n dc_Mod_line_35 (by decide) ?_
  refine wf_iconst 0 dc_Mod_line_36 (by decide) ?_
  refine wf_istore_n dc_Mod_line_37 (by decide) ?_
  refine Wf.to (L' := [(0, .ref (m + 0)), (1, .int (nI 0)), (2, .int (wt_b true)), (3, .int (nI 0))]) (by exact ⟨rfl, rfl, rfl, rfl, trivial⟩) (c_Mod_line_l hA hX2 hT2 k7 k8 hsp hR2 h12 hok ru.length 0 0 true _ i2 (Nat.zero_add _) (Nat.le_refl _) hI2 hv2 (by simp only; omega) mf_rf (fun x v' i5 hx q1 q2 => ?_))
  rw [if_pos rfl, List.drop_zero] at hx
  exact ⟨_, rfl, rfl, rfl, rfl, rfl, x, v', hx, rfl, (q2.at (ac_no (by omega))).trans k6, k5.fr q2 (by simp) (ac_no (by omega)) (ac_no (by omega)), (q2.at (ac_no (by omega))).trans k7, q1, mf_ss k3 (mf_mo q2 (ms_sub li_ac))⟩
end
