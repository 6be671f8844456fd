/-! class LineRules: line, with the room that its rules' actions need -/
/-- all actions of all rules -/
def ra : List RuS → Nat
  | [] => 0
  | u :: R => u.2.2.2.length + ra R
section
variable {l : Launch} {E : We} {n0 d nx : Nat} {t : Wt} {r : Wr} {i : Wi} {g : Wl} {b : Nat} {pm : Nat → Nat}
theorem e_LR_doActions {sx tx : Nat → List Int32} {sp : Int32} {lc k : Nat} {v : LnS} {u : RuS} (hA : lr_at t r b pm) (hX : lp_exp t r i g b pm sx) (hT : lp_txt i b tx) (hL : lp_lin i b lc) (hS : lp_sep i b sp) (hI : ln_is t r i b v) (hk : k < 12) (hu : ru_is i (b + (145 + 4 * k)) (b + (145 + 4 * k + 1)) (b + (145 + 4 * k + 2)) (b + (145 + 4 * k + 3)) u) (ho : ru_ok u) (hl : v.2.2.2.2.length < 1999990000) (hn : b + 222 ≤ nx) : Ct l E n0 mt_LR_doActions (d + 6) (2 * u.2.2.2.length) (122 * u.2.2.2.length) [.ref (b + 0), .ref (b + (145 + 4 * k))] nx t r i g (ds_q nx t r i g b 10 (das_of sx tx sp lc u.2.2.2 v) (wt_b (das_b u.2.2.2))) := by
  obtain ⟨p0, a0, b0, A⟩ := u
  obtain ⟨o1, -, o3⟩ := ho
  simp only at o1 o3
  refine Ct.of (by decide) (Nat.le_of_ble_eq_true rfl) ?_
  have loop : ∀ (c n bk bn : Nat) (m : Bool) (v1 : LnS) (nx1 : Nat) (t1 : Wt) (r1 : Wr) (i1 : Wi), n + c = A.length → 2 * c ≤ bk → 122 * c ≤ bn → das_of sx tx sp lc (A.drop n) v1 = das_of sx tx sp lc A v → (m && das_b (A.drop n)) = das_b A → nx ≤ nx1 → nx1 ≤ nx + 2 * n → xt_ok [b + 91] t r t1 r1 → dz b nx i i1 → ln_is t1 r1 i1 b v1 → v1.2.2.2.2.length + 121 * c < 1999995000 → Wf l E n0 mt_LR_doActions (d + 6) (2 * A.length) (122 * A.length) (ds_q nx t r i g b 10 (das_of sx tx sp lc A v) (wt_b (das_b A))) bk bn 4 [(0, .ref (b + 0)), (1, .ref (b + (145 + 4 * k))), (2, .int (wt_b m)), (3, .int (nI n))] [] nx1 t1 r1 i1 g := by
    intro c
    induction c with
    | zero =>
      intro n bk bn m v1 nx1 t1 r1 i1 hn1 hbk hbn hv hm hx1 hx2 hx hf hI1 hl1
      have hA1 := hA.xt hx
      have tR := (lr_rul hA1 hk).1
      have h6 : i1 (b + (145 + 4 * k)) 6 = nI A.length := (hf _ (by omega) (by omega) 6).trans hu.2.2.2.1
      refine wf_iload_n dc_LR_doActions_4 rfl ?_
      refine wf_aload_n dc_LR_doActions_5 rfl ?_
      refine wf_geti dc_LR_doActions_6 fl_LR_251 rfl (by assumption) ?_
      rw [h6]
      refine wf_icmp_ge 56 dc_LR_doActions_9 (by decide) (fun hc => ?_) (fun hc => absurd ((nI_leI (by omega) (by omega)).mpr (by omega)) hc)
      refine wf_iload_n dc_LR_doActions_56 rfl ?_
      have hnil : A.drop n = [] := List.drop_eq_nil_of_le (by omega)
      rw [hnil] at hv hm
      have hm' : m = das_b A := by rw [← hm]; simp [das_b]
      exact wf_zreturn rfl (wt_bn2 _) dc_LR_doActions_57 ⟨by rw [hm'], hx1, by omega, hx, rfl, by rw [← hv]; exact hI1, hf⟩
    | succ c ih =>
      intro n bk bn m v1 nx1 t1 r1 i1 hn1 hbk hbn hv hm hx1 hx2 hx hf hI1 hl1
      have hA1 := hA.xt hx
      have hru := lr_rul hA1 hk
      obtain ⟨tR, q3, q4, q5, t3, t4, t5, -⟩ := hru
      have hlt : n < A.length := by omega
      have h6 : i1 (b + (145 + 4 * k)) 6 = nI A.length := (hf _ (by omega) (by omega) 6).trans hu.2.2.2.1
      have hu4 := hu.2.2.2.2 n hlt
      have v1' : i1 (b + (145 + 4 * k + 1)) n = (A.getD n (0, 0, 0)).1 := (hf _ (by omega) (by omega) n).trans hu4.1
      have v2' : i1 (b + (145 + 4 * k + 2)) n = (A.getD n (0, 0, 0)).2.1 := (hf _ (by omega) (by omega) n).trans hu4.2.1
      have v3' : i1 (b + (145 + 4 * k + 3)) n = (A.getD n (0, 0, 0)).2.2 := (hf _ (by omega) (by omega) n).trans hu4.2.2
      have hcl : (nI n).toNatClampNeg = n := nI_clamp (by omega)
      have hin : vp_in (nI n) 10 := vp_in_nI (by omega) (by omega)
      have ho3 := o3 n hlt
      rw [ad_s hlt] at hv hm
      revert hv hm v1' v2' v3' ho3
      generalize A.getD n (0, 0, 0) = q
      obtain ⟨qp, qa, qb⟩ := q
      intro hv hm v1' v2' v3' ho3
      simp only at v1' v2' v3' ho3
      refine wf_iload_n dc_LR_doActions_4 rfl ?_
      refine wf_aload_n dc_LR_doActions_5 rfl ?_
      refine wf_geti dc_LR_doActions_6 fl_LR_251 rfl (by assumption) ?_
      rw [h6]
      refine wf_icmp_ge 56 dc_LR_doActions_9 (by decide) (fun hc => absurd ((nI_leI (by omega) (by omega)).mp hc) (by omega)) (fun hc => ?_)
      refine wf_aload_n dc_LR_doActions_12 rfl ?_
      refine wf_getr dc_LR_doActions_13 fl_LR_254 rfl (by assumption) (by assumption) ?_
      refine wf_iload_n dc_LR_doActions_16 rfl ?_
      refine wf_iaload (y := 0) dc_LR_doActions_17 rfl (by assumption) (hin) ?_
      rw [hcl, v1']
      refine wf_bipush 10 dc_LR_doActions_18 (by decide) ?_
      refine wf_icmp_ne 28 dc_LR_doActions_20 (by decide) (fun h10 => ?_) (fun h10 => ?_)
      · have h10' : ¬ qp = 10 := h10
        refine wf_aload_n dc_LR_doActions_28 rfl ?_
        refine wf_aload_n dc_LR_doActions_29 rfl ?_
        refine wf_getr dc_LR_doActions_30 fl_LR_254 rfl (by assumption) (by assumption) ?_
        refine wf_iload_n dc_LR_doActions_33 rfl ?_
        refine wf_iaload (y := 0) dc_LR_doActions_34 rfl (by assumption) (hin) ?_
        rw [hcl, v1']
        refine wf_aload_n dc_LR_doActions_35 rfl ?_
        refine wf_getr dc_LR_doActions_36 fl_LR_257 rfl (by assumption) (by assumption) ?_
        refine wf_iload_n dc_LR_doActions_39 rfl ?_
        refine wf_iaload (y := 0) dc_LR_doActions_40 rfl (by assumption) (hin) ?_
        rw [hcl, v2']
        refine wf_aload_n dc_LR_doActions_41 rfl ?_
        refine wf_getr dc_LR_doActions_42 fl_LR_260 rfl (by assumption) (by assumption) ?_
        refine wf_iload_n dc_LR_doActions_45 rfl ?_
        refine wf_iaload (y := 0) dc_LR_doActions_46 rfl (by assumption) (hin) ?_
        rw [hcl, v3']
        refine wf_fresh (fun fz => ?_)
        have hlt1 : ∀ z y, t1 z = some y → z < nx1 := fun z y hz => Nat.not_le.mp fun hle => by
          rw [(fz z hle).1] at hz
          cases hz
        have tL := hA1.1.1
        refine wf_iv3 (M' := mt_LR_doAction) (c := 0) (bk' := bk - 2) (bn' := bn - 122) dc_LR_doActions_47 tg_LR_doAction ml_LR_263 im_LR_doAction se_LR_doAction ⟨_, rfl, rfl⟩ (by assumption) (Nat.le_of_ble_eq_true rfl) (by omega) (by omega) (c_LR_doAction hA1 (hX.dx hA hx hf hn) (hT.dz hf hn) ((hf _ (by omega) (by omega) 11).trans hL) ⟨(hf _ (by omega) (by omega) 12).trans hS.1, hS.2⟩ hI1 ho3 (by omega) (by omega) hlt1) (by rintro X a1 a2 a3 a4 a5 ⟨q, -⟩; cases q) ?_
        rintro vo nx2 t2 r2 i2 g2 ⟨hvo, w1, w2, w3, w4, w5, w6⟩
        cases hvo
        subst w4
        refine wf_iinc _ dc_LR_doActions_50 rfl (nI_1 n) (by decide) ?_
        refine wf_goto 4 dc_LR_doActions_53 (by decide) ?_
        have hlen := da_len (sx := sx) (tx := tx) (sp := sp) (lc := lc) (p := qp) (a := qa) (b := qb) hI1.1.2.1.1 (sF_of hI1.1.2.2)
        refine Wf.to (L' := [(0, .ref (b + 0)), (1, .ref (b + (145 + 4 * k))), (2, .int (wt_b m)), (3, .int (nI (n + 1)))]) (by exact ⟨rfl, rfl, rfl, rfl, trivial⟩) ?_
        refine ih (n + 1) (bk - 2) (bn - 122) m _ nx2 t2 r2 i2 (by omega) (by omega) (by omega) ?_ ?_ (by omega) (by omega) (xt_tr hx w3) (dz_tr hf (dz_of w6) hx1) w5 (by omega)
        · rw [← hv]
          show _ = das_of sx tx sp lc (A.drop (n + 1)) (if qp = 10 then v1 else _)
          rw [if_neg h10']
        · rw [← hm]
          show _ = (m && (!(decide (qp = 10)) && das_b (A.drop (n + 1))))
          rw [decide_eq_false h10']
          simp
      · have h10' : qp = 10 := h10
        refine wf_iconst 0 dc_LR_doActions_23 (by decide) ?_
        refine wf_istore_n dc_LR_doActions_24 (by decide) ?_
        refine wf_goto 50 dc_LR_doActions_25 (by decide) ?_
        refine wf_iinc _ dc_LR_doActions_50 rfl (nI_1 n) (by decide) ?_
        refine wf_goto 4 dc_LR_doActions_53 (by decide) ?_
        refine Wf.to (L' := [(0, .ref (b + 0)), (1, .ref (b + (145 + 4 * k))), (2, .int (wt_b false)), (3, .int (nI (n + 1)))]) (by exact ⟨rfl, rfl, rfl, rfl, trivial⟩) ?_
        refine ih (n + 1) bk bn false v1 nx1 t1 r1 i1 (by omega) (by omega) (by omega) ?_ ?_ (by omega) (by omega) hx hf hI1 (by omega)
        · rw [← hv]
          show _ = das_of sx tx sp lc (A.drop (n + 1)) (if qp = 10 then v1 else _)
          rw [if_pos h10']
        · rw [← hm]
          show _ = (m && (!(decide (qp = 10)) && das_b (A.drop (n + 1))))
          rw [decide_eq_true h10']
          simp
  refine wf_iconst 1 dc_LR_doActions_0 (by decide) ?_
  refine wf_istore_n dc_LR_doActions_1 (by decide) ?_
  refine wf_iconst 0 dc_LR_doActions_2 (by decide) ?_
  refine wf_istore_n dc_LR_doActions_3 (by decide) ?_
  refine Wf.to (L' := [(0, .ref (b + 0)), (1, .ref (b + (145 + 4 * k))), (2, .int (wt_b true)), (3, .int (nI 0))]) (by exact ⟨rfl, rfl, rfl, rfl, trivial⟩) ?_
  exact loop A.length 0 (2 * A.length) (122 * A.length) true v nx t r i (by omega) (by omega) (by omega) rfl rfl (by omega) (by omega) xt_rf dz_rf hI (by omega)
theorem e_LR_line_l {sx tx : Nat → List Int32} {sp : Int32} {lc : Nat} {ru : List RuS} {Q : Wq} {mc ms : Nat} (hA : lr_at t r b pm) (hX : lp_exp t r i g b pm sx) (hT : lp_txt i b tx) (hL : lp_lin i b lc) (hS : lp_sep i b sp) (hR : lp_rul i b ru) (hn : b + 222 ≤ nx) :
    ∀ (c n bk bn h : Nat) (m : Bool) (v : LnS) (nx1 : Nat) (t1 : Wt) (r1 : Wr) (i1 : Wi), n + c = ru.length → 2 * ra (ru.drop n) ≤ bk → 122 * ra (ru.drop n) ≤ bn → h ≤ n → nx ≤ nx1 → nx1 ≤ nx + 20 * n → xt_ok [b + 91] t r t1 r1 → dz b nx i i1 → ln_is t1 r1 i1 b v → v.2.2.2.2.length + 1210 * c < 1999980000 →
    (∀ x v' nx2 t2 r2 i2, (x, v') = (if m = true then lns_of sx tx sp lc (ru.drop n) h v else (h, v)) → nx ≤ nx2 → nx2 ≤ nx + 240 → xt_ok [b + 91] t r t2 r2 → dz b nx i i2 → ln_is t2 r2 i2 b v' → Q (.inl (some (.int (nI x)))) nx2 t2 r2 i2 g) →
    Wf l E n0 mt_LR_line (d + 7) mc ms Q bk bn 38 [(0, .ref (b + 0)), (1, .int (nI h)), (2, .int (wt_b m)), (3, .int (nI n))] [] nx1 t1 r1 i1 g := by
  have h12 := hR.2.1
  intro c
  induction c with
  | zero =>
    intro n bk bn h m v nx1 t1 r1 i1 hn1 hbk hbn hh hx1 hx2 hx hf hI hl hQ
    have hA1 := hA.xt hx
    have t0 := hA1.1.1
    have h10 : i1 (b + 0) 10 = nI ru.length := (hf _ (by omega) (by omega) 10).trans hR.1
    refine wf_iload_n dc_LR_line_38 rfl ?_
    refine wf_aload_n dc_LR_line_39 rfl ?_
    refine wf_geti dc_LR_line_40 fl_LR_141 rfl (by assumption) ?_
    rw [h10]
    refine wf_icmp_ge 83 dc_LR_line_43 (by decide) (fun hc => ?_) (fun hc => absurd ((nI_leI (by omega) (by omega)).mpr (by omega)) hc)
    refine wf_iload_n dc_LR_line_83 rfl ?_
    have hnil : ru.drop n = [] := List.drop_eq_nil_of_le (by omega)
    exact wf_ireturn rfl dc_LR_line_84 (hQ h v nx1 t1 r1 i1 (by rw [hnil]; cases m <;> rfl) hx1 (by omega) hx hf hI)
  | succ c ih =>
    intro n bk bn h m v nx1 t1 r1 i1 hn1 hbk hbn hh hx1 hx2 hx hf hI hl hQ
    have hA1 := hA.xt hx
    have t0 := hA1.1.1
    have t20 := hA1.1.2 20 (20, .inr (5, 12)) (by decide +kernel)
    have r4 : r1 (b + 0) 4 = some (b + 20) := hA1.2.1 (0, 4, 20) (by decide +kernel)
    have hlt : n < ru.length := by omega
    have h10 : i1 (b + 0) 10 = nI ru.length := (hf _ (by omega) (by omega) 10).trans hR.1
    have hR1 := hR.dz hf hn
    have hX1 := hX.dx hA hx hf hn
    have hT1 := hT.dz hf hn
    have hL1 : lp_lin i1 b lc := (hf _ (by omega) (by omega) 11).trans hL
    have hS1 : lp_sep i1 b sp := ⟨(hf _ (by omega) (by omega) 12).trans hS.1, hS.2⟩
    obtain ⟨hu, hok⟩ := hR1.2.2 n hlt
    have hcl : (nI n).toNatClampNeg = n := nI_clamp (by omega)
    have w20 : ∀ k, k < 12 → (20, k, 145 + 4 * k) ∈ lr_Wf := by decide +kernel
    have r20 : r1 (b + 20) (nI n).toNatClampNeg = some (b + (145 + 4 * n)) := by rw [hcl]; exact hA1.2.1 _ (w20 n (by omega))
    rw [rd_s hlt] at hQ
    have hra : ra (ru.drop n) = (ru_d ru n).2.2.2.length + ra (ru.drop (n + 1)) := by rw [rd_s hlt]; rfl
    refine wf_iload_n dc_LR_line_38 rfl ?_
    refine wf_aload_n dc_LR_line_39 rfl ?_
    refine wf_geti dc_LR_line_40 fl_LR_141 rfl (by assumption) ?_
    rw [h10]
    refine wf_icmp_ge 83 dc_LR_line_43 (by decide) (fun hc => absurd ((nI_leI (by omega) (by omega)).mp hc) (by omega)) (fun hc => ?_)
    refine wf_iload_n dc_LR_line_46 rfl ?_
    cases m with
    | false =>
      refine wf_if_eq 83 dc_LR_line_47 (by decide) (fun _ => ?_) (fun hc => absurd rfl hc)
      refine wf_iload_n dc_LR_line_83 rfl ?_
      exact wf_ireturn rfl dc_LR_line_84 (hQ h v nx1 t1 r1 i1 rfl hx1 (by omega) hx hf hI)
    | true =>
      refine wf_if_eq 83 dc_LR_line_47 (by decide) (fun hc => absurd hc (by decide)) (fun _ => ?_)
      refine wf_aload_n dc_LR_line_50 rfl ?_
      refine wf_aload_n dc_LR_line_51 rfl ?_
      refine wf_getr dc_LR_line_52 fl_LR_37 rfl (by assumption) (by assumption) ?_
      refine wf_iload_n dc_LR_line_55 rfl ?_
      refine wf_aaload (y := 5) dc_LR_line_56 rfl rfl (by assumption) (vp_in_nI (by omega) (by omega)) (r20) ?_
      refine wf_iv1 (M' := mt_LR_hasPattern) (c := 0) dc_LR_line_57 tg_LR_hasPattern ml_LR_171 im_LR_hasPattern se_LR_hasPattern ⟨_, rfl, rfl⟩ (by assumption) (Nat.le_of_ble_eq_true rfl) (Nat.le_refl _) (Nat.le_refl _) (c_LR_hasPattern hA1 hX1 hI.1 hL1 (by omega) hu hok.2.1) qI_nt (qI_go (fun x2 i2 hp => ?_))
      obtain ⟨hq, hz⟩ := hp
      subst i2
      rcases hz with ⟨rfl, hz⟩ | ⟨rfl, hz⟩
      · refine wf_if_eq 77 dc_LR_line_60 (by decide) (fun hc => absurd hc (by decide)) (fun _ => ?_)
        refine wf_iinc _ dc_LR_line_63 rfl (nI_1 h) (by decide) ?_
        refine wf_aload_n dc_LR_line_66 rfl ?_
        refine wf_aload_n dc_LR_line_67 rfl ?_
        refine wf_getr dc_LR_line_68 fl_LR_37 rfl (by assumption) (by assumption) ?_
        refine wf_iload_n dc_LR_line_71 rfl ?_
        refine wf_aaload (y := 5) dc_LR_line_72 rfl rfl (by assumption) (vp_in_nI (by omega) (by omega)) (r20) ?_
        refine wf_iv1 (M' := mt_LR_doActions) (c := 0) (bk' := bk - 2 * (ru_d ru n).2.2.2.length) (bn' := bn - 122 * (ru_d ru n).2.2.2.length) dc_LR_line_73 tg_LR_doActions ml_LR_175 im_LR_doActions se_LR_doActions ⟨_, rfl, rfl⟩ (by assumption) (Nat.le_of_ble_eq_true rfl) (by omega) (by omega) (e_LR_doActions hA1 hX1 hT1 hL1 hS1 hI (by omega) hu hok (by omega) (by omega)) (by rintro X a1 a2 a3 a4 a5 ⟨q, -⟩; cases q) ?_
        rintro vo nx2 t2 r2 i2 g2 ⟨hvo, w1, w2, w3, w4, w5, w6⟩
        cases hvo
        subst w4
        refine wf_istore_n dc_LR_line_76 (by decide) ?_
        refine wf_iinc _ dc_LR_line_77 rfl (nI_1 n) (by decide) ?_
        refine wf_goto 38 dc_LR_line_80 (by decide) ?_
        have hlen := das_len (sx := sx) (lc := lc) (fun k hk => (hT k hk).2) hS.2 (ru_d ru n).2.2.2 v (ru_ok_A hok) hI.1.2.1 (sF_of hI.1.2.2)
        have h10a := hok.1
        refine Wf.to (L' := [(0, .ref (b + 0)), (1, .int (nI (h + 1))), (2, .int (wt_b (das_b (ru_d ru n).2.2.2))), (3, .int (nI (n + 1)))]) (by exact ⟨rfl, rfl, rfl, rfl, trivial⟩) ?_
        refine ih (n + 1) (bk - 2 * (ru_d ru n).2.2.2.length) (bn - 122 * (ru_d ru n).2.2.2.length) (h + 1) _ _ nx2 t2 r2 i2 (by omega) (by omega) (by omega) (by omega) (by omega) (by omega) (xt_tr hx w3) (dz_tr hf w6 hx1) w5 (by omega) (fun x v' nx3 t3 r3 i3 hv => hQ x v' nx3 t3 r3 i3 (hv.trans ?_))
        rw [if_pos rfl]
        show _ = @ite _ (hp_of sx lc v.1 v.2.1 (ru_d ru n)) (Classical.propDecidable _) _ _
        rw [if_pos hz]
      · refine wf_if_eq 77 dc_LR_line_60 (by decide) (fun _ => ?_) (fun hc => absurd rfl hc)
        refine wf_iinc _ dc_LR_line_77 rfl (nI_1 n) (by decide) ?_
        refine wf_goto 38 dc_LR_line_80 (by decide) ?_
        refine Wf.to (L' := [(0, .ref (b + 0)), (1, .int (nI h)), (2, .int (wt_b true)), (3, .int (nI (n + 1)))]) (by exact ⟨rfl, rfl, rfl, rfl, trivial⟩) ?_
        refine ih (n + 1) bk bn h true v nx1 t1 r1 i1 (by omega) (by omega) (by omega) (by omega) hx1 (by omega) hx hf hI (by omega) (fun x v' nx3 t3 r3 i3 hv => hQ x v' nx3 t3 r3 i3 (hv.trans ?_))
        rw [if_pos rfl, if_pos rfl]
        show _ = @ite _ (hp_of sx lc v.1 v.2.1 (ru_d ru n)) (Classical.propDecidable _) _ _
        rw [if_neg hz]
theorem e_LR_line {sx tx : Nat → List Int32} {sp : Int32} {lc : Nat} {ru : List RuS} {w W : List Int32} {F : List (List Int32)} {co : Nat → Int32} {K : KtS} {out : List Int32} (hA : lr_at t r b pm) (hP : lp_pad i b w) (hX : lp_exp t r i g b pm sx) (hT : lp_txt i b tx) (hL : lp_lin i b lc) (hS : lp_sep i b sp) (hR : lp_rul i b ru) (hI : ln_is t r i b (W, F, co, K, out)) (hl : out.length < 1999900000) (hn : b + 222 ≤ nx) : Ct l E n0 mt_LR_line (d + 7) (2 * ra ru) (122 * ra ru) [.ref (b + 0)] nx t r i g (fun o nx' t' r' i' g' => ∃ x v', (x, v') = lns_of sx tx sp (lc + 1) ru 0 (w, fl_cut w sp, co, K, out) ∧ o = .inl (some (.int (nI x))) ∧ nx ≤ nx' ∧ nx' ≤ nx + 240 ∧ xt_ok [b + 91] t r t' r' ∧ g' = g ∧ lp_pad i' b [] ∧ lp_lin i' b (lc + 1) ∧ ln_is t' r' i' b v' ∧ dy b nx i i') := by
  have t0 := hA.1.1
  have r0 : r (b + 0) 0 = some (b + 1) := hA.2.1 (0, 0, 1) (by decide +kernel)
  have r5 : r (b + 0) 5 = some (b + 21) := hA.2.1 (0, 5, 21) (by decide +kernel)
  have hcu := lr_cut hA
  have tC := hcu.1
  have hpd := lr_pad hA
  have tP := hpd.1
  have h12 := hR.2.1
  obtain ⟨hC, hN, hK, hO⟩ := hI
  simp only at hC hN hK hO
  refine Ct.of (by decide) (Nat.le_of_ble_eq_true rfl) ?_
  refine wf_aload_n dc_LR_line_0 rfl ?_
  refine wf_getr dc_LR_line_1 fl_LR_44 rfl (by assumption) (by assumption) ?_
  refine wf_aload_n dc_LR_line_4 rfl ?_
  refine wf_getr dc_LR_line_5 fl_LR_14 rfl (by assumption) (by assumption) ?_
  refine wf_aload_n dc_LR_line_8 rfl ?_
  refine wf_geti dc_LR_line_9 fl_LR_69 rfl (by assumption) ?_
  rw [hS.1]
  refine wf_iv2 (M' := mt_Cut_begin) (c := 1) dc_LR_line_12 tg_Cut_begin ml_LR_165 im_Cut_begin se_Cut_begin ⟨_, rfl, rfl⟩ (by assumption) (Nat.le_of_ble_eq_true rfl) (Nat.le_refl _) (Nat.le_refl _) (c_Cut_begin hcu hC.1 hpd hP.1 hP.2.1) qV_nt (qV_go (fun i2 hp => ?_))
  obtain ⟨m1, m2⟩ := hp
  refine wf_aload_n dc_LR_line_15 rfl ?_
  refine wf_getr dc_LR_line_16 fl_LR_14 rfl (by assumption) (by assumption) ?_
  refine wf_iv0 (M' := mt_Row_drop) (c := 5) dc_LR_line_19 tg_Row_drop ml_LR_95 im_Row_drop se_Row_drop ⟨_, rfl, rfl⟩ (by assumption) (Nat.le_of_ble_eq_true rfl) (Nat.le_refl _) (Nat.le_refl _) (c_Row_drop hpd) qV_nt (qV_go (fun i2 hp => ?_))
  obtain ⟨m3, m4⟩ := hp
  have f3 := fr_tr m2 m4
  have no1 : ∀ lo hi, hi < 21 ∧ 1 < lo ∨ 88 < lo → cl_no b lo hi (cu_fp (b + 21) (lr_P b) (lr_R b) ++ [b + 1]) := fun lo hi h z hz => by
    rcases List.mem_append.mp hz with hz | hz
    · have := cu_fp_in hz
      omega
    · rw [List.mem_singleton.mp hz]
      omega
  have h00 : b + 0 ∉ cu_fp (b + 21) (lr_P b) (lr_R b) ++ [b + 1] := fun hz => by
    rcases List.mem_append.mp hz with hz | hz
    · have := cu_fp_in hz
      omega
    · have := List.mem_singleton.mp hz
      omega
  have h11 : i2 (b + 0) 11 = nI lc := (f3 _ h00 11).trans hL
  refine wf_aload_n dc_LR_line_22 rfl ?_
  refine wf_dup dc_LR_line_23 rfl ?_
  refine wf_geti dc_LR_line_24 fl_LR_168 rfl (by assumption) ?_
  refine wf_iconst 1 dc_LR_line_27 (by decide) ?_
  refine wf_iadd dc_LR_line_28 ?_
  rw [h11, nI_1]
  refine wf_puti dc_LR_line_29 fl_LR_168 (Or.inl nf_LR_11) rfl rfl rfl (by assumption) ?_
  refine wf_iconst 0 dc_LR_line_32 (by decide) ?_
  refine wf_istore_n dc_LR_line_33 (by decide) ?_
  refine wf_iconst 1 dc_LR_line_34 (by decide) ?_
  refine wf_istore_n dc_LR_line_35 (by decide) ?_
  refine wf_iconst 0 dc_LR_line_36 (by decide) ?_
  refine wf_istore_n dc_LR_line_37 (by decide) ?_
  have f0 : fr_is [b + 0] i2 (wf_up i2 (b + 0) 11 (nI (lc + 1))) := fr_up fr_rf (by simp)
  have k0 : ∀ k, k ≠ 11 → wf_up i2 (b + 0) 11 (nI (lc + 1)) (b + 0) k = i (b + 0) k := fun k hk => (wf_up_k hk).trans (f3 _ h00 k)
  have k11 : wf_up i2 (b + 0) 11 (nI (lc + 1)) (b + 0) 11 = nI (lc + 1) := wf_up_s
  have f4 := fr_tr f3 f0
  have hC4 : lp_cut (wf_up i2 (b + 0) 11 (nI (lc + 1))) b w (fl_cut w sp) := by
    have c1 : lp_cut _ b w (fl_cut w sp) := ⟨m1, hP.2, sF_d (sF_cut hP.2)⟩
    refine (c1.fr m4 ?_).fr f0 ?_ <;>
    · intro z hz
      rw [List.mem_singleton.mp hz]
      omega
  have hP4 : lp_pad (wf_up i2 (b + 0) 11 (nI (lc + 1))) b [] := by
    have c1 : lp_pad i2 b [] := ⟨m3, s1_nil⟩
    refine c1.fr f0 ?_
    intro z hz
    rw [List.mem_singleton.mp hz]
    omega
  have no2 : ∀ lo hi, 1 < lo → hi < 21 ∨ 88 < lo → cl_no b lo hi (cu_fp (b + 21) (lr_P b) (lr_R b) ++ [b + 1] ++ [b + 0]) := fun lo hi h h' z hz => by
    rcases List.mem_append.mp hz with hz | hz
    · exact no1 lo hi (by omega) z hz
    · rw [List.mem_singleton.mp hz]
      omega
  revert f4 hC4 hP4 k0 k11
  generalize wf_up i2 (b + 0) 11 (nI (lc + 1)) = i4
  intro k0 k11 f4 hC4 hP4
  have hX4 := hX.fr hA f4 (no2 12 17 (by omega) (by omega)) (no2 109 144 (by omega) (by omega))
  have hT4 := hT.fr f4 (no2 97 108 (by omega) (by omega))
  have hR4 := hR.fr f4 (k0 10 (by omega)) (no2 145 192 (by omega) (by omega))
  have hS4 : lp_sep i4 b sp := ⟨(k0 12 (by omega)).trans hS.1, hS.2⟩
  have hI4 : ln_is t r i4 b (w, fl_cut w sp, co, K, out) := ⟨hC4, hN.fr f4 (no2 89 89 (by omega) (by omega)), hK.fr f4 (no2 90 92 (by omega) (by omega)) (fun z hz => by
    rcases List.mem_append.mp hz with hz | hz
    · rcases List.mem_append.mp hz with hz | hz
      · have := cu_fp_in hz
        omega
      · rw [List.mem_singleton.mp hz]
        omega
    · rw [List.mem_singleton.mp hz]
      omega), hO.fr f4 ((no2 93 94 (by omega) (by omega)).at (by omega) (by omega)) ((no2 93 94 (by omega) (by omega)).at (by omega) (by omega))⟩
  refine Wf.to (L' := [(0, .ref (b + 0)), (1, .int (nI 0)), (2, .int (wt_b true)), (3, .int (nI 0))]) (by exact ⟨rfl, rfl, rfl, rfl, trivial⟩) ?_
  have hd0 : ru.drop 0 = ru := List.drop_zero
  refine e_LR_line_l hA hX4 hT4 k11 hS4 hR4 hn ru.length 0 (2 * ra ru) (122 * ra ru) 0 true _ nx t r i4 (by omega) (by rw [hd0]; omega) (by rw [hd0]; omega) (by omega) (by omega) (by omega) xt_rf dz_rf hI4 (by show out.length + _ < _; omega) (fun x v' nx2 t2 r2 i2 hv q1 q2 q3 q4 q5 => ?_)
  refine ⟨x, v', hv, rfl, q1, q2, q3, rfl, hP4.dz q4 hn, (q4 _ (by omega) (by omega) 11).trans k11, q5, fun z hz h1 h2 k h3 => ?_⟩
  rw [q4 z hz h1 k]
  by_cases hz0 : z = b + 0
  · subst hz0
    exact k0 k (h3 rfl)
  · refine f4 z (fun hm => ?_) k
    rcases List.mem_append.mp hm with hm | hm
    · rcases List.mem_append.mp hm with hm | hm
      · have := cu_fp_in hm
        omega
      · exact h2 (List.mem_singleton.mp hm)
    · exact hz0 (List.mem_singleton.mp hm)
end
