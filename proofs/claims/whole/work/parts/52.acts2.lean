/-! class LineRules: doActions -/
theorem fld_len {F : List (List Int32)} (h : sF F) (f : Int32) : (fld F f).length ≤ 120 := (s1_fld h).1
theorem pm_len {X : Rel} {W : List Int32} (h : W.length ≤ 120) : (pm_of X W).length ≤ 121 := by
  unfold pm_of
  cases fd_of X W 0 with
  | none => simp
  | some s =>
    simp only
    cases en_of X W s with
    | none => simp
    | some e =>
      simp only [List.length_append, List.length_take, List.length_drop, List.length_cons, List.length_nil]
      omega
theorem da_len {sx tx : Nat → List Int32} {sp : Int32} {lc : Nat} {p a b : Int32} {v : LnS} (hW : v.1.length ≤ 120) (hF : sF v.2.1) : (da_of sx tx sp lc p a b v).2.2.2.2.length ≤ v.2.2.2.2.length + 121 := by
  have h1 := fld_len hF a
  have h2 := (s1_nm (v.2.2.1 a.toNatClampNeg)).2
  have h3 := pm_len (X := ps_rel (sx a.toNatClampNeg)) hW
  unfold da_of
  by_cases c0 : p = 0
  · rw [if_pos c0]; simp only [List.length_append, List.length_cons, List.length_nil]; omega
  rw [if_neg c0]
  by_cases c1 : p = 1
  · rw [if_pos c1]; simp only [List.length_append, List.length_cons, List.length_nil]; omega
  rw [if_neg c1]
  by_cases c2 : p = 2
  · rw [if_pos c2]; simp only [List.length_append, List.length_cons, List.length_nil]; omega
  rw [if_neg c2]
  by_cases c3 : p = 3
  · rw [if_pos c3]; simp only [List.length_append, List.length_cons, List.length_nil]; omega
  rw [if_neg c3]
  by_cases c4 : p = 4
  · rw [if_pos c4]; simp only [List.length_append, List.length_cons, List.length_nil]; omega
  rw [if_neg c4]
  by_cases c5 : p = 5
  · rw [if_pos c5]; simp only [List.length_append, List.length_cons, List.length_nil]; omega
  rw [if_neg c5]
  by_cases c6 : p = 6
  · rw [if_pos c6]; simp only [List.length_append, List.length_cons, List.length_nil]; omega
  rw [if_neg c6]
  by_cases c7 : p = 7
  · rw [if_pos c7]; simp only [List.length_append, List.length_cons, List.length_nil]; omega
  rw [if_neg c7]
  by_cases c8 : p = 8
  · rw [if_pos c8]; simp only [List.length_append, List.length_cons, List.length_nil]; omega
  rw [if_neg c8]
  by_cases c9 : p = 9
  · rw [if_pos c9]; simp only [List.length_append, List.length_cons, List.length_nil]; omega
  rw [if_neg c9]
  by_cases c11 : p = 11
  · rw [if_pos c11]; simp only [List.length_append, List.length_cons, List.length_nil]; omega
  rw [if_neg c11]
  by_cases c12 : p = 12
  · rw [if_pos c12]; simp only [List.length_append, List.length_cons, List.length_nil]; omega
  rw [if_neg c12]
  omega
def ds_q (nx : Nat) (t : Wt) (r : Wr) (i : Wi) (g : Wl) (b n : Nat) (v : LnS) (x : Int32) : Wq := fun o nx' t' r' i' g' => o = .inl (some (.int x)) ∧ nx ≤ nx' ∧ nx' ≤ nx + 2 * n ∧ xt_ok [b + 91] t r t' r' ∧ g' = g ∧ ln_is t' r' i' b v ∧ dz b nx i i'
section
variable {l : Launch} {E : We} {n0 d nx : Nat} {t : Wt} {r : Wr} {i : Wi} {g : Wl} {b : Nat} {pm : Nat → Nat}
theorem ad_s {A : List (Int32 × Int32 × Int32)} {n : Nat} (h : n < A.length) : A.drop n = A.getD n (0, 0, 0) :: A.drop (n + 1) := by
  rw [List.drop_eq_getElem_cons h, List.getD_eq_getElem?_getD, List.getElem?_eq_getElem h]
  rfl
theorem c_LR_doActions {sx tx : Nat → List Int32} {sp : Int32} {lc k : Nat} {v : LnS} {u : RuS} (hA : lr_at t r b pm) (hX : lp_exp t r i g b pm sx) (hT : lp_txt i b tx) (hL : lp_lin i b lc) (hS : lp_sep i b sp) (hI : ln_is t r i b v) (hk : k < 12) (hu : ru_is i (b + (145 + 4 * k)) (b + (145 + 4 * k + 1)) (b + (145 + 4 * k + 2)) (b + (145 + 4 * k + 3)) u) (ho : ru_ok u) (hl : v.2.2.2.2.length < 1999990000) (hn : b + 222 ≤ nx) : Ct l E n0 mt_LR_doActions (d + 6) 20 1220 [.ref (b + 0), .ref (b + (145 + 4 * k))] nx t r i g (ds_q nx t r i g b 10 (das_of sx tx sp lc u.2.2.2 v) (wt_b (das_b u.2.2.2))) := by
  obtain ⟨p0, a0, b0, A⟩ := u
  obtain ⟨o1, -, o3⟩ := ho
  simp only at o1 o3
  refine Ct.of (by decide) (Nat.le_of_ble_eq_true rfl) ?_
  have loop : ∀ (c n bk bn : Nat) (m : Bool) (v1 : LnS) (nx1 : Nat) (t1 : Wt) (r1 : Wr) (i1 : Wi), n + c = A.length → 2 * c ≤ bk → 122 * c ≤ bn → das_of sx tx sp lc (A.drop n) v1 = das_of sx tx sp lc A v → (m && das_b (A.drop n)) = das_b A → nx ≤ nx1 → nx1 ≤ nx + 2 * n → xt_ok [b + 91] t r t1 r1 → dz b nx i i1 → ln_is t1 r1 i1 b v1 → v1.2.2.2.2.length + 121 * c < 1999995000 → Wf l E n0 mt_LR_doActions (d + 6) 20 1220 (ds_q nx t r i g b 10 (das_of sx tx sp lc A v) (wt_b (das_b A))) bk bn 4 [(0, .ref (b + 0)), (1, .ref (b + (145 + 4 * k))), (2, .int (wt_b m)), (3, .int (nI n))] [] nx1 t1 r1 i1 g := by
    intro c
    induction c with
    | zero =>
      intro n bk bn m v1 nx1 t1 r1 i1 hn1 hbk hbn hv hm hx1 hx2 hx hf hI1 hl1
      have hA1 := hA.xt hx
      have tR := (lr_rul hA1 hk).1
      have h6 : i1 (b + (145 + 4 * k)) 6 = nI A.length := (hf _ (by omega) (by omega) 6).trans hu.2.2.2.1
      refine wf_iload_n dc_LR_doActions_4 rfl ?_
      refine wf_aload_n dc_LR_doActions_5 rfl ?_
      refine wf_geti dc_LR_doActions_6 fl_LR_251 rfl (by assumption) ?_
      rw [h6]
      refine wf_icmp_ge 56 dc_LR_doActions_9 (by decide) (fun hc => ?_) (fun hc => absurd ((nI_leI (by omega) (by omega)).mpr (by omega)) hc)
      refine wf_iload_n dc_LR_doActions_56 rfl ?_
      have hnil : A.drop n = [] := List.drop_eq_nil_of_le (by omega)
      rw [hnil] at hv hm
      have hm' : m = das_b A := by rw [← hm]; simp [das_b]
      exact wf_zreturn rfl (wt_bn2 _) dc_LR_doActions_57 ⟨by rw [hm'], hx1, by omega, hx, rfl, by rw [← hv]; exact hI1, hf⟩
    | succ c ih =>
      intro n bk bn m v1 nx1 t1 r1 i1 hn1 hbk hbn hv hm hx1 hx2 hx hf hI1 hl1
      have hA1 := hA.xt hx
      have hru := lr_rul hA1 hk
      obtain ⟨tR, q3, q4, q5, t3, t4, t5, -⟩ := hru
      have hlt : n < A.length := by omega
      have h6 : i1 (b + (145 + 4 * k)) 6 = nI A.length := (hf _ (by omega) (by omega) 6).trans hu.2.2.2.1
      have hu4 := hu.2.2.2.2 n hlt
      have v1' : i1 (b + (145 + 4 * k + 1)) n = (A.getD n (0, 0, 0)).1 := (hf _ (by omega) (by omega) n).trans hu4.1
      have v2' : i1 (b + (145 + 4 * k + 2)) n = (A.getD n (0, 0, 0)).2.1 := (hf _ (by omega) (by omega) n).trans hu4.2.1
      have v3' : i1 (b + (145 + 4 * k + 3)) n = (A.getD n (0, 0, 0)).2.2 := (hf _ (by omega) (by omega) n).trans hu4.2.2
      have hcl : (nI n).toNatClampNeg = n := nI_clamp (by omega)
      have hin : vp_in (nI n) 10 := vp_in_nI (by omega) (by omega)
      have ho3 := o3 n hlt
      rw [ad_s hlt] at hv hm
      revert hv hm v1' v2' v3' ho3
      generalize A.getD n (0, 0, 0) = q
      obtain ⟨qp, qa, qb⟩ := q
      intro hv hm v1' v2' v3' ho3
      simp only at v1' v2' v3' ho3
      refine wf_iload_n dc_LR_doActions_4 rfl ?_
      refine wf_aload_n dc_LR_doActions_5 rfl ?_
      refine wf_geti dc_LR_doActions_6 fl_LR_251 rfl (by assumption) ?_
      rw [h6]
      refine wf_icmp_ge 56 dc_LR_doActions_9 (by decide) (fun hc => absurd ((nI_leI (by omega) (by omega)).mp hc) (by omega)) (fun hc => ?_)
      refine wf_aload_n dc_LR_doActions_12 rfl ?_
      refine wf_getr dc_LR_doActions_13 fl_LR_254 rfl (by assumption) (by assumption) ?_
      refine wf_iload_n dc_LR_doActions_16 rfl ?_
      refine wf_iaload (y := 0) dc_LR_doActions_17 rfl (by assumption) (hin) ?_
      rw [hcl, v1']
      refine wf_bipush 10 dc_LR_doActions_18 (by decide) ?_
      refine wf_icmp_ne 28 dc_LR_doActions_20 (by decide) (fun h10 => ?_) (fun h10 => ?_)
      · have h10' : ¬ qp = 10 := h10
        refine wf_aload_n dc_LR_doActions_28 rfl ?_
        refine wf_aload_n dc_LR_doActions_29 rfl ?_
        refine wf_getr dc_LR_doActions_30 fl_LR_254 rfl (by assumption) (by assumption) ?_
        refine wf_iload_n dc_LR_doActions_33 rfl ?_
        refine wf_iaload (y := 0) dc_LR_doActions_34 rfl (by assumption) (hin) ?_
        rw [hcl, v1']
        refine wf_aload_n dc_LR_doActions_35 rfl ?_
        refine wf_getr dc_LR_doActions_36 fl_LR_257 rfl (by assumption) (by assumption) ?_
        refine wf_iload_n dc_LR_doActions_39 rfl ?_
        refine wf_iaload (y := 0) dc_LR_doActions_40 rfl (by assumption) (hin) ?_
        rw [hcl, v2']
        refine wf_aload_n dc_LR_doActions_41 rfl ?_
        refine wf_getr dc_LR_doActions_42 fl_LR_260 rfl (by assumption) (by assumption) ?_
        refine wf_iload_n dc_LR_doActions_45 rfl ?_
        refine wf_iaload (y := 0) dc_LR_doActions_46 rfl (by assumption) (hin) ?_
        rw [hcl, v3']
        refine wf_fresh (fun fz => ?_)
        have hlt1 : ∀ z y, t1 z = some y → z < nx1 := fun z y hz => Nat.not_le.mp fun hle => by
          rw [(fz z hle).1] at hz
          cases hz
        have tL := hA1.1.1
        refine wf_iv3 (M' := mt_LR_doAction) (c := 0) (bk' := bk - 2) (bn' := bn - 122) dc_LR_doActions_47 tg_LR_doAction ml_LR_263 im_LR_doAction se_LR_doAction ⟨_, rfl, rfl⟩ (by assumption) (Nat.le_of_ble_eq_true rfl) (by omega) (by omega) (c_LR_doAction hA1 (hX.dx hA hx hf hn) (hT.dz hf hn) ((hf _ (by omega) (by omega) 11).trans hL) ⟨(hf _ (by omega) (by omega) 12).trans hS.1, hS.2⟩ hI1 ho3 (by omega) (by omega) hlt1) (by rintro X a1 a2 a3 a4 a5 ⟨q, -⟩; cases q) ?_
        rintro vo nx2 t2 r2 i2 g2 ⟨hvo, w1, w2, w3, w4, w5, w6⟩
        cases hvo
        subst w4
        refine wf_iinc _ dc_LR_doActions_50 rfl (nI_1 n) (by decide) ?_
        refine wf_goto 4 dc_LR_doActions_53 (by decide) ?_
        have hlen := da_len (sx := sx) (tx := tx) (sp := sp) (lc := lc) (p := qp) (a := qa) (b := qb) hI1.1.2.1.1 (sF_of hI1.1.2.2)
        refine Wf.to (L' := [(0, .ref (b + 0)), (1, .ref (b + (145 + 4 * k))), (2, .int (wt_b m)), (3, .int (nI (n + 1)))]) (by exact ⟨rfl, rfl, rfl, rfl, trivial⟩) ?_
        refine ih (n + 1) (bk - 2) (bn - 122) m _ nx2 t2 r2 i2 (by omega) (by omega) (by omega) ?_ ?_ (by omega) (by omega) (xt_tr hx w3) (dz_tr hf (dz_of w6) hx1) w5 (by omega)
        · rw [← hv]
          show _ = das_of sx tx sp lc (A.drop (n + 1)) (if qp = 10 then v1 else _)
          rw [if_neg h10']
        · rw [← hm]
          show _ = (m && (!(decide (qp = 10)) && das_b (A.drop (n + 1))))
          rw [decide_eq_false h10']
          simp
      · have h10' : qp = 10 := h10
        refine wf_iconst 0 dc_LR_doActions_23 (by decide) ?_
        refine wf_istore_n dc_LR_doActions_24 (by decide) ?_
        refine wf_goto 50 dc_LR_doActions_25 (by decide) ?_
        refine wf_iinc _ dc_LR_doActions_50 rfl (nI_1 n) (by decide) ?_
        refine wf_goto 4 dc_LR_doActions_53 (by decide) ?_
        refine Wf.to (L' := [(0, .ref (b + 0)), (1, .ref (b + (145 + 4 * k))), (2, .int (wt_b false)), (3, .int (nI (n + 1)))]) (by exact ⟨rfl, rfl, rfl, rfl, trivial⟩) ?_
        refine ih (n + 1) bk bn false v1 nx1 t1 r1 i1 (by omega) (by omega) (by omega) ?_ ?_ (by omega) (by omega) hx hf hI1 (by omega)
        · rw [← hv]
          show _ = das_of sx tx sp lc (A.drop (n + 1)) (if qp = 10 then v1 else _)
          rw [if_pos h10']
        · rw [← hm]
          show _ = (m && (!(decide (qp = 10)) && das_b (A.drop (n + 1))))
          rw [decide_eq_true h10']
          simp
  refine wf_iconst 1 dc_LR_doActions_0 (by decide) ?_
  refine wf_istore_n dc_LR_doActions_1 (by decide) ?_
  refine wf_iconst 0 dc_LR_doActions_2 (by decide) ?_
  refine wf_istore_n dc_LR_doActions_3 (by decide) ?_
  refine Wf.to (L' := [(0, .ref (b + 0)), (1, .ref (b + (145 + 4 * k))), (2, .int (wt_b true)), (3, .int (nI 0))]) (by exact ⟨rfl, rfl, rfl, rfl, trivial⟩) ?_
  exact loop A.length 0 20 1220 true v nx t r i (by omega) (by omega) (by omega) rfl rfl (by omega) (by omega) xt_rf dz_rf hI (by omega)
end
