/-! class LineRules: line -/
/-- cells of before, but the pad's, the line count, and what dz leaves out -/
def dy (b nx : Nat) (i i' : Wi) : Prop := ∀ z, z < nx → (z < b + 21 ∨ b + 96 < z) → z ≠ b + 1 → ∀ k, (z = b + 0 → k ≠ 11) → i' z k = i z k
/-- the rules have their turn: how many had the line, and what came of it -/
noncomputable def lns_of (sx tx : Nat → List Int32) (sp : Int32) (lc : Nat) : List RuS → Nat → LnS → Nat × LnS
  | [], n, v => (n, v)
  | u :: R, n, v => @ite _ (hp_of sx lc v.1 v.2.1 u) (Classical.propDecidable _) (if das_b u.2.2.2 = true then lns_of sx tx sp lc R (n + 1) (das_of sx tx sp lc u.2.2.2 v) else (n + 1, das_of sx tx sp lc u.2.2.2 v)) (lns_of sx tx sp lc R n v)
section
variable {l : Launch} {E : We} {n0 d nx : Nat} {t : Wt} {r : Wr} {i i' : Wi} {g : Wl} {b : Nat} {pm : Nat → Nat}
theorem rd_s {R : List RuS} {n : Nat} (h : n < R.length) : R.drop n = ru_d R n :: R.drop (n + 1) := by
  rw [List.drop_eq_getElem_cons h]
  unfold ru_d
  rw [List.getD_eq_getElem?_getD, List.getElem?_eq_getElem h]
  rfl
theorem lns_len (sx tx : Nat → List Int32) (sp : Int32) (lc : Nat) (R : List RuS) : ∀ n v, (lns_of sx tx sp lc R n v).1 ≤ n + R.length := by
  induction R with
  | nil => exact fun n v => Nat.le_refl _
  | cons u R ih =>
    intro n v
    unfold lns_of
    by_cases h : hp_of sx lc v.1 v.2.1 u
    · rw [if_pos h]
      by_cases h2 : das_b u.2.2.2 = true
      · rw [if_pos h2]
        have := ih (n + 1) (das_of sx tx sp lc u.2.2.2 v)
        rw [List.length_cons]
        omega
      · rw [if_neg h2, List.length_cons]
        simp only
        omega
    · rw [if_neg h]
      have := ih n v
      rw [List.length_cons]
      omega
theorem da_keep {sx tx : Nat → List Int32} {sp : Int32} {lc : Nat} {p a c : Int32} {v : LnS} (htx : ∀ k, k < 6 → s1 (tx k)) (hc5 : p = 6 ∨ p = 7 → c.toNatClampNeg < 6) (hsp : ∃ c : Nat, 1 ≤ c ∧ c < 256 ∧ sp = nI c) (hW : s1 v.1) (hF : sF v.2.1) : s1 (da_of sx tx sp lc p a c v).1 ∧ sF (da_of sx tx sp lc p a c v).2.1 := by
  have keep : s1 v.1 ∧ sF v.2.1 := ⟨hW, hF⟩
  have setf : ∀ w, s1 w → s1 ((fl_cat sp ((fl_fill v.2.1 a.toNatClampNeg).set (a.toNatClampNeg - 1) w)).take 120) ∧ sF ((fl_fill v.2.1 a.toNatClampNeg).set (a.toNatClampNeg - 1) w) := fun w hw => by
    have s3 := sF_set (f := a.toNatClampNeg) (k := a.toNatClampNeg - 1) hF hw
    exact ⟨s1_of (by rw [List.length_take]; omega) (sA_take (sA_cat hsp s3) 120), s3⟩
  have rep : ∀ (X : Rel) (M : Nat), c.toNatClampNeg < 6 → s1 ((rp_go X v.1 (tx c.toNatClampNeg) M 0 (fd_of X v.1 0) []).take 120) := fun X M h => s1_of (by rw [List.length_take]; omega) (sA_take (sA_rp (s1_A hW) (s1_A (htx _ h)) _ _ _ _ sA_nil) 120)
  unfold da_of
  by_cases c0 : p = 0
  · rw [if_pos c0]; exact keep
  rw [if_neg c0]
  by_cases c1 : p = 1
  · rw [if_pos c1]; exact keep
  rw [if_neg c1]
  by_cases c2 : p = 2
  · rw [if_pos c2]; exact keep
  rw [if_neg c2]
  by_cases c3 : p = 3
  · rw [if_pos c3]; exact keep
  rw [if_neg c3]
  by_cases c4 : p = 4
  · rw [if_pos c4]; exact setf _ (s1_fld hF)
  rw [if_neg c4]
  by_cases c5 : p = 5
  · rw [if_pos c5]; exact setf _ (s1_nm _).1
  rw [if_neg c5]
  by_cases c6 : p = 6
  · rw [if_pos c6]; exact ⟨rep _ _ (hc5 (.inl c6)), sF_cut (rep _ _ (hc5 (.inl c6)))⟩
  rw [if_neg c6]
  by_cases c7 : p = 7
  · rw [if_pos c7]; exact ⟨rep _ _ (hc5 (.inr c7)), sF_cut (rep _ _ (hc5 (.inr c7)))⟩
  rw [if_neg c7]
  by_cases c8 : p = 8
  · rw [if_pos c8]; exact keep
  rw [if_neg c8]
  by_cases c9 : p = 9
  · rw [if_pos c9]; exact keep
  rw [if_neg c9]
  by_cases c11 : p = 11
  · rw [if_pos c11]; exact keep
  rw [if_neg c11]
  by_cases c12 : p = 12
  · rw [if_pos c12]; exact keep
  rw [if_neg c12]
  exact keep
theorem ac_67 {p a c : Int32} (h : ac_ok p a c = true) (hp : p = 6 ∨ p = 7) : c.toNatClampNeg < 6 := by
  have h2 : (bw a 0 5 && bw c 0 5) = true := by
    rcases hp with z | z <;> subst z <;> exact h
  rw [Bool.and_eq_true] at h2
  obtain ⟨c', -, hc, rfl⟩ := bw_n (lo := 0) (hi := 5) h2.2
  rw [nI_clamp (by omega)]
  omega
theorem das_len {sx tx : Nat → List Int32} {sp : Int32} {lc : Nat} (htx : ∀ k, k < 6 → s1 (tx k)) (hsp : ∃ c : Nat, 1 ≤ c ∧ c < 256 ∧ sp = nI c) (A : List (Int32 × Int32 × Int32)) : ∀ v : LnS, (∀ q ∈ A, ac_ok q.1 q.2.1 q.2.2 = true) → s1 v.1 → sF v.2.1 → (das_of sx tx sp lc A v).2.2.2.2.length ≤ v.2.2.2.2.length + 121 * A.length := by
  induction A with
  | nil => exact fun v _ _ _ => Nat.le_refl _
  | cons q A ih =>
    intro v hq hW hF
    unfold das_of
    rw [List.length_cons]
    by_cases h : q.1 = 10
    · rw [if_pos h]
      have := ih v (fun x hx => hq x (List.mem_cons_of_mem _ hx)) hW hF
      omega
    · rw [if_neg h]
      obtain ⟨k1, k2⟩ := da_keep (sx := sx) (lc := lc) (p := q.1) (a := q.2.1) (c := q.2.2) (v := v) htx (ac_67 (hq q (List.mem_cons_self))) hsp hW hF
      have h1 := ih _ (fun x hx => hq x (List.mem_cons_of_mem _ hx)) k1 k2
      have h2 := da_len (sx := sx) (tx := tx) (sp := sp) (lc := lc) (p := q.1) (a := q.2.1) (b := q.2.2) hW.1 hF
      omega
theorem ru_ok_A {u : RuS} (h : ru_ok u) : ∀ q ∈ u.2.2.2, ac_ok q.1 q.2.1 q.2.2 = true := fun q hq => by
  obtain ⟨j, hj, rfl⟩ := List.mem_iff_getElem.mp hq
  have := h.2.2 j hj
  rw [List.getD_eq_getElem?_getD, List.getElem?_eq_getElem hj] at this
  exact this
/-- the loop of line: the rules from n on -/
theorem c_LR_line_l {sx tx : Nat → List Int32} {sp : Int32} {lc : Nat} {ru : List RuS} {Q : Wq} (hA : lr_at t r b pm) (hX : lp_exp t r i g b pm sx) (hT : lp_txt i b tx) (hL : lp_lin i b lc) (hS : lp_sep i b sp) (hR : lp_rul i b ru) (hn : b + 222 ≤ nx) :
    ∀ (c n bk bn h : Nat) (m : Bool) (v : LnS) (nx1 : Nat) (t1 : Wt) (r1 : Wr) (i1 : Wi), n + c = ru.length → 20 * c ≤ bk → 1220 * c ≤ bn → h ≤ n → nx ≤ nx1 → nx1 ≤ nx + 20 * n → xt_ok [b + 91] t r t1 r1 → dz b nx i i1 → ln_is t1 r1 i1 b v → v.2.2.2.2.length + 1210 * c < 1999980000 →
    (∀ x v' nx2 t2 r2 i2, (x, v') = (if m = true then lns_of sx tx sp lc (ru.drop n) h v else (h, v)) → nx ≤ nx2 → nx2 ≤ nx + 240 → xt_ok [b + 91] t r t2 r2 → dz b nx i i2 → ln_is t2 r2 i2 b v' → Q (.inl (some (.int (nI x)))) nx2 t2 r2 i2 g) →
    Wf l E n0 mt_LR_line (d + 7) 240 14640 Q bk bn 38 [(0, .ref (b + 0)), (1, .int (nI h)), (2, .int (wt_b m)), (3, .int (nI n))] [] nx1 t1 r1 i1 g := by
  have h12 := hR.2.1
  intro c
  induction c with
  | zero =>
    intro n bk bn h m v nx1 t1 r1 i1 hn1 hbk hbn hh hx1 hx2 hx hf hI hl hQ
    have hA1 := hA.xt hx
    have t0 := hA1.1.1
    have h10 : i1 (b + 0) 10 = nI ru.length := (hf _ (by omega) (by omega) 10).trans hR.1
    refine wf_iload_n dc_LR_line_38 rfl ?_
    refine wf_aload_n dc_LR_line_39 rfl ?_
    refine wf_geti dc_LR_line_40 fl_LR_141 rfl (by assumption) ?_
    rw [h10]
    refine wf_icmp_ge 83 dc_LR_line_43 (by decide) (fun hc => ?_) (fun hc => absurd ((nI_leI (by omega) (by omega)).mpr (by omega)) hc)
    refine wf_iload_n dc_LR_line_83 rfl ?_
    have hnil : ru.drop n = [] := List.drop_eq_nil_of_le (by omega)
    exact wf_ireturn rfl dc_LR_line_84 (hQ h v nx1 t1 r1 i1 (by rw [hnil]; cases m <;> rfl) hx1 (by omega) hx hf hI)
  | succ c ih =>
    intro n bk bn h m v nx1 t1 r1 i1 hn1 hbk hbn hh hx1 hx2 hx hf hI hl hQ
    have hA1 := hA.xt hx
    have t0 := hA1.1.1
    have t20 := hA1.1.2 20 (20, .inr (5, 12)) (by decide +kernel)
    have r4 : r1 (b + 0) 4 = some (b + 20) := hA1.2.1 (0, 4, 20) (by decide +kernel)
    have hlt : n < ru.length := by omega
    have h10 : i1 (b + 0) 10 = nI ru.length := (hf _ (by omega) (by omega) 10).trans hR.1
    have hR1 := hR.dz hf hn
    have hX1 := hX.dx hA hx hf hn
    have hT1 := hT.dz hf hn
    have hL1 : lp_lin i1 b lc := (hf _ (by omega) (by omega) 11).trans hL
    have hS1 : lp_sep i1 b sp := ⟨(hf _ (by omega) (by omega) 12).trans hS.1, hS.2⟩
    obtain ⟨hu, hok⟩ := hR1.2.2 n hlt
    have hcl : (nI n).toNatClampNeg = n := nI_clamp (by omega)
    have w20 : ∀ k, k < 12 → (20, k, 145 + 4 * k) ∈ lr_Wf := by decide +kernel
    have r20 : r1 (b + 20) (nI n).toNatClampNeg = some (b + (145 + 4 * n)) := by rw [hcl]; exact hA1.2.1 _ (w20 n (by omega))
    rw [rd_s hlt] at hQ
    refine wf_iload_n dc_LR_line_38 rfl ?_
    refine wf_aload_n dc_LR_line_39 rfl ?_
    refine wf_geti dc_LR_line_40 fl_LR_141 rfl (by assumption) ?_
    rw [h10]
    refine wf_icmp_ge 83 dc_LR_line_43 (by decide) (fun hc => absurd ((nI_leI (by omega) (by omega)).mp hc) (by omega)) (fun hc => ?_)
    refine wf_iload_n dc_LR_line_46 rfl ?_
    cases m with
    | false =>
      refine wf_if_eq 83 dc_LR_line_47 (by decide) (fun _ => ?_) (fun hc => absurd rfl hc)
      refine wf_iload_n dc_LR_line_83 rfl ?_
      exact wf_ireturn rfl dc_LR_line_84 (hQ h v nx1 t1 r1 i1 rfl hx1 (by omega) hx hf hI)
    | true =>
      refine wf_if_eq 83 dc_LR_line_47 (by decide) (fun hc => absurd hc (by decide)) (fun _ => ?_)
      refine wf_aload_n dc_LR_line_50 rfl ?_
      refine wf_aload_n dc_LR_line_51 rfl ?_
      refine wf_getr dc_LR_line_52 fl_LR_37 rfl (by assumption) (by assumption) ?_
      refine wf_iload_n dc_LR_line_55 rfl ?_
      refine wf_aaload (y := 5) dc_LR_line_56 rfl rfl (by assumption) (vp_in_nI (by omega) (by omega)) (r20) ?_
      refine wf_iv1 (M' := mt_LR_hasPattern) (c := 0) dc_LR_line_57 tg_LR_hasPattern ml_LR_171 im_LR_hasPattern se_LR_hasPattern ⟨_, rfl, rfl⟩ (by assumption) (Nat.le_of_ble_eq_true rfl) (Nat.le_refl _) (Nat.le_refl _) (c_LR_hasPattern hA1 hX1 hI.1 hL1 (by omega) hu hok.2.1) qI_nt (qI_go (fun x2 i2 hp => ?_))
      obtain ⟨hq, hz⟩ := hp
      subst i2
      rcases hz with ⟨rfl, hz⟩ | ⟨rfl, hz⟩
      · refine wf_if_eq 77 dc_LR_line_60 (by decide) (fun hc => absurd hc (by decide)) (fun _ => ?_)
        refine wf_iinc _ dc_LR_line_63 rfl (nI_1 h) (by decide) ?_
        refine wf_aload_n dc_LR_line_66 rfl ?_
        refine wf_aload_n dc_LR_line_67 rfl ?_
        refine wf_getr dc_LR_line_68 fl_LR_37 rfl (by assumption) (by assumption) ?_
        refine wf_iload_n dc_LR_line_71 rfl ?_
        refine wf_aaload (y := 5) dc_LR_line_72 rfl rfl (by assumption) (vp_in_nI (by omega) (by omega)) (r20) ?_
        refine wf_iv1 (M' := mt_LR_doActions) (c := 0) (bk' := bk - 20) (bn' := bn - 1220) dc_LR_line_73 tg_LR_doActions ml_LR_175 im_LR_doActions se_LR_doActions ⟨_, rfl, rfl⟩ (by assumption) (Nat.le_of_ble_eq_true rfl) (by omega) (by omega) (c_LR_doActions hA1 hX1 hT1 hL1 hS1 hI (by omega) hu hok (by omega) (by omega)) (by rintro X a1 a2 a3 a4 a5 ⟨q, -⟩; cases q) ?_
        rintro vo nx2 t2 r2 i2 g2 ⟨hvo, w1, w2, w3, w4, w5, w6⟩
        cases hvo
        subst w4
        refine wf_istore_n dc_LR_line_76 (by decide) ?_
        refine wf_iinc _ dc_LR_line_77 rfl (nI_1 n) (by decide) ?_
        refine wf_goto 38 dc_LR_line_80 (by decide) ?_
        have hlen := das_len (sx := sx) (lc := lc) (fun k hk => (hT k hk).2) hS.2 (ru_d ru n).2.2.2 v (ru_ok_A hok) hI.1.2.1 (sF_of hI.1.2.2)
        have h10a := hok.1
        refine Wf.to (L' := [(0, .ref (b + 0)), (1, .int (nI (h + 1))), (2, .int (wt_b (das_b (ru_d ru n).2.2.2))), (3, .int (nI (n + 1)))]) (by exact ⟨rfl, rfl, rfl, rfl, trivial⟩) ?_
        refine ih (n + 1) (bk - 20) (bn - 1220) (h + 1) _ _ nx2 t2 r2 i2 (by omega) (by omega) (by omega) (by omega) (by omega) (by omega) (xt_tr hx w3) (dz_tr hf w6 hx1) w5 (by omega) (fun x v' nx3 t3 r3 i3 hv => hQ x v' nx3 t3 r3 i3 (hv.trans ?_))
        rw [if_pos rfl]
        show _ = @ite _ (hp_of sx lc v.1 v.2.1 (ru_d ru n)) (Classical.propDecidable _) _ _
        rw [if_pos hz]
      · refine wf_if_eq 77 dc_LR_line_60 (by decide) (fun _ => ?_) (fun hc => absurd rfl hc)
        refine wf_iinc _ dc_LR_line_77 rfl (nI_1 n) (by decide) ?_
        refine wf_goto 38 dc_LR_line_80 (by decide) ?_
        refine Wf.to (L' := [(0, .ref (b + 0)), (1, .int (nI h)), (2, .int (wt_b true)), (3, .int (nI (n + 1)))]) (by exact ⟨rfl, rfl, rfl, rfl, trivial⟩) ?_
        refine ih (n + 1) bk bn h true v nx1 t1 r1 i1 (by omega) (by omega) (by omega) (by omega) hx1 (by omega) hx hf hI (by omega) (fun x v' nx3 t3 r3 i3 hv => hQ x v' nx3 t3 r3 i3 (hv.trans ?_))
        rw [if_pos rfl, if_pos rfl]
        show _ = @ite _ (hp_of sx lc v.1 v.2.1 (ru_d ru n)) (Classical.propDecidable _) _ _
        rw [if_neg hz]
end
