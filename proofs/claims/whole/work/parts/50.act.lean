/-! class LineRules: what an action does -/
abbrev LnS : Type := List Int32 × List (List Int32) × (Nat → Int32) × KtS × List Int32
def co_up (co : Nat → Int32) (k : Nat) (x : Int32) : Nat → Int32 := fun j => if j = k then x else co j
/-- what is printed of the first match -/
noncomputable def pm_of (X : Rel) (W : List Int32) : List Int32 := match fd_of X W 0 with
  | none => []
  | some s => match en_of X W s with
    | none => []
    | some e => (W.drop s).take (e - s) ++ [10]
noncomputable def da_of (sx tx : Nat → List Int32) (sp : Int32) (lc : Nat) (p a b : Int32) (v : LnS) : LnS :=
  if p = 0 then (v.1, v.2.1, v.2.2.1, v.2.2.2.1, v.2.2.2.2 ++ v.1 ++ [10])
  else if p = 1 then (v.1, v.2.1, v.2.2.1, v.2.2.2.1, v.2.2.2.2 ++ fld v.2.1 a ++ [10])
  else if p = 2 then (v.1, v.2.1, co_up v.2.2.1 b.toNatClampNeg (v.2.2.1 b.toNatClampNeg + nu_of (fld v.2.1 a)), v.2.2.2.1, v.2.2.2.2)
  else if p = 3 then (v.1, v.2.1, v.2.2.1, kt_grow (fld v.2.1 a) b v.2.2.2.1, v.2.2.2.2)
  else if p = 4 then ((fl_cat sp ((fl_fill v.2.1 a.toNatClampNeg).set (a.toNatClampNeg - 1) (fld v.2.1 b))).take 120, (fl_fill v.2.1 a.toNatClampNeg).set (a.toNatClampNeg - 1) (fld v.2.1 b), v.2.2)
  else if p = 5 then ((fl_cat sp ((fl_fill v.2.1 a.toNatClampNeg).set (a.toNatClampNeg - 1) (nm_of (v.2.2.1 b.toNatClampNeg)))).take 120, (fl_fill v.2.1 a.toNatClampNeg).set (a.toNatClampNeg - 1) (nm_of (v.2.2.1 b.toNatClampNeg)), v.2.2)
  else if p = 6 then ((rp_go (ps_rel (sx a.toNatClampNeg)) v.1 (tx b.toNatClampNeg) 1 0 (fd_of (ps_rel (sx a.toNatClampNeg)) v.1 0) []).take 120, fl_cut ((rp_go (ps_rel (sx a.toNatClampNeg)) v.1 (tx b.toNatClampNeg) 1 0 (fd_of (ps_rel (sx a.toNatClampNeg)) v.1 0) []).take 120) sp, v.2.2)
  else if p = 7 then ((rp_go (ps_rel (sx a.toNatClampNeg)) v.1 (tx b.toNatClampNeg) 121 0 (fd_of (ps_rel (sx a.toNatClampNeg)) v.1 0) []).take 120, fl_cut ((rp_go (ps_rel (sx a.toNatClampNeg)) v.1 (tx b.toNatClampNeg) 121 0 (fd_of (ps_rel (sx a.toNatClampNeg)) v.1 0) []).take 120) sp, v.2.2)
  else if p = 8 then (v.1, v.2.1, v.2.2.1, v.2.2.2.1, v.2.2.2.2 ++ pm_of (ps_rel (sx a.toNatClampNeg)) v.1)
  else if p = 9 then (v.1, v.2.1, v.2.2.1, v.2.2.2.1, v.2.2.2.2 ++ nm_of (v.2.2.1 a.toNatClampNeg) ++ [10])
  else if p = 11 then (v.1, v.2.1, co_up v.2.2.1 a.toNatClampNeg b, v.2.2.2.1, v.2.2.2.2)
  else if p = 12 then (v.1, v.2.1, co_up v.2.2.1 a.toNatClampNeg (nI lc), v.2.2.2.1, v.2.2.2.2)
  else v
def ln_is (t : Wt) (r : Wr) (i : Wi) (b : Nat) (v : LnS) : Prop := lp_cut i b v.1 v.2.1 ∧ lp_cnt i b v.2.2.1 ∧ lp_tab t r i b v.2.2.2.1 ∧ ou_is i (b + 93) (b + 94) v.2.2.2.2
/-- the cells that an action may change -/
def da_S (b nx : Nat) : List Nat := cu_fp (b + 21) (lr_P b) (lr_R b) ++ [b + 89, b + 90, b + 92, b + 93, b + 94, b + 95, b + 96, nx, nx + 1]
section
variable {l : Launch} {E : We} {n0 d nx : Nat} {t : Wt} {r : Wr} {i i' : Wi} {g : Wl} {b : Nat} {pm : Nat → Nat} {S : List Nat}
theorem ex_le {a p e : Nat} {X : Rel} {w : List Int32} (hX : ex_is t r i g a X) (hw : sg_ok w) (hl : w.length ≤ 120) (hp : p ≤ w.length) (he : e ≤ w.length) (h : X w p e) : p ≤ e := by
  obtain ⟨tk, fo, fi, la, me, m, -, -, -, hX⟩ := hX
  rcases (hX w hw hl p e hp he).mpr h with ⟨z, -⟩ | ⟨k, q, z, -⟩ <;> omega
theorem c_LR_printMatch {X : Rel} {e : Nat} {W : List Int32} {F : List (List Int32)} {out : List Int32} (hA : lr_at t r b pm) (tE : t e = some (.inl 2)) (hX : ex_is t r i g e X) (hC : lp_cut i b W F) (hO : ou_is i (b + 93) (b + 94) out) (hl : out.length < 1999999000) : Ct l E n0 mt_LR_printMatch (d + 3) 0 0 [.ref (b + 0), .ref e] nx t r i g (qV nx t r g (fun i' => ou_is i' (b + 93) (b + 94) (out ++ pm_of X W) ∧ fr_is [b + 93, b + 94] i i')) := by
  have t0 := hA.1.1
  have r5 : r (b + 0) 5 = some (b + 21) := hA.2.1 (0, 5, 21) (by decide +kernel)
  have r8 : r (b + 0) 8 = some (b + 93) := hA.2.1 (0, 8, 93) (by decide +kernel)
  have hou := lr_out hA
  have tO := hou.1
  obtain ⟨tC, rC, -⟩ := lr_cut hA
  have hW := hC.1.2.2.1
  have hWr := (lr_cut hA).2.2.2.2.2.2.2.1 30 (by omega)
  have hsg := s1_ok hC.2.1
  refine Ct.of (by decide) (Nat.le_of_ble_eq_true rfl) ?_
  refine wf_aload_n dc_LR_printMatch_0 rfl ?_
  refine wf_aload_n dc_LR_printMatch_1 rfl ?_
  refine wf_getr dc_LR_printMatch_2 fl_LR_44 rfl (by assumption) (by assumption) ?_
  refine wf_getr dc_LR_printMatch_5 fl_LR_192 rfl (by assumption) (by assumption) ?_
  refine wf_iconst 0 dc_LR_printMatch_8 (by decide) ?_
  refine wf_iv2 (M' := mt_Exp_firstFrom) (c := 2) dc_LR_printMatch_9 tg_Exp_firstFrom ml_LR_180 im_Exp_firstFrom se_Exp_firstFrom ⟨_, rfl, rfl⟩ (by assumption) (Nat.le_of_ble_eq_true rfl) (Nat.le_refl _) (Nat.le_refl _) (k_Exp_firstFrom (b := 0) hX hWr hW.1 hW.2 hsg (by omega)) qI_nt (qI_go (fun x2 i2 hp => ?_))
  obtain ⟨rfl, hq⟩ := hp
  subst i2
  refine wf_istore_n dc_LR_printMatch_12 (by decide) ?_
  refine wf_iload_n dc_LR_printMatch_13 rfl ?_
  refine wf_iconst (-1) dc_LR_printMatch_14 (by decide) ?_
  unfold pm_of
  cases hfd : fd_of X W 0 with
  | none =>
    refine wf_icmp_eq 45 dc_LR_printMatch_15 (by decide) (fun hc => ?_) (fun hc => absurd rfl hc)
    exact wf_return rfl dc_LR_printMatch_45 ⟨rfl, rfl, rfl, rfl, rfl, by rw [List.append_nil]; exact hO, fr_rf⟩
  | some s =>
    obtain ⟨z1, z2, e2, z3⟩ := fd_some hfd
    have he := mx_of_some z3
    refine wf_icmp_eq 45 dc_LR_printMatch_15 (by decide) (fun hc => absurd hc.symm (mx_m1 (by have := hW.2; omega))) (fun hc => ?_)
    have hse : s ≤ e2 := ex_le hX hsg hW.2 z2 he.1 he.2.1
    simp only [z3]
    refine wf_aload_n dc_LR_printMatch_18 rfl ?_
    refine wf_getr dc_LR_printMatch_19 fl_LR_62 rfl (by assumption) (by assumption) ?_
    refine wf_aload_n dc_LR_printMatch_22 rfl ?_
    refine wf_getr dc_LR_printMatch_23 fl_LR_44 rfl (by assumption) (by assumption) ?_
    refine wf_getr dc_LR_printMatch_26 fl_LR_192 rfl (by assumption) (by assumption) ?_
    refine wf_iload_n dc_LR_printMatch_29 rfl ?_
    refine wf_aload_n dc_LR_printMatch_30 rfl ?_
    refine wf_aload_n dc_LR_printMatch_31 rfl ?_
    refine wf_getr dc_LR_printMatch_32 fl_LR_44 rfl (by assumption) (by assumption) ?_
    refine wf_getr dc_LR_printMatch_35 fl_LR_192 rfl (by assumption) (by assumption) ?_
    refine wf_iload_n dc_LR_printMatch_38 rfl ?_
    refine wf_iv2 (M' := mt_Exp_longestFrom) (c := 2) dc_LR_printMatch_39 tg_Exp_longestFrom ml_LR_184 im_Exp_longestFrom se_Exp_longestFrom ⟨_, rfl, rfl⟩ (by assumption) (Nat.le_of_ble_eq_true rfl) (Nat.le_refl _) (Nat.le_refl _) (k_Exp_longestFrom (b := s) hX hWr hW.1 hW.2 hsg z2) qI_nt (qI_go (fun x2 i2 hp => ?_))
    obtain ⟨rfl, hq⟩ := hp
    subst i2
    rw [z3]
    refine wf_iv3 (M' := mt_Out_printPart) (c := 3) dc_LR_printMatch_42 tg_Out_printPart ml_LR_290 im_Out_printPart se_Out_printPart ⟨_, rfl, rfl⟩ (by assumption) (Nat.le_of_ble_eq_true rfl) (Nat.le_refl _) (Nat.le_refl _) (c_Out_printPart (lo := s) (hi := e2) hou hO hl hWr hW.1 hW.2 ⟨by show b + 22 + 1 ≠ b + 94; omega, by show b + 22 + 1 ≠ b + 93; omega, by show b + 22 ≠ b + 94; omega, by show b + 22 ≠ b + 93; omega⟩ hse he.1) qV_nt (qV_go (fun i2 hp => ?_))
    obtain ⟨h1, h2⟩ := hp
    exact wf_return rfl dc_LR_printMatch_45 ⟨rfl, rfl, rfl, rfl, rfl, by rw [← List.append_assoc]; exact h1, h2⟩
/-- the contract's end, where nothing is made -/
theorem da_no {lo hi : Nat} (h : hi < 21 ∨ 96 < lo) (hn : b + 222 ≤ nx) (hh : hi < 193) : cl_no b lo hi (da_S b nx) := fun z hz => by
  unfold da_S at hz
  rcases List.mem_append.mp hz with hz | hz
  · have := cu_fp_in hz
    omega
  · simp only [List.mem_cons, List.not_mem_nil, or_false] at hz
    omega
def da_q (nx : Nat) (t : Wt) (r : Wr) (i : Wi) (g : Wl) (b : Nat) (v : LnS) : Wq := fun o nx' t' r' i' g' => o = .inl none ∧ nx ≤ nx' ∧ nx' ≤ nx + 2 ∧ xt_ok [b + 91] t r t' r' ∧ g' = g ∧ ln_is t' r' i' b v ∧ fr_is (da_S b nx) i i'
theorem c_LR_doAction {sx tx : Nat → List Int32} {sp : Int32} {lc : Nat} {p a c : Int32} {v : LnS} (hA : lr_at t r b pm) (hX : lp_exp t r i g b pm sx) (hT : lp_txt i b tx) (hL : lp_lin i b lc) (hS : lp_sep i b sp) (hI : ln_is t r i b v) (ho : ac_ok p a c = true) (hl : v.2.2.2.2.length < 1999998000) (hn : b + 222 ≤ nx) (hlt : ∀ z y, t z = some y → z < nx) : Ct l E n0 mt_LR_doAction (d + 5) 2 122 [.ref (b + 0), .int p, .int a, .int c] nx t r i g (da_q nx t r i g b (da_of sx tx sp lc p a c v)) := by
  have t0 := hA.1.1
  have t3 := hA.1.2 3 (3, .inr (3, 6)) (by decide +kernel)
  have t4 := hA.1.2 4 (4, .inr (4, 6)) (by decide +kernel)
  have t89 := hA.1.2 89 (89, .inr (0, 8)) (by decide +kernel)
  have r1 : r (b + 0) 1 = some (b + 3) := hA.2.1 (0, 1, 3) (by decide +kernel)
  have r2 : r (b + 0) 2 = some (b + 4) := hA.2.1 (0, 2, 4) (by decide +kernel)
  have r5 : r (b + 0) 5 = some (b + 21) := hA.2.1 (0, 5, 21) (by decide +kernel)
  have r6 : r (b + 0) 6 = some (b + 89) := hA.2.1 (0, 6, 89) (by decide +kernel)
  have r7 : r (b + 0) 7 = some (b + 90) := hA.2.1 (0, 7, 90) (by decide +kernel)
  have r8 : r (b + 0) 8 = some (b + 93) := hA.2.1 (0, 8, 93) (by decide +kernel)
  have r9 : r (b + 0) 9 = some (b + 95) := hA.2.1 (0, 9, 95) (by decide +kernel)
  have hou := lr_out hA
  have tO := hou.1
  have hcu := lr_cut hA
  have hcu' := hcu
  obtain ⟨tC, rC, -⟩ := hcu'
  have hnu := lr_num hA
  have tN := hnu.1
  have htb := lr_tab hA
  have tT := htb.1
  obtain ⟨W, F, co, K, out⟩ := v
  obtain ⟨hC, hN, hK, hO⟩ := hI
  simp only at hC hN hK hO hl
  have hW := hC.1.2.2.1
  have hWr := (lr_cut hA).2.2.2.2.2.2.2.1 30 (by omega)
  have hsg := s1_ok hC.2.1
  have hF30 := hC.1.2.1
  have hsF : sF F := sF_of hC.2.2
  refine Ct.of (by decide) (Nat.le_of_ble_eq_true rfl) ?_
  /- where the output alone has changed -/
  have outE : ∀ (i1 : Wi) (o2 : List Int32) (L : List (Nat × Value)), ou_is i1 (b + 93) (b + 94) o2 → fr_is [b + 93, b + 94, b + 95, b + 96] i i1 → da_of sx tx sp lc p a c (W, F, co, K, out) = (W, F, co, K, o2) → Wf l E n0 mt_LR_doAction (d + 5) 2 122 (da_q nx t r i g b (da_of sx tx sp lc p a c (W, F, co, K, out))) 2 122 332 L [] nx t r i1 g := by
    intro i1 o2 L h1 h2 h3
    have no : ∀ lo hi, hi < 93 → cl_no b lo hi [b + 93, b + 94, b + 95, b + 96] := fun lo hi h z hz => by
      simp only [List.mem_cons, List.not_mem_nil, or_false] at hz
      omega
    refine wf_return rfl dc_LR_doAction_332 ⟨rfl, Nat.le_refl _, by omega, xt_rf, rfl, ?_, fr_mo h2 (by simp [da_S])⟩
    rw [h3]
    exact ⟨hC.fr h2 (no 21 88 (by omega)), hN.fr h2 (no 89 89 (by omega)), hK.fr h2 (no 90 92 (by omega)) (fun z hz => by simp only [List.mem_cons, List.not_mem_nil, or_false] at hz; omega), h1⟩
  /- where the line has changed, and the number's row -/
  have cutE : ∀ (i1 : Wi) (W2 : List Int32) (F2 : List (List Int32)) (L : List (Nat × Value)), lp_cut i1 b W2 F2 → fr_is (cu_fp (b + 21) (lr_P b) (lr_R b) ++ [b + 95, b + 96]) i i1 → da_of sx tx sp lc p a c (W, F, co, K, out) = (W2, F2, co, K, out) → Wf l E n0 mt_LR_doAction (d + 5) 2 122 (da_q nx t r i g b (da_of sx tx sp lc p a c (W, F, co, K, out))) 2 122 332 L [] nx t r i1 g := by
    intro i1 W2 F2 L h1 h2 h3
    have no : ∀ lo hi, 88 < lo → hi < 95 → cl_no b lo hi (cu_fp (b + 21) (lr_P b) (lr_R b) ++ [b + 95, b + 96]) := fun lo hi h h' z hz => by
      rcases List.mem_append.mp hz with hz | hz
      · have := cu_fp_in hz
        omega
      · simp only [List.mem_cons, List.not_mem_nil, or_false] at hz
        omega
    refine wf_return rfl dc_LR_doAction_332 ⟨rfl, Nat.le_refl _, by omega, xt_rf, rfl, ?_, fr_mo h2 ?_⟩
    · rw [h3]
      refine ⟨h1, hN.fr h2 (no 89 89 (by omega) (by omega)), hK.fr h2 (no 90 92 (by omega) (by omega)) (fun z hz => ?_), hO.fr h2 ((no 93 94 (by omega) (by omega)).at (by omega) (by omega)) ((no 93 94 (by omega) (by omega)).at (by omega) (by omega))⟩
      rcases List.mem_append.mp hz with hz | hz
      · have := cu_fp_in hz
        omega
      · simp only [List.mem_cons, List.not_mem_nil, or_false] at hz
        omega
    · intro z hz
      unfold da_S
      rcases List.mem_append.mp hz with hz | hz
      · exact List.mem_append.mpr (.inl hz)
      · refine List.mem_append.mpr (.inr ?_)
        simp only [List.mem_cons, List.not_mem_nil, or_false] at hz ⊢
        omega
  /- where one counter has changed -/
  have cntE : ∀ (k : Nat) (x : Int32) (L : List (Nat × Value)), k < 8 → da_of sx tx sp lc p a c (W, F, co, K, out) = (W, F, co_up co k x, K, out) → Wf l E n0 mt_LR_doAction (d + 5) 2 122 (da_q nx t r i g b (da_of sx tx sp lc p a c (W, F, co, K, out))) 2 122 332 L [] nx t r (wf_up i (b + 89) k x) g := by
    intro k x L hk h3
    have h2 : fr_is [b + 89] i (wf_up i (b + 89) k x) := fr_up fr_rf (by simp)
    have no : ∀ lo hi, (hi < 89 ∨ 89 < lo) → cl_no b lo hi [b + 89] := fun lo hi h z hz => by
      simp only [List.mem_cons, List.not_mem_nil, or_false] at hz
      omega
    refine wf_return rfl dc_LR_doAction_332 ⟨rfl, Nat.le_refl _, by omega, xt_rf, rfl, ?_, fr_mo h2 (by simp [da_S])⟩
    rw [h3]
    refine ⟨hC.fr h2 (no 21 88 (by omega)), fun j hj => ?_, hK.fr h2 (no 90 92 (by omega)) (fun z hz => by simp only [List.mem_cons, List.not_mem_nil, or_false] at hz; omega), hO.fr h2 (by simp) (by simp)⟩
    show _ = co_up co k x j
    unfold co_up
    by_cases hjk : j = k
    · rw [if_pos hjk, hjk, wf_up_s]
    · rw [if_neg hjk, wf_up_k hjk]
      exact hN j hj
  have hd : ∀ k, k < 33 → lr_R b k ≠ b + 94 ∧ lr_R b k ≠ b + 93 ∧ lr_P b k ≠ b + 94 ∧ lr_P b k ≠ b + 93 := fun k hk => by
    obtain ⟨o, o1, o2, o3, o4⟩ := lr_P_r (b := b) k hk
    omega
  have hd2 : ∀ k, k < 33 → b + 95 ≠ lr_P b k ∧ b + 96 ≠ lr_R b k := fun k hk => by
    obtain ⟨o, o1, o2, o3, o4⟩ := lr_P_r (b := b) k hk
    omega
  have hix : ∀ f, (if 1 ≤ f ∧ f ≤ F.length then f - 1 else 32) < 33 := fun f => by
    split <;> omega
  refine wf_iload_n dc_LR_doAction_0 rfl ?_
  have pc : ∃ j, j ≤ 12 ∧ p = nI j := by
    rcases tw_in (x := p) (n := 12) (by omega) with h | h
    · exfalso
      have ne : ∀ j : Nat, j ≤ 12 → ¬ p = nI j := fun j hj z => by rw [z, nI_toInt (by omega)] at h; omega
      have n0 : ¬ p = 0 := ne 0 (by omega)
      have n1 : ¬ p = 1 := ne 1 (by omega)
      have n2 : ¬ p = 2 := ne 2 (by omega)
      have n3 : ¬ p = 3 := ne 3 (by omega)
      have n4 : ¬ p = 4 := ne 4 (by omega)
      have n5 : ¬ p = 5 := ne 5 (by omega)
      have n6 : ¬ p = 6 := ne 6 (by omega)
      have n7 : ¬ p = 7 := ne 7 (by omega)
      have n8 : ¬ p = 8 := ne 8 (by omega)
      have n9 : ¬ p = 9 := ne 9 (by omega)
      have n10 : ¬ p = 10 := ne 10 (by omega)
      have n11 : ¬ p = 11 := ne 11 (by omega)
      have n12 : ¬ p = 12 := ne 12 (by omega)
      rw [ac_ok, if_neg (fun z => z.elim n0 n10), if_neg (fun z => z.elim n1 n3), if_neg (fun z => z.elim n2 n5), if_neg n4, if_neg (fun z => z.elim n6 n7), if_neg n8, if_neg (fun z => z.elim n9 (fun z => z.elim n11 n12))] at ho
      cases ho
    · exact h
  obtain ⟨j, hj, rfl⟩ := pc
  have hc : j = 0 ∨ j = 1 ∨ j = 2 ∨ j = 3 ∨ j = 4 ∨ j = 5 ∨ j = 6 ∨ j = 7 ∨ j = 8 ∨ j = 9 ∨ j = 10 ∨ j = 11 ∨ j = 12 := by omega
  rcases hc with z | z | z | z | z | z | z | z | z | z | z | z | z <;> subst z
  · refine wf_tableIn (off := 67) 68 dc_LR_doAction_1 (by decide) (by decide) rfl (by decide) ?_
    refine wf_aload_n dc_LR_doAction_68 rfl ?_
    refine wf_getr dc_LR_doAction_69 fl_LR_62 rfl (by assumption) (by assumption) ?_
    refine wf_aload_n dc_LR_doAction_72 rfl ?_
    refine wf_getr dc_LR_doAction_73 fl_LR_44 rfl (by assumption) (by assumption) ?_
    refine wf_getr dc_LR_doAction_76 fl_LR_192 rfl (by assumption) (by assumption) ?_
    refine wf_iv1 (M' := mt_Out_print) (c := 3) dc_LR_doAction_79 tg_Out_print ml_LR_266 im_Out_print se_Out_print ⟨_, rfl, rfl⟩ (by assumption) (Nat.le_of_ble_eq_true rfl) (Nat.le_refl _) (Nat.le_refl _) (c_Out_print hou hO (by omega) hWr hW.1 hW.2 (hd 30 (by omega))) qV_nt (qV_go (fun i2 hp => ?_))
    refine wf_goto 332 dc_LR_doAction_82 (by decide) ?_
    exact outE _ _ _ hp.1 (fr_mo hp.2 (by simp)) rfl
  · refine wf_tableIn (off := 84) 85 dc_LR_doAction_1 (by decide) (by decide) rfl (by decide) ?_
    obtain ⟨a', ha1, ha30, rfl⟩ := bw_n (lo := 1) (hi := 30) ho
    obtain ⟨n, k1, k2, k3, k4⟩ := fld_row (f := a') hA hC (by omega)
    refine wf_aload_n dc_LR_doAction_85 rfl ?_
    refine wf_getr dc_LR_doAction_86 fl_LR_62 rfl (by assumption) (by assumption) ?_
    refine wf_aload_n dc_LR_doAction_89 rfl ?_
    refine wf_getr dc_LR_doAction_90 fl_LR_44 rfl (by assumption) (by assumption) ?_
    refine wf_iload_n dc_LR_doAction_93 rfl ?_
    refine wf_iv1 (M' := mt_Cut_fieldText) (c := 1) dc_LR_doAction_94 tg_Cut_fieldText ml_LR_195 im_Cut_fieldText se_Cut_fieldText ⟨_, rfl, rfl⟩ (by assumption) (Nat.le_of_ble_eq_true rfl) (Nat.le_refl _) (Nat.le_refl _) (c_Cut_fieldText hcu hC.1 (by omega)) qR_nt (qR_go (fun x2 i2 hp => ?_))
    obtain ⟨rfl, hq⟩ := hp
    subst i2
    refine wf_iv1 (M' := mt_Out_print) (c := 3) dc_LR_doAction_97 tg_Out_print ml_LR_266 im_Out_print se_Out_print ⟨_, rfl, rfl⟩ (by assumption) (Nat.le_of_ble_eq_true rfl) (Nat.le_refl _) (Nat.le_refl _) (c_Out_print hou hO (by omega) k1 k2 k3 (hd _ (hix a'))) qV_nt (qV_go (fun i2 hp => ?_))
    refine wf_goto 332 dc_LR_doAction_100 (by decide) ?_
    exact outE _ _ _ hp.1 (fr_mo hp.2 (by simp)) rfl
  · refine wf_tableIn (off := 102) 103 dc_LR_doAction_1 (by decide) (by decide) rfl (by decide) ?_
    have ho2 : (bw a 1 30 && bw c 0 7) = true := ho
    rw [Bool.and_eq_true] at ho2
    obtain ⟨a', ha1, ha30, rfl⟩ := bw_n (lo := 1) (hi := 30) ho2.1
    obtain ⟨c', -, hc7, rfl⟩ := bw_n (lo := 0) (hi := 7) ho2.2
    have hcl : (nI c').toNatClampNeg = c' := nI_clamp (by omega)
    obtain ⟨n, k1, k2, k3, k4⟩ := fld_row (f := a') hA hC (by omega)
    have k1' := k1.1
    refine wf_aload_n dc_LR_doAction_103 rfl ?_
    refine wf_getr dc_LR_doAction_104 fl_LR_48 rfl (by assumption) (by assumption) ?_
    refine wf_iload_n dc_LR_doAction_107 rfl ?_
    refine wf_dup2 dc_LR_doAction_108 rfl rfl ?_
    refine wf_iaload (y := 0) dc_LR_doAction_109 rfl (by assumption) (vp_in_nI (by omega) (by omega)) ?_
    rw [hcl, hN c' (by omega)]
    refine wf_aload_n dc_LR_doAction_110 rfl ?_
    refine wf_getr dc_LR_doAction_111 fl_LR_44 rfl (by assumption) (by assumption) ?_
    refine wf_iload_n dc_LR_doAction_114 rfl ?_
    refine wf_iv1 (M' := mt_Cut_fieldText) (c := 1) dc_LR_doAction_115 tg_Cut_fieldText ml_LR_195 im_Cut_fieldText se_Cut_fieldText ⟨_, rfl, rfl⟩ (by assumption) (Nat.le_of_ble_eq_true rfl) (Nat.le_refl _) (Nat.le_refl _) (c_Cut_fieldText hcu hC.1 (by omega)) qR_nt (qR_go (fun x2 i2 hp => ?_))
    obtain ⟨rfl, hq⟩ := hp
    subst i2
    refine wf_iv0 (M' := mt_Row_toNumber) (c := 5) dc_LR_doAction_118 tg_Row_toNumber ml_LR_248 im_Row_toNumber se_Row_toNumber ⟨_, rfl, rfl⟩ (by assumption) (Nat.le_of_ble_eq_true rfl) (Nat.le_refl _) (Nat.le_refl _) (c_Row_toNumber k1 k2 k3) qI_nt (qI_go (fun x2 i2 hp => ?_))
    obtain ⟨rfl, hq⟩ := hp
    subst i2
    refine wf_iadd dc_LR_doAction_121 ?_
    refine wf_iastore (y := 0) dc_LR_doAction_122 rfl (by decide) (by assumption) (vp_in_nI (by omega) (by omega)) ?_
    rw [hcl]
    refine wf_goto 332 dc_LR_doAction_123 (by decide) ?_
    exact cntE c' _ _ (by omega) (by show (_, _, co_up co (nI c').toNatClampNeg _, _, _) = _; simp only [hcl])
  · refine wf_tableIn (off := 125) 126 dc_LR_doAction_1 (by decide) (by decide) rfl (by decide) ?_
    obtain ⟨a', ha1, ha30, rfl⟩ := bw_n (lo := 1) (hi := 30) ho
    obtain ⟨n, k1, k2, k3, k4⟩ := fld_row (f := a') hA hC (by omega)
    have hix' := hix a'
    revert k1 k2 hix'
    generalize hidx : (if 1 ≤ a' ∧ a' ≤ F.length then a' - 1 else 32) = ix
    intro k1 k2 hix'
    have hsi : lr_R b ix ≠ b + 92 := by
      obtain ⟨o, o1, o2, o3, o4⟩ := lr_P_r (b := b) ix hix'
      omega
    refine wf_aload_n dc_LR_doAction_126 rfl ?_
    refine wf_getr dc_LR_doAction_127 fl_LR_55 rfl (by assumption) (by assumption) ?_
    refine wf_aload_n dc_LR_doAction_130 rfl ?_
    refine wf_getr dc_LR_doAction_131 fl_LR_44 rfl (by assumption) (by assumption) ?_
    refine wf_iload_n dc_LR_doAction_134 rfl ?_
    refine wf_iv1 (M' := mt_Cut_fieldText) (c := 1) dc_LR_doAction_135 tg_Cut_fieldText ml_LR_195 im_Cut_fieldText se_Cut_fieldText ⟨_, rfl, rfl⟩ (by assumption) (Nat.le_of_ble_eq_true rfl) (Nat.le_refl _) (Nat.le_refl _) (c_Cut_fieldText hcu hC.1 (by omega)) qR_nt (qR_go (fun x2 i2 hp => ?_))
    obtain ⟨rfl, hq⟩ := hp
    subst i2
    rw [hidx]
    refine wf_iload_n dc_LR_doAction_138 rfl ?_
    refine wf_iv2 (M' := mt_Tab_grow) (c := 7) (bk' := 0) (bn' := 0) dc_LR_doAction_139 tg_Tab_grow ml_LR_269 im_Tab_grow se_Tab_grow ⟨_, rfl, rfl⟩ (by assumption) (Nat.le_of_ble_eq_true rfl) (by omega) (by omega) (c_Tab_grow (b0 := b + 222) htb hK.1 k1 k2 k3 hsi hn hlt (by omega) (by omega) (by omega)) (by rintro X a1 a2 a3 a4 a5 ⟨q, -⟩; cases q) ?_
    rintro vo nx2 t2 r2 i2 g2 ⟨hvo, q1, q2, q3, q4, q5, q6⟩
    cases hvo
    subst q4
    refine wf_goto 332 dc_LR_doAction_142 (by decide) ?_
    have no : ∀ lo hi, (hi < 90 ∨ 92 < lo) → hi < 193 → cl_no b lo hi [b + 90, b + 92, nx, nx + 1] := fun lo hi h h' z hz => by
      simp only [List.mem_cons, List.not_mem_nil, or_false] at hz
      omega
    exact wf_return rfl dc_LR_doAction_332 ⟨rfl, q1, q2, q3, rfl, ⟨hC.fr q6 (no 21 88 (by omega) (by omega)), hN.fr q6 (no 89 89 (by omega) (by omega)), ⟨q5, sK_d (sK_grow (sK_of hK.2) k4)⟩, hO.fr q6 ((no 93 94 (by omega) (by omega)).at (by omega) (by omega)) ((no 93 94 (by omega) (by omega)).at (by omega) (by omega))⟩, fr_mo q6 (by simp [da_S])⟩
  · refine wf_tableIn (off := 144) 145 dc_LR_doAction_1 (by decide) (by decide) rfl (by decide) ?_
    have ho2 : (bw a 1 30 && bw c 1 30) = true := ho
    rw [Bool.and_eq_true] at ho2
    obtain ⟨a', ha1, ha30, rfl⟩ := bw_n (lo := 1) (hi := 30) ho2.1
    obtain ⟨c', hc1, hc30, rfl⟩ := bw_n (lo := 1) (hi := 30) ho2.2
    obtain ⟨n, k1, k2, k3, k4⟩ := fld_row (f := c') hA hC (by omega)
    refine wf_aload_n dc_LR_doAction_145 rfl ?_
    refine wf_getr dc_LR_doAction_146 fl_LR_44 rfl (by assumption) (by assumption) ?_
    refine wf_iload_n dc_LR_doAction_149 rfl ?_
    refine wf_aload_n dc_LR_doAction_150 rfl ?_
    refine wf_getr dc_LR_doAction_151 fl_LR_44 rfl (by assumption) (by assumption) ?_
    refine wf_iload_n dc_LR_doAction_154 rfl ?_
    refine wf_iv1 (M' := mt_Cut_fieldText) (c := 1) dc_LR_doAction_155 tg_Cut_fieldText ml_LR_195 im_Cut_fieldText se_Cut_fieldText ⟨_, rfl, rfl⟩ (by assumption) (Nat.le_of_ble_eq_true rfl) (Nat.le_refl _) (Nat.le_refl _) (c_Cut_fieldText hcu hC.1 (by omega)) qR_nt (qR_go (fun x2 i2 hp => ?_))
    obtain ⟨rfl, hq⟩ := hp
    subst i2
    refine wf_aload_n dc_LR_doAction_158 rfl ?_
    refine wf_geti dc_LR_doAction_159 fl_LR_69 rfl (by assumption) ?_
    rw [hS.1]
    have hcl : (nI a').toNatClampNeg = a' := nI_clamp (by omega)
    refine wf_iv3 (M' := mt_Cut_setField) (c := 1) dc_LR_doAction_162 tg_Cut_setField ml_LR_272 im_Cut_setField se_Cut_setField ⟨_, rfl, rfl⟩ (by assumption) (Nat.le_of_ble_eq_true rfl) (Nat.le_refl _) (Nat.le_refl _) (c_Cut_setField hcu hC.1 ha1 ha30 k1 k2 k3 (.inr ⟨if 1 ≤ c' ∧ c' ≤ F.length then c' - 1 else 32, by split <;> omega, rfl, rfl⟩)) qV_nt (qV_go (fun i2 hp => ?_))
    refine wf_goto 332 dc_LR_doAction_165 (by decide) ?_
    have s3 := sF_set (f := a') (k := a' - 1) hsF k4
    refine cutE _ _ _ _ ⟨hp.1, s1_of (by rw [List.length_take]; omega) (sA_take (sA_cat hS.2 s3) 120), sF_d s3⟩ (fr_mo hp.2 (fun z hz => List.mem_append.mpr (.inl hz))) ?_
    show ((fl_cat sp ((fl_fill F (nI a').toNatClampNeg).set ((nI a').toNatClampNeg - 1) (fld F (nI c')))).take 120, (fl_fill F (nI a').toNatClampNeg).set ((nI a').toNatClampNeg - 1) (fld F (nI c')), co, K, out) = _
    rw [hcl]
  · refine wf_tableIn (off := 167) 168 dc_LR_doAction_1 (by decide) (by decide) rfl (by decide) ?_
    have ho2 : (bw a 1 30 && bw c 0 7) = true := ho
    rw [Bool.and_eq_true] at ho2
    obtain ⟨a', ha1, ha30, rfl⟩ := bw_n (lo := 1) (hi := 30) ho2.1
    obtain ⟨c', -, hc7, rfl⟩ := bw_n (lo := 0) (hi := 7) ho2.2
    have hcl : (nI a').toNatClampNeg = a' := nI_clamp (by omega)
    have hcl2 : (nI c').toNatClampNeg = c' := nI_clamp (by omega)
    refine wf_aload_n dc_LR_doAction_168 rfl ?_
    refine wf_getr dc_LR_doAction_169 fl_LR_66 rfl (by assumption) (by assumption) ?_
    refine wf_aload_n dc_LR_doAction_172 rfl ?_
    refine wf_getr dc_LR_doAction_173 fl_LR_48 rfl (by assumption) (by assumption) ?_
    refine wf_iload_n dc_LR_doAction_176 rfl ?_
    refine wf_iaload (y := 0) dc_LR_doAction_177 rfl (by assumption) (vp_in_nI (by omega) (by omega)) ?_
    rw [hcl2, hN c' (by omega)]
    refine wf_iv1 (M' := mt_Row_becomeNumber) (c := 5) dc_LR_doAction_178 tg_Row_becomeNumber ml_LR_276 im_Row_becomeNumber se_Row_becomeNumber ⟨_, rfl, rfl⟩ (by assumption) (Nat.le_of_ble_eq_true rfl) (Nat.le_refl _) (Nat.le_refl _) (c_Row_becomeNumber hnu (by omega)) qV_nt (qV_go (fun i2 hp => ?_))
    obtain ⟨m1, m2⟩ := hp
    have hs2 : i2 (b + 0) 12 = sp := (m2 _ (by simp) 12).trans hS.1
    have hC2 : lp_cut i2 b W F := hC.fr m2 (fun z hz => by simp only [List.mem_cons, List.not_mem_nil, or_false] at hz; omega)
    refine wf_aload_n dc_LR_doAction_181 rfl ?_
    refine wf_getr dc_LR_doAction_182 fl_LR_44 rfl (by assumption) (by assumption) ?_
    refine wf_iload_n dc_LR_doAction_185 rfl ?_
    refine wf_aload_n dc_LR_doAction_186 rfl ?_
    refine wf_getr dc_LR_doAction_187 fl_LR_66 rfl (by assumption) (by assumption) ?_
    refine wf_aload_n dc_LR_doAction_190 rfl ?_
    refine wf_geti dc_LR_doAction_191 fl_LR_69 rfl (by assumption) ?_
    rw [hs2]
    refine wf_iv3 (M' := mt_Cut_setField) (c := 1) dc_LR_doAction_194 tg_Cut_setField ml_LR_272 im_Cut_setField se_Cut_setField ⟨_, rfl, rfl⟩ (by assumption) (Nat.le_of_ble_eq_true rfl) (Nat.le_refl _) (Nat.le_refl _) (c_Cut_setField hcu hC2.1 ha1 ha30 hnu m1 (s1_nm _).2 (.inl hd2)) qV_nt (qV_go (fun i2 hp => ?_))
    refine wf_goto 332 dc_LR_doAction_197 (by decide) ?_
    have s3 := sF_set (f := a') (k := a' - 1) hsF (s1_nm (co c')).1
    refine cutE _ _ _ _ ⟨hp.1, s1_of (by rw [List.length_take]; omega) (sA_take (sA_cat hS.2 s3) 120), sF_d s3⟩ (fr_mo (fr_tr m2 hp.2) (fun z hz => (List.mem_append.mp hz).elim (fun q => List.mem_append.mpr (.inr q)) (fun q => List.mem_append.mpr (.inl q)))) ?_
    show ((fl_cat sp ((fl_fill F (nI a').toNatClampNeg).set ((nI a').toNatClampNeg - 1) (nm_of (co (nI c').toNatClampNeg)))).take 120, (fl_fill F (nI a').toNatClampNeg).set ((nI a').toNatClampNeg - 1) (nm_of (co (nI c').toNatClampNeg)), co, K, out) = _
    rw [hcl, hcl2]
  · refine wf_tableIn (off := 199) 200 dc_LR_doAction_1 (by decide) (by decide) rfl (by decide) ?_
    have ho2 : (bw a 0 5 && bw c 0 5) = true := ho
    rw [Bool.and_eq_true] at ho2
    obtain ⟨a', -, ha5, rfl⟩ := bw_n (lo := 0) (hi := 5) ho2.1
    obtain ⟨c', -, hc5, rfl⟩ := bw_n (lo := 0) (hi := 5) ho2.2
    have hcl : (nI a').toNatClampNeg = a' := nI_clamp (by omega)
    have hcl2 : (nI c').toNatClampNeg = c' := nI_clamp (by omega)
    have hXa := (hX a' (by omega)).1
    have hTr := lr_txt hA (k := c') (by omega)
    have hTw := hT c' (by omega)
    have w3 : ∀ k, k < 6 → (3, k, 97 + 2 * k) ∈ lr_Wf := by decide +kernel
    refine wf_aload_n dc_LR_doAction_200 rfl ?_
    refine wf_getr dc_LR_doAction_201 fl_LR_44 rfl (by assumption) (by assumption) ?_
    refine wf_aload_n dc_LR_doAction_204 rfl ?_
    refine wf_getr dc_LR_doAction_205 fl_LR_24 rfl (by assumption) (by assumption) ?_
    refine wf_iload_n dc_LR_doAction_208 rfl ?_
    refine wf_aaload (y := 4) dc_LR_doAction_209 rfl rfl (by assumption) (vp_in_nI (by omega) (by omega)) (by rw [hcl]; exact hA.2.2.2.2.1 a' (by omega)) ?_
    refine wf_aload_n dc_LR_doAction_210 rfl ?_
    refine wf_getr dc_LR_doAction_211 fl_LR_18 rfl (by assumption) (by assumption) ?_
    refine wf_iload_n dc_LR_doAction_214 rfl ?_
    refine wf_aaload (y := 3) dc_LR_doAction_215 rfl rfl (by assumption) (vp_in_nI (by omega) (by omega)) (by rw [hcl2]; exact hA.2.1 _ (w3 c' (by omega))) ?_
    refine wf_iconst 1 dc_LR_doAction_216 (by decide) ?_
    refine wf_iv3 (M' := mt_Cut_replace) (c := 1) dc_LR_doAction_217 tg_Cut_replace ml_LR_279 im_Cut_replace se_Cut_replace ⟨_, rfl, rfl⟩ (by assumption) (Nat.le_of_ble_eq_true rfl) (Nat.le_refl _) (Nat.le_refl _) (c_Cut_replace hcu hC.1 hXa hsg (M := 1) (by omega) hTr hTw.1 hTw.2.1 ⟨by show b + (97 + 2 * c') ≠ b + 27; omega, by show b + (97 + 2 * c' + 1) ≠ b + 27 + 1; omega⟩) qV_nt (qV_go (fun i2 hp => ?_))
    obtain ⟨m1, m2⟩ := hp
    have hs2 : i2 (b + 0) 12 = sp := (m2 _ (fun z => by have := cu_fp_in z; omega) 12).trans hS.1
    refine wf_aload_n dc_LR_doAction_220 rfl ?_
    refine wf_getr dc_LR_doAction_221 fl_LR_44 rfl (by assumption) (by assumption) ?_
    refine wf_aload_n dc_LR_doAction_224 rfl ?_
    refine wf_geti dc_LR_doAction_225 fl_LR_69 rfl (by assumption) ?_
    rw [hs2]
    refine wf_iv1 (M' := mt_Cut_cut) (c := 1) dc_LR_doAction_228 tg_Cut_cut ml_LR_283 im_Cut_cut se_Cut_cut ⟨_, rfl, rfl⟩ (by assumption) (Nat.le_of_ble_eq_true rfl) (Nat.le_refl _) (Nat.le_refl _) (c_Cut_cut hcu m1) qV_nt (qV_go (fun i2 hp => ?_))
    refine wf_goto 332 dc_LR_doAction_231 (by decide) ?_
    have s2 : s1 ((rp_go (ps_rel (sx a')) W (tx c') 1 0 (fd_of (ps_rel (sx a')) W 0) []).take 120) := s1_of (by rw [List.length_take]; omega) (sA_take (sA_rp (s1_A hC.2.1) (s1_A hTw.2) _ _ _ _ sA_nil) 120)
    refine cutE _ _ _ _ ⟨hp.1, s2, sF_d (sF_cut s2)⟩ (fr_mo (fr_ss m2 hp.2) (fun z hz => List.mem_append.mpr (.inl hz))) ?_
    show ((rp_go (ps_rel (sx (nI a').toNatClampNeg)) W (tx (nI c').toNatClampNeg) 1 0 (fd_of (ps_rel (sx (nI a').toNatClampNeg)) W 0) []).take 120, fl_cut ((rp_go (ps_rel (sx (nI a').toNatClampNeg)) W (tx (nI c').toNatClampNeg) 1 0 (fd_of (ps_rel (sx (nI a').toNatClampNeg)) W 0) []).take 120) sp, co, K, out) = _
    rw [hcl, hcl2]
  · refine wf_tableIn (off := 233) 234 dc_LR_doAction_1 (by decide) (by decide) rfl (by decide) ?_
    have ho2 : (bw a 0 5 && bw c 0 5) = true := ho
    rw [Bool.and_eq_true] at ho2
    obtain ⟨a', -, ha5, rfl⟩ := bw_n (lo := 0) (hi := 5) ho2.1
    obtain ⟨c', -, hc5, rfl⟩ := bw_n (lo := 0) (hi := 5) ho2.2
    have hcl : (nI a').toNatClampNeg = a' := nI_clamp (by omega)
    have hcl2 : (nI c').toNatClampNeg = c' := nI_clamp (by omega)
    have hXa := (hX a' (by omega)).1
    have hTr := lr_txt hA (k := c') (by omega)
    have hTw := hT c' (by omega)
    have w3 : ∀ k, k < 6 → (3, k, 97 + 2 * k) ∈ lr_Wf := by decide +kernel
    refine wf_aload_n dc_LR_doAction_234 rfl ?_
    refine wf_getr dc_LR_doAction_235 fl_LR_44 rfl (by assumption) (by assumption) ?_
    refine wf_aload_n dc_LR_doAction_238 rfl ?_
    refine wf_getr dc_LR_doAction_239 fl_LR_24 rfl (by assumption) (by assumption) ?_
    refine wf_iload_n dc_LR_doAction_242 rfl ?_
    refine wf_aaload (y := 4) dc_LR_doAction_243 rfl rfl (by assumption) (vp_in_nI (by omega) (by omega)) (by rw [hcl]; exact hA.2.2.2.2.1 a' (by omega)) ?_
    refine wf_aload_n dc_LR_doAction_244 rfl ?_
    refine wf_getr dc_LR_doAction_245 fl_LR_18 rfl (by assumption) (by assumption) ?_
    refine wf_iload_n dc_LR_doAction_248 rfl ?_
    refine wf_aaload (y := 3) dc_LR_doAction_249 rfl rfl (by assumption) (vp_in_nI (by omega) (by omega)) (by rw [hcl2]; exact hA.2.1 _ (w3 c' (by omega))) ?_
    refine wf_bipush 121 dc_LR_doAction_250 (by decide) ?_
    refine wf_iv3 (M' := mt_Cut_replace) (c := 1) dc_LR_doAction_252 tg_Cut_replace ml_LR_279 im_Cut_replace se_Cut_replace ⟨_, rfl, rfl⟩ (by assumption) (Nat.le_of_ble_eq_true rfl) (Nat.le_refl _) (Nat.le_refl _) (c_Cut_replace hcu hC.1 hXa hsg (M := 121) (by omega) hTr hTw.1 hTw.2.1 ⟨by show b + (97 + 2 * c') ≠ b + 27; omega, by show b + (97 + 2 * c' + 1) ≠ b + 27 + 1; omega⟩) qV_nt (qV_go (fun i2 hp => ?_))
    obtain ⟨m1, m2⟩ := hp
    have hs2 : i2 (b + 0) 12 = sp := (m2 _ (fun z => by have := cu_fp_in z; omega) 12).trans hS.1
    refine wf_aload_n dc_LR_doAction_255 rfl ?_
    refine wf_getr dc_LR_doAction_256 fl_LR_44 rfl (by assumption) (by assumption) ?_
    refine wf_aload_n dc_LR_doAction_259 rfl ?_
    refine wf_geti dc_LR_doAction_260 fl_LR_69 rfl (by assumption) ?_
    rw [hs2]
    refine wf_iv1 (M' := mt_Cut_cut) (c := 1) dc_LR_doAction_263 tg_Cut_cut ml_LR_283 im_Cut_cut se_Cut_cut ⟨_, rfl, rfl⟩ (by assumption) (Nat.le_of_ble_eq_true rfl) (Nat.le_refl _) (Nat.le_refl _) (c_Cut_cut hcu m1) qV_nt (qV_go (fun i2 hp => ?_))
    refine wf_goto 332 dc_LR_doAction_266 (by decide) ?_
    have s2 : s1 ((rp_go (ps_rel (sx a')) W (tx c') 121 0 (fd_of (ps_rel (sx a')) W 0) []).take 120) := s1_of (by rw [List.length_take]; omega) (sA_take (sA_rp (s1_A hC.2.1) (s1_A hTw.2) _ _ _ _ sA_nil) 120)
    refine cutE _ _ _ _ ⟨hp.1, s2, sF_d (sF_cut s2)⟩ (fr_mo (fr_ss m2 hp.2) (fun z hz => List.mem_append.mpr (.inl hz))) ?_
    show ((rp_go (ps_rel (sx (nI a').toNatClampNeg)) W (tx (nI c').toNatClampNeg) 121 0 (fd_of (ps_rel (sx (nI a').toNatClampNeg)) W 0) []).take 120, fl_cut ((rp_go (ps_rel (sx (nI a').toNatClampNeg)) W (tx (nI c').toNatClampNeg) 121 0 (fd_of (ps_rel (sx (nI a').toNatClampNeg)) W 0) []).take 120) sp, co, K, out) = _
    rw [hcl, hcl2]
  · refine wf_tableIn (off := 268) 269 dc_LR_doAction_1 (by decide) (by decide) rfl (by decide) ?_
    obtain ⟨a', -, ha5, rfl⟩ := bw_n (lo := 0) (hi := 5) ho
    have hcl : (nI a').toNatClampNeg = a' := nI_clamp (by omega)
    have hXa := (hX a' (by omega)).1
    have tE := (lr_exp hA (hA.2.2.1 a' (by omega))).1
    refine wf_aload_n dc_LR_doAction_269 rfl ?_
    refine wf_aload_n dc_LR_doAction_270 rfl ?_
    refine wf_getr dc_LR_doAction_271 fl_LR_24 rfl (by assumption) (by assumption) ?_
    refine wf_iload_n dc_LR_doAction_274 rfl ?_
    refine wf_aaload (y := 4) dc_LR_doAction_275 rfl rfl (by assumption) (vp_in_nI (by omega) (by omega)) (by rw [hcl]; exact hA.2.2.2.2.1 a' (by omega)) ?_
    refine wf_iv1 (M' := mt_LR_printMatch) (c := 0) dc_LR_doAction_276 tg_LR_printMatch ml_LR_286 im_LR_printMatch se_LR_printMatch ⟨_, rfl, rfl⟩ (by assumption) (Nat.le_of_ble_eq_true rfl) (Nat.le_refl _) (Nat.le_refl _) (c_LR_printMatch hA tE hXa hC hO (by omega)) qV_nt (qV_go (fun i2 hp => ?_))
    refine wf_goto 332 dc_LR_doAction_279 (by decide) ?_
    refine outE _ _ _ hp.1 (fr_mo hp.2 (by simp)) ?_
    show (W, F, co, K, out ++ pm_of (ps_rel (sx (nI a').toNatClampNeg)) W) = _
    rw [hcl]
  · refine wf_tableIn (off := 281) 282 dc_LR_doAction_1 (by decide) (by decide) rfl (by decide) ?_
    obtain ⟨a', -, ha7, rfl⟩ := bw_n (lo := 0) (hi := 7) ho
    have hcl : (nI a').toNatClampNeg = a' := nI_clamp (by omega)
    refine wf_aload_n dc_LR_doAction_282 rfl ?_
    refine wf_getr dc_LR_doAction_283 fl_LR_66 rfl (by assumption) (by assumption) ?_
    refine wf_aload_n dc_LR_doAction_286 rfl ?_
    refine wf_getr dc_LR_doAction_287 fl_LR_48 rfl (by assumption) (by assumption) ?_
    refine wf_iload_n dc_LR_doAction_290 rfl ?_
    refine wf_iaload (y := 0) dc_LR_doAction_291 rfl (by assumption) (vp_in_nI (by omega) (by omega)) ?_
    rw [hcl, hN a' (by omega)]
    refine wf_iv1 (M' := mt_Row_becomeNumber) (c := 5) dc_LR_doAction_292 tg_Row_becomeNumber ml_LR_276 im_Row_becomeNumber se_Row_becomeNumber ⟨_, rfl, rfl⟩ (by assumption) (Nat.le_of_ble_eq_true rfl) (Nat.le_refl _) (Nat.le_refl _) (c_Row_becomeNumber hnu (by omega)) qV_nt (qV_go (fun i2 hp => ?_))
    obtain ⟨m1, m2⟩ := hp
    have hO2 : ou_is i2 (b + 93) (b + 94) out := hO.fr m2 (by simp) (by simp)
    refine wf_aload_n dc_LR_doAction_295 rfl ?_
    refine wf_getr dc_LR_doAction_296 fl_LR_62 rfl (by assumption) (by assumption) ?_
    refine wf_aload_n dc_LR_doAction_299 rfl ?_
    refine wf_getr dc_LR_doAction_300 fl_LR_66 rfl (by assumption) (by assumption) ?_
    refine wf_iv1 (M' := mt_Out_print) (c := 3) dc_LR_doAction_303 tg_Out_print ml_LR_266 im_Out_print se_Out_print ⟨_, rfl, rfl⟩ (by assumption) (Nat.le_of_ble_eq_true rfl) (Nat.le_refl _) (Nat.le_refl _) (c_Out_print hou hO2 (by omega) hnu m1 (s1_nm _).2 ⟨by omega, by omega, by omega, by omega⟩) qV_nt (qV_go (fun i2 hp => ?_))
    refine wf_goto 332 dc_LR_doAction_306 (by decide) ?_
    refine outE _ _ _ hp.1 (fr_mo (fr_tr m2 hp.2) (by simp)) ?_
    show (W, F, co, K, out ++ nm_of (co (nI a').toNatClampNeg) ++ [10]) = _
    rw [hcl]
  · refine wf_tableIn (off := 331) 332 dc_LR_doAction_1 (by decide) (by decide) rfl (by decide) ?_
    exact outE i out _ hO fr_rf rfl
  · refine wf_tableIn (off := 308) 309 dc_LR_doAction_1 (by decide) (by decide) rfl (by decide) ?_
    obtain ⟨a', -, ha7, rfl⟩ := bw_n (lo := 0) (hi := 7) ho
    have hcl : (nI a').toNatClampNeg = a' := nI_clamp (by omega)
    refine wf_aload_n dc_LR_doAction_309 rfl ?_
    refine wf_getr dc_LR_doAction_310 fl_LR_48 rfl (by assumption) (by assumption) ?_
    refine wf_iload_n dc_LR_doAction_313 rfl ?_
    refine wf_iload_n dc_LR_doAction_314 rfl ?_
    refine wf_iastore (y := 0) dc_LR_doAction_315 rfl (by decide) (by assumption) (vp_in_nI (by omega) (by omega)) ?_
    rw [hcl]
    refine wf_goto 332 dc_LR_doAction_316 (by decide) ?_
    exact cntE a' _ _ (by omega) (by show (_, _, co_up co (nI a').toNatClampNeg _, _, _) = _; simp only [hcl])
  · refine wf_tableIn (off := 318) 319 dc_LR_doAction_1 (by decide) (by decide) rfl (by decide) ?_
    obtain ⟨a', -, ha7, rfl⟩ := bw_n (lo := 0) (hi := 7) ho
    have hcl : (nI a').toNatClampNeg = a' := nI_clamp (by omega)
    have hL' : i (b + 0) 11 = nI lc := hL
    refine wf_aload_n dc_LR_doAction_319 rfl ?_
    refine wf_getr dc_LR_doAction_320 fl_LR_48 rfl (by assumption) (by assumption) ?_
    refine wf_iload_n dc_LR_doAction_323 rfl ?_
    refine wf_aload_n dc_LR_doAction_324 rfl ?_
    refine wf_geti dc_LR_doAction_325 fl_LR_168 rfl (by assumption) ?_
    rw [hL']
    refine wf_iastore (y := 0) dc_LR_doAction_328 rfl (by decide) (by assumption) (vp_in_nI (by omega) (by omega)) ?_
    rw [hcl]
    refine wf_goto 332 dc_LR_doAction_329 (by decide) ?_
    exact cntE a' _ _ (by omega) (by show (_, _, co_up co (nI a').toNatClampNeg _, _, _) = _; simp only [hcl])
end
