/-! the law: clear, forget, end, line -/
section
variable {l : Launch} {E : We} {n0 d nx mc ms bk bn bk' bn' : Nat} {t t' : Wt} {r r' : Wr} {i i' : Wi} {g g' : Wl} {b sc n j m : Nat} {Q : Wq} {M : Wm} {pc : Nat} {L : List (Nat × Value)} {st : List Value}
theorem Wf.le (h : Wf l E n0 M d mc ms Q bk' bn' pc L st nx t r i g) (hk : bk' ≤ bk) (hn : bn' ≤ bn) : Wf l E n0 M d mc ms Q bk bn pc L st nx t r i g := fun p e s m args below meth c C H locs cells slots ls h1 h2 h3 h4 h5 h6 => h p e s m args below meth c C H locs cells slots ls (by omega) (by omega) h3 h4 h5 h6
theorem lw_st.up {j' : Nat} (h : lw_st t r i g nx b sc n j) (hj : j ≤ j') : lw_st t r i g nx b sc n j' := by
  obtain ⟨pm, sx, tx, w, sp, ru, v, lc, fe, hc, hm, tS, hsc, tO, hnx, b1, b2, b3⟩ := h
  exact ⟨pm, sx, tx, w, sp, ru, v, lc, fe, hc, hm, tS, hsc, tO, hnx, by omega, by omega, by omega⟩
theorem o_clear (H : lw_st t r i g nx b sc n j) (kk : ∀ nx' t' r' i' g', lw_st t' r' i' g' nx' b sc n (j + 1) → Wf l E n0 mt_Law_law (d + 50) mc ms Q bk bn 988 [(0, .ref sc), (1, .ref (b + 0)), (2, .ref (b + 193 + 0)), (3, .ref (b + 221)), (4, .int (nI (6 * j)))] [] nx' t' r' i' g') : Wf l E n0 mt_Law_law (d + 50) mc ms Q bk bn 224 [(0, .ref sc), (1, .ref (b + 0)), (2, .ref (b + 193 + 0)), (3, .ref (b + 221)), (4, .int (nI (6 * j)))] [] nx t r i g := by
  obtain ⟨pm, sx, tx, w, sp, ru, v, lc, fe, hc, hm, tS, hsc, tO, hnx, b1, b2, b3⟩ := H
  have tb := hc.1.1.1
  have tM := hm.1.1.1
  have hl120 : v.1.length ≤ 120 := hc.2.2.2.2.2.1.1.2.1.1
  refine wf_aload_n dc_Law_law_224 rfl ?_
  refine wf_iv0 (M' := mt_LR_clear) (c := 0) dc_Law_law_225 tg_LR_clear ml_Law_70 im_LR_clear se_LR_clear ⟨_, rfl, rfl⟩ (by assumption) (Nat.le_of_ble_eq_true rfl) (Nat.le_refl _) (Nat.le_refl _) (c_LR_clear hc.1 hc.2.1) qI_nt (qI_go (fun x2 i2 hp => ?_))
  obtain ⟨rfl, p1, p2⟩ := hp
  obtain ⟨e1, -⟩ := fr_m (b := b) (sc := sc) p2 (by simp)
  have hm' := hm.cl hm.1 e1
  have no : ∀ lo hi, 2 ≤ lo → cl_no b lo hi [b + 1] := fun lo hi h z hz => by simp only [List.mem_cons, List.not_mem_nil, or_false] at hz; omega
  have at0 : ∀ k, i2 (b + 0) k = i (b + 0) k := fun k => p2 _ (by simp) k
  have hc' := hc.fr p2 (by simp) p1 (hc.2.2.1.fr p2 (no _ _ (by omega))) (hc.2.2.2.2.1.fr p2 (at0 10) (no _ _ (by omega))) ⟨(at0 12).trans hc.2.2.2.2.2.2.1.1, hc.2.2.2.2.2.2.1.2⟩ ((at0 11).trans hc.2.2.2.2.2.2.2.1) ⟨(at0 13).trans hc.2.2.2.2.2.2.2.2.1, hc.2.2.2.2.2.2.2.2.2⟩
  refine wf_aload_n dc_Law_law_228 rfl ?_
  refine wf_iv0 (M' := mt_Mod_clear) (c := 8) dc_Law_law_229 tg_Mod_clear ml_Law_73 im_Mod_clear se_Mod_clear ⟨_, rfl, rfl⟩ (by assumption) (Nat.le_of_ble_eq_true rfl) (Nat.le_refl _) (Nat.le_refl _) (c_Mod_clear hm'.1 hm'.2.1) qI_nt (qI_go (fun x2 i2 hp => ?_))
  obtain ⟨rfl, -, p3, p4⟩ := hp
  refine wf_icmp_eq 988 dc_Law_law_232 (by decide) (fun _ => ?_) (fun hc => absurd rfl hc)
  exact Wf.to (by exact ⟨rfl, rfl, rfl, rfl, rfl, trivial⟩) (kk _ _ _ _ _ ⟨pm, sx, tx, [], sp, ru, v, lc, fe, hc'.mo (mf_fr p4 (by simp)), hm'.pad hl120 p4 (by simp) p3, tS, hsc, tO, hnx, by omega, by omega, by omega⟩)
theorem o_end (H : lw_st t r i g nx b sc n j) (kk : ∀ nx' t' r' i' g', lw_st t' r' i' g' nx' b sc n (j + 1) → Wf l E n0 mt_Law_law (d + 50) mc ms Q bk bn 988 [(0, .ref sc), (1, .ref (b + 0)), (2, .ref (b + 193 + 0)), (3, .ref (b + 221)), (4, .int (nI (6 * j)))] [] nx' t' r' i' g') : Wf l E n0 mt_Law_law (d + 50) mc ms Q bk bn 671 [(0, .ref sc), (1, .ref (b + 0)), (2, .ref (b + 193 + 0)), (3, .ref (b + 221)), (4, .int (nI (6 * j)))] [] nx t r i g := by
  obtain ⟨pm, sx, tx, w, sp, ru, v, lc, fe, hc, hm, tS, hsc, tO, hnx, b1, b2, b3⟩ := H
  have tb := hc.1.1.1
  have tM := hm.1.1.1
  have hl120 : v.1.length ≤ 120 := hc.2.2.2.2.2.1.1.2.1.1
  refine wf_aload_n dc_Law_law_671 rfl ?_
  refine wf_iv0 (M' := mt_LR_end) (c := 0) dc_Law_law_672 tg_LR_end ml_Law_104 im_LR_end se_LR_end ⟨_, rfl, rfl⟩ (by assumption) (Nat.le_of_ble_eq_true rfl) (Nat.le_refl _) (Nat.le_refl _) (c_LR_end hc.1 hc.2.2.2.2.2.2.2.2) qI_nt (qI_go (fun x2 i2 hp => ?_))
  obtain ⟨rfl, hq⟩ := hp
  subst i2
  refine wf_aload_n dc_Law_law_675 rfl ?_
  refine wf_iv0 (M' := mt_Mod_end) (c := 8) dc_Law_law_676 tg_Mod_end ml_Law_107 im_Mod_end se_Mod_end ⟨_, rfl, rfl⟩ (by assumption) (Nat.le_of_ble_eq_true rfl) (Nat.le_refl _) (Nat.le_refl _) (c_Mod_end hm.1 hm.2.2.2.2.2.2.2.2) qI_nt (qI_go (fun x2 i2 hp => ?_))
  obtain ⟨rfl, rfl⟩ := hp
  refine wf_icmp_eq 988 dc_Law_law_679 (by decide) (fun _ => ?_) (fun hc => absurd rfl hc)
  exact Wf.to (by exact ⟨rfl, rfl, rfl, rfl, rfl, trivial⟩) (kk _ _ _ _ _ ⟨pm, sx, tx, w, sp, ru, v, lc, fe, hc.mo z_fr, hm.z hl120, tS, hsc, tO, hnx, by omega, by omega, by omega⟩)
theorem o_forget (H : lw_st t r i g nx b sc n j) (kk : ∀ nx' t' r' i' g', lw_st t' r' i' g' nx' b sc n (j + 1) → Wf l E n0 mt_Law_law (d + 50) mc ms Q bk bn 988 [(0, .ref sc), (1, .ref (b + 0)), (2, .ref (b + 193 + 0)), (3, .ref (b + 221)), (4, .int (nI (6 * j)))] [] nx' t' r' i' g') : Wf l E n0 mt_Law_law (d + 50) mc ms Q bk bn 577 [(0, .ref sc), (1, .ref (b + 0)), (2, .ref (b + 193 + 0)), (3, .ref (b + 221)), (4, .int (nI (6 * j)))] [] nx t r i g := by
  obtain ⟨pm, sx, tx, w, sp, ru, v, lc, fe, hc, hm, tS, hsc, tO, hnx, b1, b2, b3⟩ := H
  have tb := hc.1.1.1
  have tM := hm.1.1.1
  have hl120 : v.1.length ≤ 120 := hc.2.2.2.2.2.1.1.2.1.1
  have hw1 := hc.2.1.2
  refine wf_aload_n dc_Law_law_577 rfl ?_
  refine wf_iv0 (M' := mt_LR_forget) (c := 0) dc_Law_law_578 tg_LR_forget ml_Law_92 im_LR_forget se_LR_forget ⟨_, rfl, rfl⟩ (by assumption) (Nat.le_of_ble_eq_true rfl) (Nat.le_refl _) (Nat.le_refl _) (c_LR_forget hc.1 hc.2.2.2.2.1) qI_nt (qI_go (fun x2 i2 hp => ?_))
  obtain ⟨rfl, p1⟩ := hp
  have p2 : fr_is [b + 0] i i2 := by rw [p1]; exact fr_up fr_rf (by simp)
  obtain ⟨e1, -⟩ := fr_m (b := b) (sc := sc) p2 (by simp)
  have hm' := hm.cl hm.1 e1
  have no : ∀ lo hi, 1 ≤ lo → cl_no b lo hi [b + 0] := fun lo hi h z hz => by simp only [List.mem_cons, List.not_mem_nil, or_false] at hz; omega
  have at0 : ∀ k, k ≠ 10 → i2 (b + 0) k = i (b + 0) k := fun k hk => by rw [p1]; exact wf_up_k hk
  have at10 : i2 (b + 0) 10 = 0 := by rw [p1]; exact wf_up_s
  have hc' := hc.fr (ru' := []) p2 (by simp) (hc.2.1.fr p2 (no _ _ (by omega))) (hc.2.2.1.fr p2 (no _ _ (by omega))) ⟨at10, Nat.zero_le _, fun k hk => absurd hk (Nat.not_lt_zero _)⟩ ⟨(at0 12 (by omega)).trans hc.2.2.2.2.2.2.1.1, hc.2.2.2.2.2.2.1.2⟩ ((at0 11 (by omega)).trans hc.2.2.2.2.2.2.2.1) ⟨(at0 13 (by omega)).trans hc.2.2.2.2.2.2.2.2.1, hc.2.2.2.2.2.2.2.2.2⟩
  clear p1
  refine wf_aload_n dc_Law_law_581 rfl ?_
  refine wf_iv0 (M' := mt_Mod_forget) (c := 8) dc_Law_law_582 tg_Mod_forget ml_Law_95 im_Mod_forget se_Mod_forget ⟨_, rfl, rfl⟩ (by assumption) (Nat.le_of_ble_eq_true rfl) (Nat.le_refl _) (Nat.le_refl _) (c_Mod_forget hm'.1) qI_nt (qI_go (fun x2 i2 hp => ?_))
  obtain ⟨hz, z2⟩ := hp
  rw [hm'.2.2.2.2.1.1] at hz
  subst hz
  refine wf_icmp_eq 988 dc_Law_law_585 (by decide) (fun _ => ?_) (fun hc => absurd rfl hc)
  rename_i i3 hx3
  have z5 : mf (b + 193) [(0, 0, 1), (0, 6, 7)] i3 i2 := by rw [z2]; exact mf_up (mf_up mf_rf ⟨(0, 0, 1), by simp, rfl, by decide, by decide⟩) ⟨(0, 6, 7), by simp, rfl, by decide, by decide⟩
  have z6 : i2 (b + 193 + 0) 6 = 0 := by rw [z2]; exact wf_up_s
  exact Wf.to (by exact ⟨rfl, rfl, rfl, rfl, rfl, trivial⟩) (kk _ _ _ _ _ ⟨pm, sx, tx, w, sp, [], v, lc, fe, hc'.mo (mf_fr z5 (by simp)), hm'.fr hl120 z5 (by simp) (hm'.2.1.fr z5 hw1.1 (by simp [ms_no]) (by simp [ms_no])) (hm'.2.2.1.fr z5 (by simp [ms_no]) (by simp [ms_no])) (hm'.2.2.2.1.fr z5 (by simp)) ⟨z6, fun k hk => absurd hk (Nat.not_lt_zero _)⟩ ((z5.at (by simp [ms_no])).trans hm'.2.2.2.2.2.2.1) ((z5.at (by simp [ms_no])).trans hm'.2.2.2.2.2.2.2.2), tS, hsc, tO, hnx, by omega, by show 0 ≤ j + 1; omega, by omega⟩)
theorem das_keep {sx tx : Nat → List Int32} {sp : Int32} {lc : Nat} (htx : ∀ k, k < 6 → s1 (tx k)) (hsp : ∃ c : Nat, 1 ≤ c ∧ c < 256 ∧ sp = nI c) (A : List (Int32 × Int32 × Int32)) : ∀ v : LnS, (∀ q ∈ A, ac_ok q.1 q.2.1 q.2.2 = true) → s1 v.1 → sF v.2.1 → s1 (das_of sx tx sp lc A v).1 ∧ sF (das_of sx tx sp lc A v).2.1 := by
  induction A with
  | nil => exact fun v _ h1 h2 => ⟨h1, h2⟩
  | cons q A ih =>
    intro v hq hW hF
    unfold das_of
    rw [da_10]
    obtain ⟨k1, k2⟩ := da_keep (sx := sx) (lc := lc) (p := q.1) (a := q.2.1) (c := q.2.2) (v := v) htx (ac_67 (hq q (List.mem_cons_self))) hsp hW hF
    exact ih _ (fun x hx => hq x (List.mem_cons_of_mem _ hx)) k1 k2
theorem lns_out {sx tx : Nat → List Int32} {sp : Int32} {lc : Nat} (htx : ∀ k, k < 6 → s1 (tx k)) (hsp : ∃ c : Nat, 1 ≤ c ∧ c < 256 ∧ sp = nI c) (R : List RuS) : ∀ (h : Nat) (v : LnS), (∀ u ∈ R, ru_ok u) → s1 v.1 → sF v.2.1 → (lns_of sx tx sp lc R h v).2.2.2.2.2.length ≤ v.2.2.2.2.length + 1210 * R.length := by
  induction R with
  | nil => exact fun h v _ _ _ => Nat.le_refl _
  | cons u R ih =>
    intro h v hu hW hF
    have hok := hu u List.mem_cons_self
    have k0 := das_len (sx := sx) (lc := lc) htx hsp u.2.2.2 v (ru_ok_A hok) hW hF
    obtain ⟨k1, k2⟩ := das_keep (sx := sx) (lc := lc) htx hsp u.2.2.2 v (ru_ok_A hok) hW hF
    have h10 := hok.1
    unfold lns_of
    rw [List.length_cons]
    by_cases hp : hp_of sx lc v.1 v.2.1 u
    · rw [if_pos hp]
      by_cases hb : das_b u.2.2.2 = true
      · rw [if_pos hb]
        have := ih (h + 1) _ (fun x hx => hu x (List.mem_cons_of_mem _ hx)) k1 k2
        omega
      · rw [if_neg hb]
        simp only
        omega
    · rw [if_neg hp]
      have := ih h v (fun x hx => hu x (List.mem_cons_of_mem _ hx)) hW hF
      omega
theorem ra_10 (R : List RuS) (h : ∀ u ∈ R, u.2.2.2.length ≤ 10) : ra R ≤ 10 * R.length := by
  induction R with
  | nil => exact Nat.le_refl _
  | cons u R ih =>
    have h1 := h u List.mem_cons_self
    have h2 := ih (fun x hx => h x (List.mem_cons_of_mem _ hx))
    rw [ra, List.length_cons]
    omega
theorem ru_mem {R : List RuS} {P : RuS → Prop} (h : ∀ k, k < R.length → P (ru_d R k)) : ∀ u ∈ R, P u := fun u hu => by
  obtain ⟨k, hk, rfl⟩ := List.mem_iff_getElem.mp hu
  have := h k hk
  unfold ru_d at this
  rw [List.getD_eq_getElem?_getD, List.getElem?_eq_getElem hk] at this
  exact this
theorem o_line (hj : j ≤ 512) (hk : bk' + 2 * min 120 j ≤ bk) (hn : bn' + 122 * min 120 j ≤ bn) (H : lw_st t r i g nx b sc n j) (kk : ∀ nx' t' r' i' g', lw_st t' r' i' g' nx' b sc n (j + 1) → Wf l E n0 mt_Law_law (d + 50) mc ms Q bk' bn' 988 [(0, .ref sc), (1, .ref (b + 0)), (2, .ref (b + 193 + 0)), (3, .ref (b + 221)), (4, .int (nI (6 * j)))] [] nx' t' r' i' g') : Wf l E n0 mt_Law_law (d + 50) mc ms Q bk bn 590 [(0, .ref sc), (1, .ref (b + 0)), (2, .ref (b + 193 + 0)), (3, .ref (b + 221)), (4, .int (nI (6 * j)))] [] nx t r i g := by
  obtain ⟨pm, sx, tx, w, sp, ru, v, lc, fe, hc, hm, tS, hsc, tO, hnx, b1, b2, b3⟩ := H
  have tb := hc.1.1.1
  have hw1 := hc.2.1.2
  have h12 := hc.2.2.2.2.1.2.1
  have hok : ∀ k, k < ru.length → ru_ok (ru_d ru k) := fun k hk => (hc.2.2.2.2.1.2.2 k hk).2
  have hra := ra_10 ru (ru_mem (fun k hk => (hok k hk).1))
  obtain ⟨W, F, co, K, out⟩ := v
  simp only at b1
  have hout := lns_out (sx := sx) (lc := lc + 1) (fun k hk => (hc.2.2.1 k hk).2) hc.2.2.2.2.2.2.1.2 ru 0 (w, fl_cut w sp, co, K, out) (ru_mem hok) hw1 (sF_cut hw1)
  simp only at hout
  refine wf_aload_n dc_Law_law_590 rfl ?_
  refine wf_iv (st := []) (As := []) (M' := mt_LR_line) (c := 0) (bk' := bk') (bn' := bn') dc_Law_law_591 tg_LR_line ml_Law_96 im_LR_line se_LR_line ⟨_, rfl, rfl⟩ tb (Nat.le_of_ble_eq_true rfl) (by omega) (by omega) (e_LR_line (d := d + 42) hc.1 hc.2.1 hc.2.2.2.1 hc.2.2.1 hc.2.2.2.2.2.2.2.1 hc.2.2.2.2.2.2.1 hc.2.2.2.2.1 hc.2.2.2.2.2.1 (by omega) hnx) (fun X nx t r i g h => by obtain ⟨x, v', -, q, -⟩ := h; cases q) ?_
  rintro vo nx1 t1 r1 i1 g1 ⟨x, v', hv, hvo, q1, q2, q3, rfl, q4, q5, q6, q7⟩
  cases hvo
  -- the old state with the pad and the line count of now
  have e1 : ∀ c j, c < 28 → i1 (b + 193 + c) j = i (b + 193 + c) j := fun c j hcc => q7 _ (by omega) (by omega) (by omega) j (fun z => by omega)
  have hA1 : mo_at t1 r1 (b + 193) := ⟨⟨q3.1 _ _ hm.1.1.1, fun o q hq => q3.1 _ _ (hm.1.1.2 o q hq)⟩, fun q hq => by
    have hk0 : ∃ z, t (b + 193 + q.1) = some z := by
      by_cases h0 : q.1 = 0
      · rw [h0]; exact ⟨_, hm.1.1.1⟩
      · have : ∀ q ∈ mo_W, q.1 = 0 := by decide +kernel
        exact absurd (this q hq) h0
    obtain ⟨z, hz⟩ := hk0
    rw [q3.2 _ z hz (by simp; omega) q.2.1]
    exact hm.1.2 q hq⟩
  have hm' := hm.cl hA1 e1
  have tM := hA1.1.1
  have htx : lp_txt i1 b tx := fun k hk => ⟨⟨(q7 _ (by omega) (by omega) (by omega) 1 (fun z => by omega)).trans (hc.2.2.1 k hk).1.1, fun u hu => (q7 _ (by omega) (by omega) (by omega) u (fun z => by omega)).trans ((hc.2.2.1 k hk).1.2 u hu)⟩, (hc.2.2.1 k hk).2⟩
  -- i0: between
  have hi0 : ∃ i0 : Wi, fr_is [b + 0, b + 1] i i0 ∧ dz b nx i0 i1 ∧ (∀ k, k ≠ 11 → i0 (b + 0) k = i (b + 0) k) := by
    refine ⟨fun z k => if z = b + 1 ∨ (z = b + 0 ∧ k = 11) then i1 z k else i z k, fun z hz k => ?_, fun z hz hb k => ?_, fun k hk => ?_⟩
    · simp only [List.mem_cons, List.not_mem_nil, or_false, not_or] at hz
      exact if_neg (fun q => q.elim hz.2 (fun q => hz.1 q.1))
    · dsimp only
      by_cases hq : z = b + 1 ∨ (z = b + 0 ∧ k = 11)
      · rw [if_pos hq]
      · rw [if_neg hq]
        exact q7 z hz hb (fun q => hq (Or.inl q)) k (fun q1 q2 => hq (Or.inr ⟨q1, q2⟩))
    · exact if_neg (fun q => q.elim (fun q => by omega) (fun q => hk q.2))
  obtain ⟨i0, y1, y2, y3⟩ := hi0
  have no : ∀ lo hi, 2 ≤ lo → cl_no b lo hi [b + 0, b + 1] := fun lo hi h z hz => by simp only [List.mem_cons, List.not_mem_nil, or_false] at hz; omega
  have hX1 : lp_exp t1 r1 i1 g1 b pm sx := (hc.2.2.2.1.fr hc.1 y1 (no _ _ (by omega)) (no _ _ (by omega))).dx hc.1 q3 y2 hnx
  have hR1 : lp_rul i1 b ru := (hc.2.2.2.2.1.fr y1 (y3 10 (by omega)) (no _ _ (by omega))).dz y2 hnx
  have at0 : ∀ k, k ≠ 11 → i1 (b + 0) k = i (b + 0) k := fun k hk => q7 _ (by omega) (by omega) (by omega) k (fun _ => hk)
  have hc' : cl_I t1 r1 i1 g1 b pm sx tx [] sp ru v' (lc + 1) fe := ⟨hc.1.xt q3, q4, htx, hX1, hR1, q6, ⟨(at0 12 (by omega)).trans hc.2.2.2.2.2.2.1.1, hc.2.2.2.2.2.2.1.2⟩, q5, ⟨(at0 13 (by omega)).trans hc.2.2.2.2.2.2.2.2.1, hc.2.2.2.2.2.2.2.2.2⟩⟩
  refine wf_aload_n dc_Law_law_594 rfl ?_
  refine wf_iv0 (M' := mt_Mod_line) (c := 8) dc_Law_law_595 tg_Mod_line ml_Law_99 im_Mod_line se_Mod_line ⟨_, rfl, rfl⟩ (by assumption) (Nat.le_of_ble_eq_true rfl) (Nat.le_refl _) (Nat.le_refl _) (c_Mod_line (lc := lc) hm'.1 hm'.2.1 hw1 hm'.2.2.2.1 hm'.2.2.1 hm'.2.2.2.2.2.2.2.1 hm'.2.2.2.2.2.2.1 hc.2.2.2.2.2.2.1.2 hm'.2.2.2.2.1 h12 hok hm'.2.2.2.2.2.1 hc.2.2.2.2.2.1.2.2.1.1.2.1 (sK_of hc.2.2.2.2.2.1.2.2.1.2) (by omega)) qI_nt (qI_go (fun x2 i2 hp => ?_))
  obtain ⟨x2, v2, hv2, rfl, -, u1, u2, u3, u4⟩ := hp
  have hxv := hv.trans hv2.symm
  cases hxv
  refine wf_icmp_eq 988 dc_Law_law_598 (by decide) (fun _ => ?_) (fun hc => absurd rfl hc)
  have hv'l : v'.2.2.2.2.length ≤ out.length + 14520 := by
    have := congrArg (fun z => z.2.2.2.2.2.length) hv
    simp only at this
    omega
  have hse : ∀ q ∈ li_S, (q.1 = 0 ∧ (q.2.2 ≤ 14 ∨ 24 ≤ q.2.1)) ∨ True := fun _ _ => Or.inr trivial
  have u5 : md_I t1 r1 i2 (b + 193) sx tx [] sp ru v' (lc + 1) fe := ⟨hA1, u1, fun k hk => ⟨(hm'.2.2.1 k hk).1.fr u4 (hm'.2.2.1 k hk).2.1 (li_no (by omega)) (li_no (by omega)), (hm'.2.2.1 k hk).2⟩, hm'.2.2.2.1.fr u4 (fun q hq => ⟨li_ne (by omega) q hq, li_ne (by omega) q hq⟩), hm'.2.2.2.2.1.fr u4 (li_no (by omega)) (fun c c1 c2 => li_ne (by omega)), u3, (u4.at (li_no (by omega))).trans hm'.2.2.2.2.2.2.1, u2, (u4.at (li_no (by omega))).trans hm'.2.2.2.2.2.2.2.2⟩
  exact Wf.to (by exact ⟨rfl, rfl, rfl, rfl, rfl, trivial⟩) (kk _ _ _ _ _ ⟨pm, sx, tx, [], sp, ru, v', lc + 1, fe, hc'.mo (mf_fr u4 (by simp [li_S, ac_S, rp_S, sk_S, mr_S, mF_S, mo_S, mK_S])), u5, q3.1 _ _ tS, hsc, q3.1 _ _ tO, by omega, by omega, by omega, by omega⟩)
end
