theorem tk_part {w x : List Int32} {m n : Nat} (h : w.length ≤ n) : w ++ x.take (min m (n - w.length)) = (w ++ x.take m).take n := by
  rw [← tk_all h, List.take_take, Nat.min_comm]
theorem fl_cat_s {sp : Int32} {q : List (List Int32)} {y : List Int32} (h : q ≠ []) : fl_cat sp (q ++ [y]) = fl_cat sp q ++ sp :: y := by
  cases q with
  | nil => exact absurd rfl h
  | cons x q => simp [fl_cat]
theorem gf_take {F : List (List Int32)} {j : Nat} (h : j < F.length) : F.take (j + 1) = F.take j ++ [F.getD j []] := by
  rw [List.getD_eq_getElem?_getD, List.getElem?_eq_getElem h, List.take_succ_eq_append_getElem h]
  rfl
/-- the next match behind one that ended at p: not an empty one there -/
noncomputable def mb_of (X : Rel) (w : List Int32) (p : Nat) : Option Nat := match fd_of X w p with
  | none => none
  | some b => if b = p ∧ en_of X w b = some p then fd_of X w (p + 1) else some b
/-- matches become T, k at most: done up to d, the next one at b, o made -/
noncomputable def rp_go (X : Rel) (w T : List Int32) : Nat → Nat → Option Nat → List Int32 → List Int32
  | 0, d, _, o => o ++ w.drop d
  | _ + 1, d, none, o => o ++ w.drop d
  | k + 1, d, some b, o => match en_of X w b with
    | none => o ++ w.drop d
    | some e => rp_go X w T k e (mb_of X w e) (o ++ (w.drop d).take (b - d) ++ T)
section
variable {l : Launch} {E : We} {n0 d nx : Nat} {t : Wt} {r : Wr} {i : Wi} {g : Wl}
theorem k_Row_add {a s n : Nat} {x : Int32} {w : List Int32} (hA : rw_at t r a s n) (hw : rw_is i a s w) (hl : w.length ≤ n) : Ct l E n0 mt_Row_add d 0 0 [.ref a, .int x] nx t r i g (qV nx t r g (fun i' => rw_is i' a s ((w ++ [x]).take n) ∧ fr_is [a, s] i i')) := by
  have h := c_Row_add (l := l) (E := E) (n0 := n0) (d := d) (nx := nx) (g := g) (x := x) hA hw hl
  rw [tk_add hl] at h
  exact h
theorem k_Row_addPart {a s n b s2 n2 p q : Nat} {w v : List Int32} (hA : rw_at t r a s n) (hw : rw_is i a s w) (hl : w.length ≤ n) (hB : rw_at t r b s2 n2) (hv : rw_is i b s2 v) (hl2 : v.length ≤ n2) (hss : s ≠ s2) (hpq : p ≤ q) (hq : q ≤ v.length) :
    Ct l E n0 mt_Row_addPart (d + 1) 0 0 [.ref a, .ref b, .int (nI p), .int (nI q)] nx t r i g (qV nx t r g (fun i' => rw_is i' a s ((w ++ (v.drop p).take (q - p)).take n) ∧ fr_is [a, s] i i')) := by
  have h := c_Row_addPart (l := l) (E := E) (n0 := n0) (d := d) (nx := nx) (g := g) hA hw hl hB hv hl2 hss hpq hq
  rw [tk_part hl] at h
  exact h
theorem k_Row_addAll {a s n b s2 n2 : Nat} {w v : List Int32} (hA : rw_at t r a s n) (hw : rw_is i a s w) (hl : w.length ≤ n) (hB : rw_at t r b s2 n2) (hv : rw_is i b s2 v) (hl2 : v.length ≤ n2) (hss : s ≠ s2) :
    Ct l E n0 mt_Row_addAll (d + 2) 0 0 [.ref a, .ref b] nx t r i g (qV nx t r g (fun i' => rw_is i' a s ((w ++ v).take n) ∧ fr_is [a, s] i i')) := by
  have h := c_Row_addAll (l := l) (E := E) (n0 := n0) (d := d) (nx := nx) (g := g) hA hw hl hB hv hl2 hss
  rw [tk_all hl] at h
  exact h
theorem tk_len {w : List Int32} {n : Nat} : (w.take n).length ≤ n := by
  rw [List.length_take]
  omega
/-- the line's row changes -/
theorem cu_line {a fA : Nat} {P R : Nat → Nat} {W W' : List Int32} {F : List (List Int32)} {i' : Wi} (hA : cu_at t r a fA P R) (hI : cu_is i a P R W F) (hw : rw_is i' (P 30) (R 30) W') (hl : W'.length ≤ 120) (hf : fr_is [P 30, R 30] i i') : cu_is i' a P R W' F := by
  obtain ⟨g1, g2, g3, g4, g5⟩ := hI
  have h9 := hA.2.2.2.2.2.2.2.2.2 32 30 (by omega) (by omega) (by omega)
  exact ⟨(hf a (by simp [hA.na (k := 30) (by omega)]) 1).trans g1, g2, ⟨hw, hl⟩, fun k hk => ⟨hA.keep (by omega) (by omega) (by omega) (g4 k hk).1 hf, (g4 k hk).2⟩, (hf _ (by simp [h9.1, hA.nPR (j := 32) (k := 30) (by omega) (by omega)]) 1).trans g5⟩
/-- the changed row changes -/
theorem cu_other {a fA : Nat} {P R : Nat → Nat} {W : List Int32} {F : List (List Int32)} {i' : Wi} (hA : cu_at t r a fA P R) (hI : cu_is i a P R W F) (hf : fr_is [P 31, R 31] i i') : cu_is i' a P R W F := by
  obtain ⟨g1, g2, ⟨g3, g3'⟩, g4, g5⟩ := hI
  have h9 := hA.2.2.2.2.2.2.2.2.2 32 31 (by omega) (by omega) (by omega)
  exact ⟨(hf a (by simp [hA.na (k := 31) (by omega)]) 1).trans g1, g2, ⟨hA.keep (by omega) (by omega) (by omega) g3 hf, g3'⟩, fun k hk => ⟨hA.keep (by omega) (by omega) (by omega) (g4 k hk).1 hf, (g4 k hk).2⟩, (hf _ (by simp [h9.1, hA.nPR (j := 32) (k := 31) (by omega) (by omega)]) 1).trans g5⟩
theorem c_Cut_join {a fA : Nat} {P R : Nat → Nat} {W : List Int32} {F : List (List Int32)} {sp : Int32} (hA : cu_at t r a fA P R) (hI : cu_is i a P R W F) :
    Ct l E n0 mt_Cut_join (d + 3) 0 0 [.ref a, .int sp] nx t r i g (qV nx t r g (fun i' => cu_is i' a P R ((fl_cat sp F).take 120) F ∧ fr_is (cu_fp a P R) i i')) := by
  have hA' := hA
  obtain ⟨ha, r0, r2, r3, r4, tA, hP, hrw, hab, hinj⟩ := hA
  have hW := hrw 30 (by omega)
  have tW := hW.1
  have hF := hI.2.1
  refine Ct.of (by decide) (Nat.le_of_ble_eq_true rfl) ?_
  refine wf_aload_n dc_Cut_join_0 rfl ?_
  refine wf_getr dc_Cut_join_1 fl_Cut_14 rfl (by assumption) (by assumption) ?_
  refine wf_iv0 (M' := mt_Row_drop) (c := 5) dc_Cut_join_4 tg_Row_drop ml_Cut_52 im_Row_drop se_Row_drop ⟨_, rfl, rfl⟩ (by assumption) (Nat.le_of_ble_eq_true rfl) (Nat.le_refl _) (Nat.le_refl _) (c_Row_drop hW) qV_nt (qV_go (fun i2 hp => ?_))
  obtain ⟨hw1, hf1⟩ := hp
  have hf1 : fr_is [P 30, R 30] i i2 := fr_mo hf1 (by simp)
  have hI1 := cu_line hA' hI hw1 (by simp) hf1
  have hf1 := cu_row (a := a) (k := 30) (by omega) hf1
  refine wf_iconst 0 dc_Cut_join_7 (by decide) ?_
  refine wf_istore_n dc_Cut_join_8 (by decide) ?_
  have loop : ∀ (k j : Nat) (i1 : Wi), j + k = F.length → cu_is i1 a P R ((fl_cat sp (F.take j)).take 120) F → fr_is (cu_fp a P R) i i1 →
      Wf l E n0 mt_Cut_join (d + 3) 0 0 (qV nx t r g (fun i' => cu_is i' a P R ((fl_cat sp F).take 120) F ∧ fr_is (cu_fp a P R) i i')) 0 0 9 [(0, .ref a), (1, .int sp), (2, .int (nI j))] [] nx t r i1 g := by
    intro k
    induction k with
    | zero =>
      intro j i1 hj hI1 hf1
      refine wf_iload_n dc_Cut_join_9 rfl ?_
      refine wf_aload_n dc_Cut_join_10 rfl ?_
      refine wf_geti dc_Cut_join_11 fl_Cut_37 rfl (by assumption) ?_
      rw [hI1.1]
      refine wf_icmp_ge 48 dc_Cut_join_14 (by decide) (fun hc => ?_) (fun hc => absurd ((nI_leI (by omega) (by omega)).mpr (by omega)) hc)
      rw [show j = F.length by omega, List.take_length] at hI1
      exact wf_return rfl dc_Cut_join_48 ⟨rfl, rfl, rfl, rfl, rfl, hI1, hf1⟩
    | succ k ih =>
      intro j i1 hj hI1 hf1
      have hjF : j < F.length := by omega
      have hrow := hrw j (by omega)
      have hne := hinj 30 j (by omega) (by omega) (by omega)
      have all : ∀ (W1 : List Int32) (i2 : Wi), cu_is i2 a P R (W1.take 120) F → fr_is (cu_fp a P R) i i2 → fl_cat sp (F.take (j + 1)) = W1 ++ F.getD j [] → Wf l E n0 mt_Cut_join (d + 3) 0 0 (qV nx t r g (fun i' => cu_is i' a P R ((fl_cat sp F).take 120) F ∧ fr_is (cu_fp a P R) i i')) 0 0 29 [(0, .ref a), (1, .int sp), (2, .int (nI j))] [] nx t r i2 g := by
        intro W1 i2 hI2 hf2 he
        refine wf_aload_n dc_Cut_join_29 rfl ?_
        refine wf_getr dc_Cut_join_30 fl_Cut_14 rfl (by assumption) (by assumption) ?_
        refine wf_aload_n dc_Cut_join_33 rfl ?_
        refine wf_getr dc_Cut_join_34 fl_Cut_20 rfl (by assumption) (by assumption) ?_
        refine wf_iload_n dc_Cut_join_37 rfl ?_
        refine wf_aaload (y := 3) dc_Cut_join_38 rfl rfl (by assumption) (vp_in_nI (by omega) (by omega)) (by rw [nI_clamp (by omega)]; exact hP j (by omega)) ?_
        refine wf_iv1 (M' := mt_Row_addAll) (c := 5) dc_Cut_join_39 tg_Row_addAll ml_Cut_69 im_Row_addAll se_Row_addAll ⟨_, rfl, rfl⟩ (by assumption) (Nat.le_of_ble_eq_true rfl) (Nat.le_refl _) (Nat.le_refl _) (k_Row_addAll hW hI2.2.2.1.1 hI2.2.2.1.2 hrow (hI2.2.2.2.1 j hjF).1 (hI2.2.2.2.1 j hjF).2 hne.2) qV_nt (qV_go (fun i2 hp => ?_))
        obtain ⟨hw3, hf3⟩ := hp
        rw [tk_tk, ← he] at hw3
        refine wf_iinc _ dc_Cut_join_42 rfl (nI_1 j) (by decide) ?_
        refine wf_goto 9 dc_Cut_join_45 (by decide) ?_
        exact Wf.to (by exact ⟨rfl, rfl, rfl, trivial⟩) (ih (j + 1) _ (by omega) (cu_line hA' hI2 hw3 tk_len hf3) (fr_ss hf2 (cu_row (k := 30) (by omega) hf3)))
      refine wf_iload_n dc_Cut_join_9 rfl ?_
      refine wf_aload_n dc_Cut_join_10 rfl ?_
      refine wf_geti dc_Cut_join_11 fl_Cut_37 rfl (by assumption) ?_
      rw [hI1.1]
      refine wf_icmp_ge 48 dc_Cut_join_14 (by decide) (fun hc => absurd ((nI_leI (by omega) (by omega)).mp hc) (by omega)) (fun hc => ?_)
      refine wf_iload_n dc_Cut_join_17 rfl ?_
      refine wf_if_le 29 dc_Cut_join_18 (by decide) (fun hc2 => ?_) (fun hc2 => ?_)
      · have h0 := (nI_leI (a := j) (b := 0) (by omega) (by omega)).mp hc2
        have h0 : j = 0 := by omega
        subst h0
        refine all [] i1 hI1 hf1 ?_
        rw [gf_take hjF]
        simp [fl_cat]
      · have h0 : j ≠ 0 := fun z => hc2 (by rw [z]; decide)
        refine wf_aload_n dc_Cut_join_21 rfl ?_
        refine wf_getr dc_Cut_join_22 fl_Cut_14 rfl (by assumption) (by assumption) ?_
        refine wf_iload_n dc_Cut_join_25 rfl ?_
        refine wf_iv1 (M' := mt_Row_add) (c := 5) dc_Cut_join_26 tg_Row_add ml_Cut_66 im_Row_add se_Row_add ⟨_, rfl, rfl⟩ (by assumption) (Nat.le_of_ble_eq_true rfl) (Nat.le_refl _) (Nat.le_refl _) (k_Row_add hW hI1.2.2.1.1 hI1.2.2.1.2) qV_nt (qV_go (fun i2 hp => ?_))
        obtain ⟨hw3, hf3⟩ := hp
        rw [tk_tk] at hw3
        refine all (fl_cat sp (F.take j) ++ [sp]) _ (cu_line hA' hI1 hw3 tk_len hf3) (fr_ss hf1 (cu_row (k := 30) (by omega) hf3)) ?_
        rw [gf_take hjF, fl_cat_s (fun z => by have h7 := congrArg List.length z; rw [List.length_take, List.length_nil, Nat.min_eq_left (by omega)] at h7; exact h0 h7)]
        simp
  exact Wf.to (by exact ⟨rfl, rfl, rfl, trivial⟩) (loop F.length 0 i2 (by omega) hI1 hf1)
theorem fl_fill_len (F : List (List Int32)) (f : Nat) : (fl_fill F f).length = max F.length f := by
  rw [fl_fill, List.length_append, List.length_replicate]
  omega
theorem fl_fill_get (F : List (List Int32)) (f k : Nat) : (fl_fill F f).getD k [] = F.getD k [] := by
  rw [fl_fill, List.getD_eq_getElem?_getD, List.getD_eq_getElem?_getD]
  by_cases h : k < F.length
  · rw [List.getElem?_append_left h]
  · rw [List.getElem?_append_right (by omega), List.getElem?_replicate, List.getElem?_eq_none (l := F) (by omega)]
    split <;> rfl
theorem c_Cut_setField {a fA b s2 n2 f : Nat} {P R : Nat → Nat} {W v : List Int32} {F : List (List Int32)} {sp : Int32} (hA : cu_at t r a fA P R) (hI : cu_is i a P R W F) (hf1 : 1 ≤ f) (hf30 : f ≤ 30) (hB : rw_at t r b s2 n2) (hv : rw_is i b s2 v) (hl : v.length ≤ n2)
    (hT : (∀ k, k < 33 → b ≠ P k ∧ s2 ≠ R k) ∨ ∃ k, (k < F.length ∨ k = 32) ∧ b = P k ∧ s2 = R k) :
    Ct l E n0 mt_Cut_setField (d + 4) 0 0 [.ref a, .int (nI f), .ref b, .int sp] nx t r i g (qV nx t r g (fun i' => cu_is i' a P R ((fl_cat sp ((fl_fill F f).set (f - 1) v)).take 120) ((fl_fill F f).set (f - 1) v) ∧ fr_is (cu_fp a P R) i i')) := by
  have hA' := hA
  obtain ⟨ha, r0, r2, r3, r4, tA, hP, hrw, hab, hinj⟩ := hA
  have hF := hI.2.1
  have hn2 := hB.2.2.2
  have tb := hB.1
  have hbR : ∀ k, k < 33 → b ≠ R k ∧ s2 ≠ P k := fun k hk => by
    have h1 : t (P k) = some (.inl 5) ∧ ∃ n, t (R k) = some (.inr (0, n)) := by
      by_cases hk2 : k < 32
      · exact ⟨(hrw k hk2).1, _, (hrw k hk2).2.2.1⟩
      · rw [show k = 32 by omega]; exact ⟨hab.1, _, hab.2.2.1⟩
    obtain ⟨h1, n, h2⟩ := h1
    exact ⟨fun q => (by rw [q, h2] at tb; cases tb), fun q => (by have h3 := hB.2.2.1; rw [q, h1] at h3; cases h3)⟩
  have hba : b ≠ a ∧ s2 ≠ a := ⟨fun q => (by rw [q, ha] at tb; cases tb), fun q => (by have h3 := hB.2.2.1; rw [q, ha] at h3; cases h3)⟩
  -- the text stays where a later row is dropped
  have keepT : ∀ (k : Nat) (i1 i2 : Wi), F.length ≤ k → k < 30 → rw_is i1 b s2 v → fr_is [P k, R k] i1 i2 → rw_is i2 b s2 v := fun k i1 i2 h1 h2 hv hf => by
    have h3 : b ≠ P k ∧ s2 ≠ R k := by
      rcases hT with h | ⟨k', h, rfl, rfl⟩
      · exact h k (by omega)
      · exact hinj k' k (by omega) (by omega) (by omega)
    exact hv.fr hf (by simp [h3.1, (hbR k (by omega)).1]) (by simp [h3.2, (hbR k (by omega)).2])
  refine Ct.of (by decide) (Nat.le_of_ble_eq_true rfl) ?_
  refine wf_aload_n dc_Cut_setField_0 rfl ?_
  refine wf_geti dc_Cut_setField_1 fl_Cut_37 rfl (by assumption) ?_
  rw [hI.1]
  refine wf_istore dc_Cut_setField_4 (by decide) ?_
  -- behind the loop
  have fin : ∀ (i1 : Wi) (q : Int32), cu_is i1 a P R W (fl_fill F f) → fr_is (cu_fp a P R) i i1 → rw_is i1 b s2 v → Wf l E n0 mt_Cut_setField (d + 4) 0 0 (qV nx t r g (fun i' => cu_is i' a P R ((fl_cat sp ((fl_fill F f).set (f - 1) v)).take 120) ((fl_fill F f).set (f - 1) v) ∧ fr_is (cu_fp a P R) i i')) 0 0 45 [(0, .ref a), (1, .int (nI f)), (2, .ref b), (3, .int sp), (4, .int q)] [] nx t r i1 g := by
    intro i1 q hI1 hf1' hv1
    have hlen := fl_fill_len F f
    refine wf_aload_n dc_Cut_setField_45 rfl ?_
    refine wf_iload_n dc_Cut_setField_46 rfl ?_
    refine wf_iv1 (M' := mt_Cut_fieldText) (c := 1) dc_Cut_setField_47 tg_Cut_fieldText ml_Cut_59 im_Cut_fieldText se_Cut_fieldText ⟨_, rfl, rfl⟩ (by assumption) (Nat.le_of_ble_eq_true rfl) (Nat.le_refl _) (Nat.le_refl _) (c_Cut_fieldText hA' hI1 (by omega)) qR_nt (qR_go (fun x2 i2 hp => ?_))
    obtain ⟨rfl, rfl⟩ := hp
    rw [if_pos ⟨hf1, by omega⟩]
    have hrow := hrw (f - 1) (by omega)
    have hrt := hrow.1
    refine wf_aload_n dc_Cut_setField_50 rfl ?_
    refine wf_iv1 (M' := mt_Row_become) (c := 5) dc_Cut_setField_51 tg_Row_become ml_Cut_30 im_Row_become se_Row_become ⟨_, rfl, rfl⟩ (by assumption) (Nat.le_of_ble_eq_true rfl) (Nat.le_refl _) (Nat.le_refl _) (c_Row_become hrow hB hv1 hl) qV_nt (qV_go (fun i2 hp => ?_))
    obtain ⟨hw3, hf3⟩ := hp
    rw [List.take_of_length_le (by omega)] at hw3
    have hI3 : cu_is i2 a P R W ((fl_fill F f).set (f - 1) v) := by
      obtain ⟨g1, g2, ⟨g3, g3'⟩, g4, g5⟩ := hI1
      have h9 := hinj 32 (f - 1) (by omega) (by omega) (by omega)
      refine ⟨?_, by rw [List.length_set]; exact g2, ⟨hA'.keep (by omega) (by omega) (by omega) g3 hf3, g3'⟩, fun k hk => ?_, (hf3 _ (by simp [h9.1, hA'.nPR (j := 32) (k := f - 1) (by omega) (by omega)]) 1).trans g5⟩
      · rw [List.length_set]
        exact (hf3 a (by simp [hA'.na (k := f - 1) (by omega)]) 1).trans g1
      · rw [List.length_set] at hk
        by_cases hkf : k = f - 1
        · subst hkf
          have e : ((fl_fill F f).set (f - 1) v).getD (f - 1) [] = v := by
            rw [List.getD_eq_getElem?_getD, List.getElem?_set_self hk]
            rfl
          rw [e]
          exact ⟨hw3, by omega⟩
        · have e : ((fl_fill F f).set (f - 1) v).getD k [] = (fl_fill F f).getD k [] := by
            rw [List.getD_eq_getElem?_getD, List.getElem?_set_ne (fun q => hkf q.symm), List.getD_eq_getElem?_getD]
          rw [e]
          exact ⟨hA'.keep (by omega) (by omega) hkf (g4 k hk).1 hf3, (g4 k hk).2⟩
    refine wf_aload_n dc_Cut_setField_54 rfl ?_
    refine wf_iload_n dc_Cut_setField_55 rfl ?_
    refine wf_iv1 (M' := mt_Cut_join) (c := 1) dc_Cut_setField_56 tg_Cut_join ml_Cut_63 im_Cut_join se_Cut_join ⟨_, rfl, rfl⟩ (by assumption) (Nat.le_of_ble_eq_true rfl) (Nat.le_refl _) (Nat.le_refl _) (c_Cut_join hA' hI3) qV_nt (qV_go (fun i2 hp => ?_))
    exact wf_return rfl dc_Cut_setField_59 ⟨rfl, rfl, rfl, rfl, rfl, hp.1, fr_ss (fr_ss hf1' (cu_row (k := f - 1) (by omega) hf3)) hp.2⟩
  have loop : ∀ (k j : Nat) (i1 : Wi), j + k = max F.length f → F.length ≤ j → cu_is i1 a P R W (fl_fill F j) → fr_is (cu_fp a P R) i i1 → rw_is i1 b s2 v → Wf l E n0 mt_Cut_setField (d + 4) 0 0 (qV nx t r g (fun i' => cu_is i' a P R ((fl_cat sp ((fl_fill F f).set (f - 1) v)).take 120) ((fl_fill F f).set (f - 1) v) ∧ fr_is (cu_fp a P R) i i')) 0 0 6 [(0, .ref a), (1, .int (nI f)), (2, .ref b), (3, .int sp), (4, .int (nI j))] [] nx t r i1 g := by
    intro k
    induction k with
    | zero =>
      intro j i1 hj hFj hI1 hf2 hv1
      refine wf_iload dc_Cut_setField_6 rfl ?_
      refine wf_iload_n dc_Cut_setField_8 rfl ?_
      refine wf_icmp_ge 45 dc_Cut_setField_9 (by decide) (fun hc => ?_) (fun hc => absurd ((nI_leI (by omega) (by omega)).mpr (by omega)) hc)
      have e : fl_fill F j = fl_fill F f := by
        unfold fl_fill
        rw [show j - F.length = f - F.length by omega]
      rw [e] at hI1
      exact fin i1 _ hI1 hf2 hv1
    | succ k ih =>
      intro j i1 hj hFj hI1 hf2 hv1
      have hjf : j < f := by omega
      have hcl : (nI j).toNatClampNeg = j := nI_clamp (by omega)
      have hrow := hrw j (by omega)
      have hrt := hrow.1
      have hlen := fl_fill_len F j
      refine wf_iload dc_Cut_setField_6 rfl ?_
      refine wf_iload_n dc_Cut_setField_8 rfl ?_
      refine wf_icmp_ge 45 dc_Cut_setField_9 (by decide) (fun hc => absurd ((nI_leI (by omega) (by omega)).mp hc) (by omega)) (fun hc => ?_)
      refine wf_iload dc_Cut_setField_12 rfl ?_
      refine wf_bipush 30 dc_Cut_setField_14 (by decide) ?_
      refine wf_icmp_ge 45 dc_Cut_setField_16 (by decide) (fun hc => absurd ((nI_leI (a := 30) (b := j) (by omega) (by omega)).mp hc) (by omega)) (fun hc => ?_)
      refine wf_aload_n dc_Cut_setField_19 rfl ?_
      refine wf_getr dc_Cut_setField_20 fl_Cut_20 rfl (by assumption) (by assumption) ?_
      refine wf_iload dc_Cut_setField_23 rfl ?_
      refine wf_aaload (y := 3) dc_Cut_setField_25 rfl rfl (by assumption) (vp_in_nI (by omega) (by omega)) (by rw [hcl]; exact hP j (by omega)) ?_
      refine wf_iv0 (M' := mt_Row_drop) (c := 5) dc_Cut_setField_26 tg_Row_drop ml_Cut_52 im_Row_drop se_Row_drop ⟨_, rfl, rfl⟩ (by assumption) (Nat.le_of_ble_eq_true rfl) (Nat.le_refl _) (Nat.le_refl _) (c_Row_drop hrow) qV_nt (qV_go (fun i2 hp => ?_))
      obtain ⟨hw3, hf3⟩ := hp
      have hf3 : fr_is [P j, R j] i1 i2 := fr_mo hf3 (by simp)
      obtain ⟨g1, g2, ⟨g3, g3'⟩, g4, g5⟩ := hI1
      have g1' : i2 a 1 = nI (fl_fill F j).length := (hf3 a (by simp [hA'.na (k := j) (by omega)]) 1).trans g1
      have h9 := hinj 32 j (by omega) (by omega) (by omega)
      refine wf_aload_n dc_Cut_setField_29 rfl ?_
      refine wf_dup dc_Cut_setField_30 rfl ?_
      refine wf_geti dc_Cut_setField_31 fl_Cut_37 rfl (by assumption) ?_
      refine wf_iconst 1 dc_Cut_setField_34 (by decide) ?_
      refine wf_iadd dc_Cut_setField_35 ?_
      rw [g1', nI_1]
      refine wf_puti dc_Cut_setField_36 fl_Cut_37 (Or.inl nf_Cut_1) rfl rfl rfl (by assumption) ?_
      refine wf_iinc _ dc_Cut_setField_39 rfl (nI_1 j) (by decide) ?_
      refine wf_goto 6 dc_Cut_setField_42 (by decide) ?_
      refine Wf.to (by exact ⟨rfl, rfl, rfl, rfl, rfl, trivial⟩) (ih (j + 1) _ (by omega) (by omega) ⟨?_, ?_, ⟨cu_up hA' (by omega) (hA'.keep (by omega) (by omega) (by omega) g3 hf3), g3'⟩, fun k hk => ?_, ?_⟩ (fr_up (fr_ss hf2 (cu_row (k := j) (by omega) hf3)) cu_in_a) ?_)
      · rw [wf_up_s, hlen, fl_fill_len]
        congr 1
        omega
      · rw [fl_fill_len]
        omega
      · rw [fl_fill_len] at hk
        rw [fl_fill_get]
        by_cases hkj : k = j
        · subst hkj
          rw [List.getD_eq_getElem?_getD, List.getElem?_eq_none hFj]
          exact ⟨cu_up hA' (by omega) hw3, by simp⟩
        · have h8 := g4 k (by omega)
          rw [fl_fill_get] at h8
          exact ⟨cu_up hA' (by omega) (hA'.keep (by omega) (by omega) hkj h8.1 hf3), h8.2⟩
      · rw [wf_up_a (hA'.na (k := 32) (by omega)).1.symm]
        exact (hf3 _ (by simp [h9.1, hA'.nPR (j := 32) (k := j) (by omega) (by omega)]) 1).trans g5
      · have h8 := keepT j i1 i2 hFj (by omega) hv1 hf3
        exact ⟨(wf_up_a hba.1).trans h8.1, fun q hq => (wf_up_a hba.2).trans (h8.2 q hq)⟩
  have e0 : fl_fill F F.length = F := by
    unfold fl_fill
    rw [Nat.sub_self]
    simp
  exact Wf.to (by exact ⟨rfl, rfl, rfl, rfl, rfl, trivial⟩) (loop (max F.length f - F.length) F.length i (by omega) (Nat.le_refl _) (by rw [e0]; exact hI) fr_rf hv)
end
