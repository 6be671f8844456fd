/-! class CutLine: a line W with its fields F; rows 0 .. 29 the fields', 30 the line's, 31 the changed one, 32 the absent one -/
/-- as far as n places go -/
theorem tk_add {w : List Int32} {x : Int32} {n : Nat} (h : w.length ≤ n) : (if w.length < n then w ++ [x] else w) = (w ++ [x]).take n := by
  by_cases h2 : w.length < n
  · rw [if_pos h2, List.take_of_length_le (by rw [List.length_append]; exact h2)]
  · rw [if_neg h2, List.take_append_of_le_length (by omega), List.take_of_length_le h]
theorem tk_all {w v : List Int32} {n : Nat} (h : w.length ≤ n) : w ++ v.take (n - w.length) = (w ++ v).take n := by
  rw [List.take_append, List.take_of_length_le h]
theorem tk_tk {w v : List Int32} {n : Nat} : (w.take n ++ v).take n = (w ++ v).take n := by
  rw [List.take_append, List.take_append, List.take_take, Nat.min_self, List.length_take]
  congr 2
  omega
def fl_add (F : List (List Int32)) (x : List Int32) : List (List Int32) := if F.length < 30 then F ++ [x] else F
/-- the fields of W: k places left, at place j, a field begun at b -/
def fl_go (W : List Int32) (sp : Int32) : Nat → Nat → Nat → List (List Int32) → List (List Int32)
  | 0, _, _, F => F
  | k + 1, j, b, F => if j = W.length ∨ W.getD j 0 = sp then fl_go W sp k (j + 1) (j + 1) (if b < j ∨ (¬ sp = 32 ∧ 0 < W.length) then fl_add F ((W.drop b).take (j - b)) else F) else fl_go W sp k (j + 1) b F
def fl_cut (W : List Int32) (sp : Int32) : List (List Int32) := fl_go W sp (W.length + 1) 0 0 []
/-- all fields, with the separator between each two -/
def fl_cat (sp : Int32) : List (List Int32) → List Int32
  | [] => []
  | x :: q => x ++ q.flatMap (fun y => sp :: y)
def fl_fill (F : List (List Int32)) (f : Nat) : List (List Int32) := F ++ List.replicate (f - F.length) []
section
variable {l : Launch} {E : We} {n0 d nx : Nat} {t : Wt} {r : Wr} {i : Wi} {g : Wl}
def cu_at (t : Wt) (r : Wr) (a fA : Nat) (P R : Nat → Nat) : Prop := t a = some (.inl 1) ∧ r a 0 = some (P 30) ∧ r a 2 = some fA ∧ r a 3 = some (P 32) ∧ r a 4 = some (P 31) ∧ t fA = some (.inr (3, 30)) ∧ (∀ k, k < 30 → r fA k = some (P k)) ∧ (∀ k, k < 32 → rw_at t r (P k) (R k) 120) ∧ rw_at t r (P 32) (R 32) 0 ∧ ∀ j k, j < 33 → k < 33 → j ≠ k → P j ≠ P k ∧ R j ≠ R k
def cu_is (i : Wi) (a : Nat) (P R : Nat → Nat) (W : List Int32) (F : List (List Int32)) : Prop := i a 1 = nI F.length ∧ F.length ≤ 30 ∧ (rw_is i (P 30) (R 30) W ∧ W.length ≤ 120) ∧ (∀ k, k < F.length → rw_is i (P k) (R k) (F.getD k []) ∧ (F.getD k []).length ≤ 120) ∧ i (P 32) 1 = 0
/-- its own cells -/
def cu_fp (a : Nat) (P R : Nat → Nat) : List Nat := a :: ((List.range 33).map P ++ (List.range 33).map R)
theorem cu_in_P {a k : Nat} {P R : Nat → Nat} (h : k < 33) : P k ∈ cu_fp a P R := List.mem_cons_of_mem _ (List.mem_append_left _ (List.mem_map.mpr ⟨k, List.mem_range.mpr h, rfl⟩))
theorem cu_in_R {a k : Nat} {P R : Nat → Nat} (h : k < 33) : R k ∈ cu_fp a P R := List.mem_cons_of_mem _ (List.mem_append_right _ (List.mem_map.mpr ⟨k, List.mem_range.mpr h, rfl⟩))
theorem cu_in_a {a : Nat} {P R : Nat → Nat} : a ∈ cu_fp a P R := List.mem_cons_self
theorem cu_row {k a : Nat} {P R : Nat → Nat} {i' : Wi} (hk : k < 33) (h : fr_is [P k, R k] i i') : fr_is (cu_fp a P R) i i' := fr_mo h (fun b hb => by
  rcases List.mem_cons.mp hb with rfl | hb
  · exact cu_in_P hk
  · rw [List.mem_singleton.mp hb]; exact cu_in_R hk)
theorem cu_at.rw {a fA k : Nat} {P R : Nat → Nat} (h : cu_at t r a fA P R) (hk : k < 32) : rw_at t r (P k) (R k) 120 := h.2.2.2.2.2.2.2.1 k hk
theorem cu_at.nPR {a fA j k : Nat} {P R : Nat → Nat} (h : cu_at t r a fA P R) (hj : j < 33) (hk : k < 33) : P j ≠ R k := fun q => by
  have h1 : t (P j) = some (.inl 5) := by
    by_cases hj2 : j < 32
    · exact (h.rw hj2).1
    · rw [show j = 32 by omega]; exact h.2.2.2.2.2.2.2.2.1.1
  have h2 : ∃ n, t (R k) = some (.inr (0, n)) := by
    by_cases hk2 : k < 32
    · exact ⟨_, (h.rw hk2).2.2.1⟩
    · rw [show k = 32 by omega]; exact ⟨_, h.2.2.2.2.2.2.2.2.1.2.2.1⟩
  obtain ⟨n, h2⟩ := h2
  rw [q, h2] at h1
  cases h1
theorem cu_at.na {a fA k : Nat} {P R : Nat → Nat} (h : cu_at t r a fA P R) (hk : k < 33) : a ≠ P k ∧ a ≠ R k := by
  have h1 : t (P k) = some (.inl 5) ∧ ∃ n, t (R k) = some (.inr (0, n)) := by
    by_cases hk2 : k < 32
    · exact ⟨(h.rw hk2).1, _, (h.rw hk2).2.2.1⟩
    · rw [show k = 32 by omega]; exact ⟨h.2.2.2.2.2.2.2.2.1.1, _, h.2.2.2.2.2.2.2.2.1.2.2.1⟩
  obtain ⟨h1, n, h2⟩ := h1
  refine ⟨fun q => ?_, fun q => ?_⟩
  · have h3 := h.1
    rw [q, h1] at h3
    cases h3
  · have h3 := h.1
    rw [q, h2] at h3
    cases h3
/-- row j stays where row k changes -/
theorem cu_at.keep {a fA j k : Nat} {P R : Nat → Nat} {i' : Wi} {w : List Int32} (h : cu_at t r a fA P R) (hj : j < 33) (hk : k < 33) (hne : j ≠ k) (hw : rw_is i (P j) (R j) w) (hf : fr_is [P k, R k] i i') : rw_is i' (P j) (R j) w := by
  have h1 := h.2.2.2.2.2.2.2.2.2 j k hj hk hne
  exact hw.fr hf (by simp [h1.1, h.nPR hj hk]) (by simp [h1.2, (h.nPR hk hj).symm])
theorem c_Cut_addField {a fA p q : Nat} {P R : Nat → Nat} {W : List Int32} {F : List (List Int32)} (hA : cu_at t r a fA P R) (hI : cu_is i a P R W F) (hpq : p ≤ q) (hq : q ≤ W.length) :
    Ct l E n0 mt_Cut_addField (d + 2) 0 0 [.ref a, .int (nI p), .int (nI q)] nx t r i g (qV nx t r g (fun i' => cu_is i' a P R W (fl_add F ((W.drop p).take (q - p))) ∧ fr_is (cu_fp a P R) i i')) := by
  have hA' := hA
  obtain ⟨ha, r0, r2, r3, r4, tA, hP, hrw, hab, hinj⟩ := hA
  obtain ⟨h1, h2, ⟨h3, h3l⟩, h4, h5⟩ := hI
  refine Ct.of (by decide) (Nat.le_of_ble_eq_true rfl) ?_
  refine wf_aload_n dc_Cut_addField_0 rfl ?_
  refine wf_geti dc_Cut_addField_1 fl_Cut_37 rfl (by assumption) ?_
  rw [h1]
  refine wf_bipush 30 dc_Cut_addField_4 (by decide) ?_
  refine wf_icmp_ge 49 dc_Cut_addField_6 (by decide) (fun hc => ?_) (fun hc => ?_)
  · have hge := (nI_leI (a := 30) (b := F.length) (by omega) (by omega)).mp hc
    exact wf_return rfl dc_Cut_addField_49 ⟨rfl, rfl, rfl, rfl, rfl, by rw [fl_add, if_neg (by omega)]; exact ⟨h1, h2, ⟨h3, h3l⟩, h4, h5⟩, fr_rf⟩
  · have hlt : F.length < 30 := Nat.not_le.mp fun z => hc ((nI_leI (a := 30) (b := F.length) (by omega) (by omega)).mpr z)
    have hcl : (nI F.length).toNatClampNeg = F.length := nI_clamp (by omega)
    have hrow := hrw F.length (by omega)
    have hrt := hrow.1
    have hne := hinj F.length 30 (by omega) (by omega) (by omega)
    refine wf_aload_n dc_Cut_addField_9 rfl ?_
    refine wf_getr dc_Cut_addField_10 fl_Cut_20 rfl (by assumption) (by assumption) ?_
    refine wf_aload_n dc_Cut_addField_13 rfl ?_
    refine wf_geti dc_Cut_addField_14 fl_Cut_37 rfl (by assumption) ?_
    rw [h1]
    refine wf_aaload (y := 3) dc_Cut_addField_17 rfl rfl (by assumption) (vp_in_nI hlt (by omega)) (by rw [hcl]; exact hP _ hlt) ?_
    refine wf_iv0 (M' := mt_Row_drop) (c := 5) dc_Cut_addField_18 tg_Row_drop ml_Cut_52 im_Row_drop se_Row_drop ⟨_, rfl, rfl⟩ (by assumption) (Nat.le_of_ble_eq_true rfl) (Nat.le_refl _) (Nat.le_refl _) (c_Row_drop hrow) qV_nt (qV_go (fun i2 hp => ?_))
    obtain ⟨hw0, hf0⟩ := hp
    have hf0 : fr_is [P F.length, R F.length] i i2 := fr_mo hf0 (by simp)
    have h1' : i2 a 1 = nI F.length := (hf0 a (by simp [hA'.na (k := F.length) (by omega)]) 1).trans h1
    have h3' := hA'.keep (by omega) (by omega) (by omega) h3 hf0
    refine wf_aload_n dc_Cut_addField_21 rfl ?_
    refine wf_getr dc_Cut_addField_22 fl_Cut_20 rfl (by assumption) (by assumption) ?_
    refine wf_aload_n dc_Cut_addField_25 rfl ?_
    refine wf_geti dc_Cut_addField_26 fl_Cut_37 rfl (by assumption) ?_
    rw [h1']
    refine wf_aaload (y := 3) dc_Cut_addField_29 rfl rfl (by assumption) (vp_in_nI hlt (by omega)) (by rw [hcl]; exact hP _ hlt) ?_
    refine wf_aload_n dc_Cut_addField_30 rfl ?_
    refine wf_getr dc_Cut_addField_31 fl_Cut_14 rfl (by assumption) (by assumption) ?_
    refine wf_iload_n dc_Cut_addField_34 rfl ?_
    refine wf_iload_n dc_Cut_addField_35 rfl ?_
    refine wf_iv3 (M' := mt_Row_addPart) (c := 5) dc_Cut_addField_36 tg_Row_addPart ml_Cut_55 im_Row_addPart se_Row_addPart ⟨_, rfl, rfl⟩ (by assumption) (Nat.le_of_ble_eq_true rfl) (Nat.le_refl _) (Nat.le_refl _) (c_Row_addPart hrow hw0 (by simp) (hrw 30 (by omega)) h3' (by omega) hne.2 hpq hq) qV_nt (qV_go (fun i2 hp => ?_))
    obtain ⟨hw1, hf1⟩ := hp
    have hf01 := fr_ss hf0 hf1
    have h1'' : i2 a 1 = nI F.length := (hf01 a (by simp [hA'.na (k := F.length) (by omega)]) 1).trans h1
    have h3'' := hA'.keep (by omega) (by omega) (by omega) h3 hf01
    refine wf_aload_n dc_Cut_addField_39 rfl ?_
    refine wf_dup dc_Cut_addField_40 rfl ?_
    refine wf_geti dc_Cut_addField_41 fl_Cut_37 rfl (by assumption) ?_
    refine wf_iconst 1 dc_Cut_addField_44 (by decide) ?_
    refine wf_iadd dc_Cut_addField_45 ?_
    rw [h1'', nI_1]
    refine wf_puti dc_Cut_addField_46 fl_Cut_37 (Or.inl nf_Cut_1) rfl rfl rfl (by assumption) ?_
    have hnaP : ∀ k, k < 33 → P k ≠ a := fun k hk => (hA'.na hk).1.symm
    have hnaR : ∀ k, k < 33 → R k ≠ a := fun k hk => (hA'.na hk).2.symm
    have hfa : ∀ (i1 : Wi) (v : Int32) (k : Nat) (w : List Int32), k < 33 → rw_is i1 (P k) (R k) w → rw_is (wf_up i1 a 1 v) (P k) (R k) w := fun i1 v k w hk hw => ⟨(wf_up_a (hnaP k hk)).trans hw.1, fun j hj => (wf_up_a (hnaR k hk)).trans (hw.2 j hj)⟩
    have hlen : ((W.drop p).take (q - p)).length ≤ 120 := by
      rw [List.length_take, List.length_drop]
      omega
    have hw1 : rw_is i2 (P F.length) (R F.length) ((W.drop p).take (q - p)) := by
      rw [List.nil_append, Nat.min_eq_left (by simp; omega)] at hw1
      exact hw1
    refine wf_return rfl dc_Cut_addField_49 ⟨rfl, rfl, rfl, rfl, rfl, ?_, fr_up (cu_row (k := F.length) (by omega) hf01) cu_in_a⟩
    rw [fl_add, if_pos hlt]
    refine ⟨?_, by rw [List.length_append]; exact hlt, ⟨hfa _ _ 30 _ (by omega) h3'', h3l⟩, fun k hk => ?_, ?_⟩
    · rw [wf_up_s, List.length_append]
      rfl
    · rw [List.length_append] at hk
      have hk : k < F.length + 1 := hk
      by_cases hkF : k = F.length
      · subst hkF
        have e : (F ++ [(W.drop p).take (q - p)]).getD F.length [] = (W.drop p).take (q - p) := by
          rw [List.getD_eq_getElem?_getD, List.getElem?_append_right (Nat.le_refl _), Nat.sub_self]
          rfl
        rw [e]
        exact ⟨hfa _ _ _ _ (by omega) hw1, hlen⟩
      · have e : (F ++ [(W.drop p).take (q - p)]).getD k [] = F.getD k [] := by
          rw [List.getD_eq_getElem?_getD, List.getElem?_append_left (by omega), List.getD_eq_getElem?_getD]
        rw [e]
        exact ⟨hfa _ _ _ _ (by omega) (hA'.keep (by omega) (by omega) hkF (h4 k (by omega)).1 hf01), (h4 k (by omega)).2⟩
    · rw [wf_up_a (hnaP 32 (by omega))]
      have h6 := hinj 32 F.length (by omega) (by omega) (by omega)
      exact (hf01 _ (by simp [h6.1, hA'.nPR (j := 32) (k := F.length) (by omega) (by omega)]) 1).trans h5
end
