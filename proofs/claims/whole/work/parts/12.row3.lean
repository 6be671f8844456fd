/-! class Row: the number of a row, the row of a number, a new row -/
/-- digits at the beginning, behind v -/
def nu_go : List Int32 → Int32 → Int32
  | [], v => v
  | x :: q, v => if 48 ≤ x ∧ x ≤ 57 then nu_go q (v * 10 + (x - 48)) else v
/-- the number of a text -/
def nu_of (w : List Int32) : Int32 := if w.getD 0 0 = 45 then -(nu_go (w.drop 1) 0) else nu_go w 0
theorem dr_nil {w : List Int32} {j : Nat} (h : w.drop j = []) : w.length ≤ j := List.drop_eq_nil_iff.mp h
theorem dr_cons {w q : List Int32} {j : Nat} {x : Int32} (h : w.drop j = x :: q) : j < w.length ∧ w.getD j 0 = x ∧ w.drop (j + 1) = q := by
  have hj : j < w.length := Nat.not_le.mp fun z => by rw [List.drop_eq_nil_of_le z] at h; cases h
  rw [List.drop_eq_getElem_cons hj] at h
  injection h with h1 h2
  refine ⟨hj, ?_, h2⟩
  rw [List.getD_eq_getElem?_getD, List.getElem?_eq_getElem hj]
  exact h1
section
variable {l : Launch} {E : We} {n0 d nx : Nat} {t : Wt} {r : Wr} {i : Wi} {g : Wl}
theorem c_Row_toNumber {a s n : Nat} {w : List Int32} (hA : rw_at t r a s n) (hw : rw_is i a s w) (hl : w.length ≤ n) : Ct l E n0 mt_Row_toNumber d 0 0 [.ref a] nx t r i g (qI nx t r g (fun z i' => z = nu_of w ∧ i' = i)) := by
  obtain ⟨ha, hr, hs, hn⟩ := hA
  obtain ⟨h1, h2⟩ := hw
  refine Ct.of (by decide) (Nat.le_of_ble_eq_true rfl) ?_
  have main : ∀ (b : Int32) (j0 : Nat), ((b = 1 ∧ j0 = 1 ∧ w.getD 0 0 = 45) ∨ (b = 0 ∧ j0 = 0 ∧ ¬ w.getD 0 0 = 45)) → Wf l E n0 mt_Row_toNumber d 0 0 (qI nx t r g (fun z i' => z = nu_of w ∧ i' = i)) 0 0 23 [(0, .ref a)] [.int b] nx t r i g := by
    intro b j0 hb
    have fin : ∀ acc z : Int32, acc = nu_go (w.drop j0) 0 → Wf l E n0 mt_Row_toNumber d 0 0 (qI nx t r g (fun z i' => z = nu_of w ∧ i' = i)) 0 0 87 [(0, .ref a), (1, .int b), (2, .int acc), (3, .int z)] [] nx t r i g := by
      intro acc z hacc
      refine wf_iload_n dc_Row_toNumber_87 rfl ?_
      refine wf_if_eq 96 dc_Row_toNumber_88 (by decide) (fun hc => ?_) (fun hc => ?_)
      · refine wf_iload_n dc_Row_toNumber_96 rfl ?_
        refine wf_ireturn rfl dc_Row_toNumber_97 ⟨_, rfl, rfl, rfl, rfl, rfl, ?_, rfl⟩
        rcases hb with ⟨hb, -, -⟩ | ⟨-, rfl, hb⟩
        · rw [hb] at hc
          cases hc
        · rw [nu_of, if_neg hb, hacc, List.drop_zero]
      · refine wf_iload_n dc_Row_toNumber_91 rfl ?_
        refine wf_ineg dc_Row_toNumber_92 ?_
        refine wf_goto 97 dc_Row_toNumber_93 (by decide) ?_
        refine wf_ireturn rfl dc_Row_toNumber_97 ⟨_, rfl, rfl, rfl, rfl, rfl, ?_, rfl⟩
        rcases hb with ⟨-, rfl, hb⟩ | ⟨hb, -, -⟩
        · rw [nu_of, if_pos hb, hacc]
        · exact absurd hb hc
    have loop : ∀ (q : List Int32) (j : Nat) (acc : Int32), w.drop j = q → nu_go q acc = nu_go (w.drop j0) 0 → j ≤ 121 → Wf l E n0 mt_Row_toNumber d 0 0 (qI nx t r g (fun z i' => z = nu_of w ∧ i' = i)) 0 0 36 [(0, .ref a), (1, .int b), (2, .int acc), (3, .int (nI j))] [] nx t r i g := by
      intro q
      induction q with
      | nil =>
        intro j acc hd hg hj
        have hj2 := dr_nil hd
        refine wf_iload_n dc_Row_toNumber_36 rfl ?_
        refine wf_aload_n dc_Row_toNumber_37 rfl ?_
        refine wf_geti dc_Row_toNumber_38 fl_Row_15 rfl (by assumption) ?_
        rw [h1]
        refine wf_icmp_ge 87 dc_Row_toNumber_41 (by decide) (fun hc => ?_) (fun hc => absurd ((nI_leI (by omega) (by omega)).mpr hj2) hc)
        exact fin acc _ hg
      | cons x q ih =>
        intro j acc hd hg hj
        obtain ⟨hj2, hx, hd2⟩ := dr_cons hd
        have hcj : (nI j).toNatClampNeg = j := nI_clamp (by omega)
        refine wf_iload_n dc_Row_toNumber_36 rfl ?_
        refine wf_aload_n dc_Row_toNumber_37 rfl ?_
        refine wf_geti dc_Row_toNumber_38 fl_Row_15 rfl (by assumption) ?_
        rw [h1]
        refine wf_icmp_ge 87 dc_Row_toNumber_41 (by decide) (fun hc => absurd ((nI_leI (by omega) (by omega)).mp hc) (by omega)) (fun hc => ?_)
        refine wf_aload_n dc_Row_toNumber_44 rfl ?_
        refine wf_getr dc_Row_toNumber_45 fl_Row_9 rfl (by assumption) (by assumption) ?_
        refine wf_iload_n dc_Row_toNumber_48 rfl ?_
        refine wf_iaload (y := 0) dc_Row_toNumber_49 rfl (by assumption) (vp_in_nI (by omega) (by omega)) ?_
        rw [hcj, h2 j hj2, hx]
        refine wf_bipush 48 dc_Row_toNumber_50 (by decide) ?_
        refine wf_icmp_lt 87 dc_Row_toNumber_52 (by decide) (fun hc1 => ?_) (fun hc1 => ?_)
        · refine fin acc _ ?_
          rw [← hg]
          exact (if_neg (fun z => Int32.not_le.mpr hc1 z.1)).symm
        · refine wf_aload_n dc_Row_toNumber_55 rfl ?_
          refine wf_getr dc_Row_toNumber_56 fl_Row_9 rfl (by assumption) (by assumption) ?_
          refine wf_iload_n dc_Row_toNumber_59 rfl ?_
          refine wf_iaload (y := 0) dc_Row_toNumber_60 rfl (by assumption) (vp_in_nI (by omega) (by omega)) ?_
          rw [hcj, h2 j hj2, hx]
          refine wf_bipush 57 dc_Row_toNumber_61 (by decide) ?_
          refine wf_icmp_gt 87 dc_Row_toNumber_63 (by decide) (fun hc3 => ?_) (fun hc3 => ?_)
          · refine fin acc _ ?_
            rw [← hg]
            exact (if_neg (fun z => Int32.not_le.mpr hc3 z.2)).symm
          · refine wf_iload_n dc_Row_toNumber_66 rfl ?_
            refine wf_bipush 10 dc_Row_toNumber_67 (by decide) ?_
            refine wf_imul dc_Row_toNumber_69 ?_
            refine wf_aload_n dc_Row_toNumber_70 rfl ?_
            refine wf_getr dc_Row_toNumber_71 fl_Row_9 rfl (by assumption) (by assumption) ?_
            refine wf_iload_n dc_Row_toNumber_74 rfl ?_
            refine wf_iaload (y := 0) dc_Row_toNumber_75 rfl (by assumption) (vp_in_nI (by omega) (by omega)) ?_
            rw [hcj, h2 j hj2, hx]
            refine wf_bipush 48 dc_Row_toNumber_76 (by decide) ?_
            refine wf_isub dc_Row_toNumber_78 ?_
            refine wf_iadd dc_Row_toNumber_79 ?_
            refine wf_istore_n dc_Row_toNumber_80 (by decide) ?_
            refine wf_iinc _ dc_Row_toNumber_81 rfl (nI_1 j) (by decide) ?_
            refine wf_goto 36 dc_Row_toNumber_84 (by decide) ?_
            refine Wf.to (by exact ⟨rfl, rfl, rfl, rfl, trivial⟩) (ih (j + 1) (acc * 10 + (x - 48)) hd2 ?_ (by omega))
            rw [← hg]
            exact (if_pos ⟨Int32.not_lt.mp hc1, Int32.not_lt.mp hc3⟩).symm
    refine wf_istore_n dc_Row_toNumber_23 (by decide) ?_
    refine wf_iconst 0 dc_Row_toNumber_24 (by decide) ?_
    refine wf_istore_n dc_Row_toNumber_25 (by decide) ?_
    refine wf_iload_n dc_Row_toNumber_26 rfl ?_
    refine wf_if_eq 34 dc_Row_toNumber_27 (by decide) (fun hc => ?_) (fun hc => ?_)
    · refine wf_iconst 0 dc_Row_toNumber_34 (by decide) ?_
      refine wf_istore_n dc_Row_toNumber_35 (by decide) ?_
      rcases hb with ⟨hb, -, -⟩ | ⟨-, hj0, -⟩
      · rw [hb] at hc
        cases hc
      · exact Wf.to (by exact ⟨rfl, rfl, rfl, rfl, trivial⟩) (loop _ 0 0 rfl (by rw [hj0]) (by omega))
    · refine wf_iconst 1 dc_Row_toNumber_30 (by decide) ?_
      refine wf_goto 35 dc_Row_toNumber_31 (by decide) ?_
      refine wf_istore_n dc_Row_toNumber_35 (by decide) ?_
      rcases hb with ⟨-, hj0, -⟩ | ⟨hb, -, -⟩
      · exact Wf.to (by exact ⟨rfl, rfl, rfl, rfl, trivial⟩) (loop _ 1 0 rfl (by rw [hj0]) (by omega))
      · exact absurd hb hc
  refine wf_aload_n dc_Row_toNumber_0 rfl ?_
  refine wf_geti dc_Row_toNumber_1 fl_Row_15 rfl (by assumption) ?_
  rw [h1]
  refine wf_if_le 22 dc_Row_toNumber_4 (by decide) (fun hc => ?_) (fun hc => ?_)
  · refine wf_iconst 0 dc_Row_toNumber_22 (by decide) ?_
    refine Wf.to (by exact ⟨rfl, trivial⟩) (main 0 0 (Or.inr ⟨rfl, rfl, ?_⟩))
    have h3 := (nI_leI (a := w.length) (b := 0) (by omega) (by omega)).mp hc
    have h4 : w = [] := List.length_eq_zero_iff.mp (by omega)
    rw [h4]
    decide
  · have h3 : 0 < w.length := Nat.pos_of_ne_zero fun q => hc (by rw [q]; decide)
    refine wf_aload_n dc_Row_toNumber_7 rfl ?_
    refine wf_getr dc_Row_toNumber_8 fl_Row_9 rfl (by assumption) (by assumption) ?_
    refine wf_iconst 0 dc_Row_toNumber_11 (by decide) ?_
    refine wf_iaload (y := 0) dc_Row_toNumber_12 rfl (by assumption) (vp_in_nI (n := 0) (N := n) (by omega) (by omega)) ?_
    rw [show (0 : Int32).toNatClampNeg = 0 by decide, h2 0 h3]
    refine wf_bipush 45 dc_Row_toNumber_13 (by decide) ?_
    refine wf_icmp_ne 22 dc_Row_toNumber_15 (by decide) (fun hc2 => ?_) (fun hc2 => ?_)
    · refine wf_iconst 0 dc_Row_toNumber_22 (by decide) ?_
      exact Wf.to (by exact ⟨rfl, trivial⟩) (main 0 0 (Or.inr ⟨rfl, rfl, hc2⟩))
    · refine wf_iconst 1 dc_Row_toNumber_18 (by decide) ?_
      refine wf_goto 23 dc_Row_toNumber_19 (by decide) ?_
      exact Wf.to (by exact ⟨rfl, trivial⟩) (main 1 1 (Or.inl ⟨rfl, rfl, hc2⟩))
/-- new Row(n): one cell more, the array -/
theorem c_Row_init {a n : Nat} (ha : t a = some (.inl 5)) (hn : n ≤ 1500) : Ct l E n0 mt_Row_init (d + 1) 1 n [.ref a, .int (nI n)] nx t r i g (fun o nx' t' r' i' g' => o = .inl none ∧ nx' = nx + 1 ∧ t' = wf_up1 t nx (some (.inr (0, n))) ∧ r' = wf_up r a 0 (some nx) ∧ i' = i ∧ g' = g ∧ t nx = none ∧ ∀ k, r nx k = none ∧ i nx k = 0 ∧ g nx k = 0) := by
  refine Ct.of (by decide) (Nat.le_of_ble_eq_true rfl) ?_
  refine wf_aload_n dc_Row_init_0 rfl ?_
  refine wf_objinit dc_Row_init_1 ml_Row_3 im_obj co_obj (Nat.le_of_ble_eq_true rfl) ?_
  refine wf_aload_n dc_Row_init_4 rfl ?_
  refine wf_iload_n dc_Row_init_5 rfl ?_
  refine wf_newarr (y := 0) (N := n) (bk' := 0) (bn' := 0) dc_Row_init_6 rfl (by decide) ac_int (fun U h => h) rfl (nI_pos (by omega)) (nI_clamp (by omega)) (by show n * 4 ≤ _; omega) (by omega) (by omega) (fun f1 f2 => ?_)
  have ha2 : (wf_up1 t nx (some (.inr (0, n)))) a = some (.inl 5) := by
    rw [wf_up1_n (fun q => by rw [q, f1] at ha; cases ha)]
    exact ha
  refine wf_putr dc_Row_init_8 fl_Row_9 (Or.inr ⟨fi_Row_0, rfl⟩) rfl rfl rfl (by assumption) ?_
  exact wf_return rfl dc_Row_init_11 ⟨rfl, rfl, rfl, rfl, rfl, rfl, f1, f2⟩
end
