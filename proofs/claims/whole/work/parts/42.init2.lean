/-! constructors: Reader, CutLine; maps as logs of writes from a base b, the newest first -/
abbrev Wk : Type := Nat ⊕ (Nat × Nat)
def lg_t (t : Wt) (b : Nat) : List (Nat × Wk) → Wt
  | [] => t
  | q :: K => wf_up1 (lg_t t b K) (b + q.1) (some q.2)
def lg_r (r : Wr) (b : Nat) : List (Nat × Nat × Nat) → Wr
  | [] => r
  | q :: K => wf_up (lg_r r b K) (b + q.1) q.2.1 (some (b + q.2.2))
def lg_i (i : Wi) (b : Nat) : List (Nat × Nat × Int32) → Wi
  | [] => i
  | q :: K => wf_up (lg_i i b K) (b + q.1) q.2.1 q.2.2
theorem lg_t_g {t : Wt} {b o : Nat} {K : List (Nat × Wk)} {q : Nat × Wk} (h : K.find? (fun q => q.1 == o) = some q) : lg_t t b K (b + o) = some q.2 := by
  induction K with
  | nil => cases h
  | cons p K ih =>
    rw [List.find?_cons] at h
    show wf_up1 (lg_t t b K) (b + p.1) (some p.2) (b + o) = _
    cases hp : p.1 == o with
    | true =>
      rw [hp] at h
      cases h
      rw [eq_of_beq hp, wf_up1_s]
    | false =>
      rw [hp] at h
      rw [wf_up1_n (fun z => by rw [show p.1 = o by omega] at hp; simp at hp)]
      exact ih h
theorem lg_t_o {t : Wt} {b z : Nat} {K : List (Nat × Wk)} (h : ∀ q ∈ K, z ≠ b + q.1) : lg_t t b K z = t z := by
  induction K with
  | nil => rfl
  | cons p K ih =>
    show wf_up1 (lg_t t b K) (b + p.1) (some p.2) z = _
    rw [wf_up1_n (h p (List.mem_cons_self))]
    exact ih (fun q hq => h q (List.mem_cons_of_mem _ hq))
theorem lg_r_g {r : Wr} {b o k : Nat} {K : List (Nat × Nat × Nat)} {q : Nat × Nat × Nat} (h : K.find? (fun q => q.1 == o && q.2.1 == k) = some q) : lg_r r b K (b + o) k = some (b + q.2.2) := by
  induction K with
  | nil => cases h
  | cons p K ih =>
    rw [List.find?_cons] at h
    show wf_up (lg_r r b K) (b + p.1) p.2.1 (some (b + p.2.2)) (b + o) k = _
    cases hp : (p.1 == o && p.2.1 == k) with
    | true =>
      rw [hp] at h
      cases h
      rw [Bool.and_eq_true] at hp
      rw [eq_of_beq hp.1, eq_of_beq hp.2, wf_up_s]
    | false =>
      rw [hp] at h
      by_cases h1 : p.1 = o
      · have h2 : ¬ p.2.1 = k := fun z => by
          rw [h1, z] at hp
          simp at hp
        rw [wf_up_k (fun z => h2 z.symm)]
        exact ih h
      · rw [wf_up_a (by omega)]
        exact ih h
theorem lg_r_o {r : Wr} {b z k : Nat} {K : List (Nat × Nat × Nat)} (h : ∀ q ∈ K, z ≠ b + q.1) : lg_r r b K z k = r z k := by
  induction K with
  | nil => rfl
  | cons p K ih =>
    show wf_up (lg_r r b K) (b + p.1) p.2.1 (some (b + p.2.2)) z k = _
    rw [wf_up_a (h p (List.mem_cons_self))]
    exact ih (fun q hq => h q (List.mem_cons_of_mem _ hq))
theorem lg_i_g {i : Wi} {b o k : Nat} {K : List (Nat × Nat × Int32)} {q : Nat × Nat × Int32} (h : K.find? (fun q => q.1 == o && q.2.1 == k) = some q) : lg_i i b K (b + o) k = q.2.2 := by
  induction K with
  | nil => cases h
  | cons p K ih =>
    rw [List.find?_cons] at h
    show wf_up (lg_i i b K) (b + p.1) p.2.1 p.2.2 (b + o) k = _
    cases hp : (p.1 == o && p.2.1 == k) with
    | true =>
      rw [hp] at h
      cases h
      rw [Bool.and_eq_true] at hp
      rw [eq_of_beq hp.1, eq_of_beq hp.2, wf_up_s]
    | false =>
      rw [hp] at h
      by_cases h1 : p.1 = o
      · have h2 : ¬ p.2.1 = k := fun z => by
          rw [h1, z] at hp
          simp at hp
        rw [wf_up_k (fun z => h2 z.symm)]
        exact ih h
      · rw [wf_up_a (by omega)]
        exact ih h
theorem lg_i_o {i : Wi} {b z k : Nat} {K : List (Nat × Nat × Int32)} (h : ∀ q ∈ K, z = b + q.1 → k ≠ q.2.1) : lg_i i b K z k = i z k := by
  induction K with
  | nil => rfl
  | cons p K ih =>
    show wf_up (lg_i i b K) (b + p.1) p.2.1 p.2.2 z k = _
    by_cases hz : z = b + p.1
    · rw [wf_up_k (h p (List.mem_cons_self) hz)]
      exact ih (fun q hq => h q (List.mem_cons_of_mem _ hq))
    · rw [wf_up_a hz]
      exact ih (fun q hq => h q (List.mem_cons_of_mem _ hq))
section
variable {l : Launch} {E : We} {n0 d nx : Nat} {t : Wt} {r : Wr} {i : Wi} {g : Wl}
theorem k_Row_init {a n : Nat} {v : Int32} (hv : v = nI n) (ha : t a = some (.inl 5)) (hn : n ≤ 1500) : Ct l E n0 mt_Row_init (d + 1) 1 n [.ref a, .int v] nx t r i g (fun o nx' t' r' i' g' => o = .inl none ∧ nx' = nx + 1 ∧ t' = wf_up1 t nx (some (.inr (0, n))) ∧ r' = wf_up r a 0 (some nx) ∧ i' = i ∧ g' = g) := by
  subst hv
  refine (c_Row_init ha hn).mono ?_
  rintro v nx' t' r' i' g' ⟨h1, h2, h3, h4, h5, h6, -⟩
  exact ⟨h1, h2, h3, h4, h5, h6⟩
def rd_K (m : Nat) : List (Nat × Wk) := [(m + 13, .inr (0, 0)), (m + 12, .inl 5), (m + 11, .inr (1, 4)), (m + 10, .inr (2, 4)), (m + 9, .inr (2, 4)), (m + 8, .inr (2, 60)), (m + 7, .inr (2, 256)), (m + 6, .inl 2), (m + 5, .inr (2, 121)), (m + 4, .inr (2, 121)), (m + 3, .inr (1, 121)), (m + 2, .inr (0, 121)), (m + 1, .inr (0, 121)), (m, .inr (0, 121))]
def rd_W (o m : Nat) : List (Nat × Nat × Nat) := [(o, 8, m + 12), (m + 12, 0, m + 13), (o, 7, m + 6), (m + 6, 4, m + 11), (m + 6, 3, m + 10), (m + 6, 2, m + 9), (m + 6, 1, m + 8), (m + 6, 0, m + 7), (o, 5, m + 5), (o, 4, m + 4), (o, 3, m + 3), (o, 2, m + 2), (o, 1, m + 1), (o, 0, m)]
def rd_L (m : Nat) : List (Nat × Nat × Int32) := [(m + 11, 3, 1), (m + 11, 2, 1), (m + 11, 1, 1), (m + 11, 0, 1)]
theorem c_Rdr_init {b o m : Nat} (ha : t (b + o) = some (.inl 4)) (hom : o < m) : Ct l E n0 mt_Rdr_init (d + 2) 14 1062 [.ref (b + o)] (b + m) t r i g (fun v nx' t' r' i' g' => v = .inl none ∧ nx' = b + (m + 14) ∧ t' = lg_t t b (rd_K m) ∧ r' = lg_r r b (rd_W o m) ∧ i' = lg_i i b (rd_L m) ∧ g' = g) := by
  refine Ct.of (by decide) (Nat.le_of_ble_eq_true rfl) ?_
  refine wf_aload_n dc_Rdr_init_0 rfl ?_
  refine wf_objinit dc_Rdr_init_1 ml_Rdr_3 im_obj co_obj (Nat.le_of_ble_eq_true rfl) ?_
  refine wf_aload_n dc_Rdr_init_4 rfl ?_
  refine wf_bipush 121 dc_Rdr_init_5 (by decide) ?_
  refine wf_newarr (y := 0) (N := 121) (bk' := 13) (bn' := 941) dc_Rdr_init_7 rfl (by decide) ac_int (fun U h => h) rfl (by decide) (by decide) (by decide) (Nat.le_of_ble_eq_true rfl) (Nat.le_of_ble_eq_true rfl) (fun f1 f2 => ?_)
  refine wf_putr dc_Rdr_init_9 fl_Rdr_11 (Or.inr ⟨fi_Rdr_0, rfl⟩) rfl rfl rfl (by first | assumption | ((repeat rw [wf_up1_n (by omega)]); first | assumption | exact wf_up1_s)) ?_
  refine wf_aload_n dc_Rdr_init_12 rfl ?_
  refine wf_bipush 121 dc_Rdr_init_13 (by decide) ?_
  refine wf_newarr (y := 0) (N := 121) (bk' := 12) (bn' := 820) dc_Rdr_init_15 rfl (by decide) ac_int (fun U h => h) rfl (by decide) (by decide) (by decide) (Nat.le_of_ble_eq_true rfl) (Nat.le_of_ble_eq_true rfl) (fun f1 f2 => ?_)
  refine wf_putr dc_Rdr_init_17 fl_Rdr_15 (Or.inr ⟨fi_Rdr_1, rfl⟩) rfl rfl rfl (by first | assumption | ((repeat rw [wf_up1_n (by omega)]); first | assumption | exact wf_up1_s)) ?_
  refine wf_aload_n dc_Rdr_init_20 rfl ?_
  refine wf_bipush 121 dc_Rdr_init_21 (by decide) ?_
  refine wf_newarr (y := 0) (N := 121) (bk' := 11) (bn' := 699) dc_Rdr_init_23 rfl (by decide) ac_int (fun U h => h) rfl (by decide) (by decide) (by decide) (Nat.le_of_ble_eq_true rfl) (Nat.le_of_ble_eq_true rfl) (fun f1 f2 => ?_)
  refine wf_putr dc_Rdr_init_25 fl_Rdr_18 (Or.inr ⟨fi_Rdr_2, rfl⟩) rfl rfl rfl (by first | assumption | ((repeat rw [wf_up1_n (by omega)]); first | assumption | exact wf_up1_s)) ?_
  refine wf_aload_n dc_Rdr_init_28 rfl ?_
  refine wf_bipush 121 dc_Rdr_init_29 (by decide) ?_
  refine wf_newarr (y := 1) (N := 121) (bk' := 10) (bn' := 578) dc_Rdr_init_31 rfl (by decide) ac_boolean (fun U h => h) rfl (by decide) (by decide) (by decide) (Nat.le_of_ble_eq_true rfl) (Nat.le_of_ble_eq_true rfl) (fun f1 f2 => ?_)
  refine wf_putr dc_Rdr_init_33 fl_Rdr_21 (Or.inr ⟨fi_Rdr_3, rfl⟩) rfl rfl rfl (by first | assumption | ((repeat rw [wf_up1_n (by omega)]); first | assumption | exact wf_up1_s)) ?_
  refine wf_aload_n dc_Rdr_init_36 rfl ?_
  refine wf_bipush 121 dc_Rdr_init_37 (by decide) ?_
  refine wf_newarr (y := 2) (N := 121) (bk' := 9) (bn' := 457) dc_Rdr_init_39 rfl (by decide) ac_long (fun U h => h) rfl (by decide) (by decide) (by decide) (Nat.le_of_ble_eq_true rfl) (Nat.le_of_ble_eq_true rfl) (fun f1 f2 => ?_)
  refine wf_putr dc_Rdr_init_41 fl_Rdr_25 (Or.inr ⟨fi_Rdr_4, rfl⟩) rfl rfl rfl (by first | assumption | ((repeat rw [wf_up1_n (by omega)]); first | assumption | exact wf_up1_s)) ?_
  refine wf_aload_n dc_Rdr_init_44 rfl ?_
  refine wf_bipush 121 dc_Rdr_init_45 (by decide) ?_
  refine wf_newarr (y := 2) (N := 121) (bk' := 8) (bn' := 336) dc_Rdr_init_47 rfl (by decide) ac_long (fun U h => h) rfl (by decide) (by decide) (by decide) (Nat.le_of_ble_eq_true rfl) (Nat.le_of_ble_eq_true rfl) (fun f1 f2 => ?_)
  refine wf_putr dc_Rdr_init_49 fl_Rdr_29 (Or.inr ⟨fi_Rdr_5, rfl⟩) rfl rfl rfl (by first | assumption | ((repeat rw [wf_up1_n (by omega)]); first | assumption | exact wf_up1_s)) ?_
  refine wf_aload_n dc_Rdr_init_52 rfl ?_
  refine wf_new (bk' := 7) (bn' := 330) dc_Rdr_init_53 nw_Rdr_32 (Nat.le_of_ble_eq_true rfl) (Nat.le_of_ble_eq_true rfl) (fun f1 f2 => ?_)
  refine wf_dup dc_Rdr_init_56 rfl ?_
  refine wf_ii0 (y := mt_Exp_init.1) (cc := mt_Exp_init.2.1) (nL := mt_Exp_init.2.2.1) (bk' := 2) (bn' := 2) dc_Rdr_init_57 tg_Exp_init ml_Rdr_34 im_Exp_init rfl (Nat.le_of_ble_eq_true rfl) (by omega) (by omega) (c_Exp_init wf_up1_s) (by rintro X a1 a2 a3 a4 a5 ⟨q, -⟩; cases q) ?_
  rintro vo nx2 t2 r2 i2 g2 ⟨hvo, rfl, rfl, rfl, rfl, rfl⟩
  cases hvo
  refine wf_putr dc_Rdr_init_60 fl_Rdr_35 (Or.inl nf_Rdr_7) rfl rfl rfl (by first | assumption | ((repeat rw [wf_up1_n (by omega)]); first | assumption | exact wf_up1_s)) ?_
  refine wf_aload_n dc_Rdr_init_63 rfl ?_
  refine wf_new (bk' := 1) (bn' := 0) dc_Rdr_init_64 nw_Rdr_39 (Nat.le_of_ble_eq_true rfl) (Nat.le_of_ble_eq_true rfl) (fun f1 f2 => ?_)
  refine wf_dup dc_Rdr_init_67 rfl ?_
  refine wf_iconst 0 dc_Rdr_init_68 (by decide) ?_
  refine wf_ii1 (y := mt_Row_init.1) (cc := mt_Row_init.2.1) (nL := mt_Row_init.2.2.1) (bk' := 0) (bn' := 0) dc_Rdr_init_69 tg_Row_init ml_Rdr_41 im_Row_init rfl (Nat.le_of_ble_eq_true rfl) (by omega) (by omega) (k_Row_init (n := 0) rfl wf_up1_s (by omega)) (by rintro X a1 a2 a3 a4 a5 ⟨q, -⟩; cases q) ?_
  rintro vo nx2 t2 r2 i2 g2 ⟨hvo, rfl, rfl, rfl, rfl, rfl⟩
  cases hvo
  refine wf_putr dc_Rdr_init_72 fl_Rdr_44 (Or.inl nf_Rdr_8) rfl rfl rfl (by first | assumption | ((repeat rw [wf_up1_n (by omega)]); first | assumption | exact wf_up1_s)) ?_
  exact wf_return rfl dc_Rdr_init_75 ⟨rfl, rfl, rfl, rfl, rfl, rfl⟩
end
