/-! constructor: CutLine -/
def cu_K (m : Nat) : Nat → List (Nat × Wk)
  | 0 => [(m + 6, .inr (0, 120)), (m + 5, .inl 5), (m + 4, .inr (0, 0)), (m + 3, .inl 5), (m + 2, .inr (3, 30)), (m + 1, .inr (0, 120)), (m, .inl 5)]
  | k + 1 => (m + 7 + 2 * k + 1, .inr (0, 120)) :: (m + 7 + 2 * k, .inl 5) :: cu_K m k
def cu_W (o m : Nat) : Nat → List (Nat × Nat × Nat)
  | 0 => [(o, 4, m + 5), (m + 5, 0, m + 6), (o, 3, m + 3), (m + 3, 0, m + 4), (o, 2, m + 2), (o, 0, m), (m, 0, m + 1)]
  | k + 1 => (m + 2, k, m + 7 + 2 * k) :: (m + 7 + 2 * k, 0, m + 7 + 2 * k + 1) :: cu_W o m k
section
variable {l : Launch} {E : We} {n0 d nx : Nat} {t : Wt} {r : Wr} {i : Wi} {g : Wl}
theorem cu_K_o {b o m : Nat} (h : o < m) (k : Nat) : lg_t t b (cu_K m k) (b + o) = t (b + o) := by
  induction k with
  | zero =>
    show wf_up1 (wf_up1 (wf_up1 (wf_up1 (wf_up1 (wf_up1 (wf_up1 t _ _) _ _) _ _) _ _) _ _) _ _) _ _ (b + o) = _
    rw [wf_up1_n (by simp only; omega), wf_up1_n (by simp only; omega), wf_up1_n (by simp only; omega), wf_up1_n (by simp only; omega), wf_up1_n (by simp only; omega), wf_up1_n (by simp only; omega), wf_up1_n (by simp only; omega)]
  | succ k ih =>
    show wf_up1 (wf_up1 (lg_t t b (cu_K m k)) (b + (m + 7 + 2 * k)) _) (b + (m + 7 + 2 * k + 1)) _ (b + o) = _
    rw [wf_up1_n (by omega), wf_up1_n (by omega), ih]
theorem cu_K_f {b m : Nat} (k : Nat) : lg_t t b (cu_K m k) (b + (m + 2)) = some (.inr (3, 30)) := by
  induction k with
  | zero =>
    show wf_up1 (wf_up1 (wf_up1 (wf_up1 (wf_up1 _ _ _) _ _) _ _) _ _) _ _ (b + (m + 2)) = _
    rw [wf_up1_n (by simp only; omega), wf_up1_n (by simp only; omega), wf_up1_n (by simp only; omega), wf_up1_n (by simp only; omega), wf_up1_s]
  | succ k ih =>
    show wf_up1 (wf_up1 (lg_t t b (cu_K m k)) (b + (m + 7 + 2 * k)) _) (b + (m + 7 + 2 * k + 1)) _ (b + (m + 2)) = _
    rw [wf_up1_n (by omega), wf_up1_n (by omega), ih]
theorem cu_W_f {b o m : Nat} (h : o < m) (k : Nat) : lg_r r b (cu_W o m k) (b + o) 2 = some (b + (m + 2)) := by
  induction k with
  | zero =>
    show wf_up (wf_up (wf_up (wf_up (wf_up _ _ _ _) _ _ _) _ _ _) _ _ _) _ _ _ (b + o) 2 = _
    rw [wf_up_k (by simp only; omega), wf_up_a (by simp only; omega), wf_up_k (by simp only; omega), wf_up_a (by simp only; omega), wf_up_s]
  | succ k ih =>
    show wf_up (wf_up (lg_r r b (cu_W o m k)) (b + (m + 7 + 2 * k)) _ _) (b + (m + 2)) _ _ (b + o) 2 = _
    rw [wf_up_a (by omega), wf_up_a (by omega), ih]
theorem c_Cut_init {b o m : Nat} (ha : t (b + o) = some (.inl 1)) (hom : o < m) : Ct l E n0 mt_Cut_init (d + 2) 67 3936 [.ref (b + o)] (b + m) t r i g (fun v nx' t' r' i' g' => v = .inl none ∧ nx' = b + (m + 67) ∧ t' = lg_t t b (cu_K m 30) ∧ r' = lg_r r b (cu_W o m 30) ∧ i' = i ∧ g' = g) := by
  refine Ct.of (by decide) (Nat.le_of_ble_eq_true rfl) ?_
  have loop : ∀ (c k : Nat), k + c = 30 → Wf l E n0 mt_Cut_init (d + 2) 67 3936 (fun v nx' t' r' i' g' => v = .inl none ∧ nx' = b + (m + 67) ∧ t' = lg_t t b (cu_K m 30) ∧ r' = lg_r r b (cu_W o m 30) ∧ i' = i ∧ g' = g) (2 * c) (122 * c) 53 [(0, .ref (b + o)), (1, .int (nI k))] [] (b + (m + 7 + 2 * k)) (lg_t t b (cu_K m k)) (lg_r r b (cu_W o m k)) i g := by
    intro c
    induction c with
    | zero =>
      intro k hk
      have hk30 : k = 30 := by omega
      subst hk30
      refine wf_iload_n dc_Cut_init_53 rfl ?_
      refine wf_bipush 30 dc_Cut_init_54 (by decide) ?_
      refine wf_icmp_ge 80 dc_Cut_init_56 (by decide) (fun hc => ?_) (fun hc => absurd ((nI_leI (a := 30) (by omega) (by omega)).mpr (by omega)) hc)
      exact wf_return rfl dc_Cut_init_80 ⟨rfl, rfl, rfl, rfl, rfl, rfl⟩
    | succ c ih =>
      intro k hk
      have h1 := (cu_K_o (t := t) (b := b) hom k).trans ha
      have h2 := cu_K_f (t := t) (b := b) (m := m) k
      have h3 := cu_W_f (r := r) (b := b) hom k
      refine wf_iload_n dc_Cut_init_53 rfl ?_
      refine wf_bipush 30 dc_Cut_init_54 (by decide) ?_
      refine wf_icmp_ge 80 dc_Cut_init_56 (by decide) (fun hc => absurd ((nI_leI (a := 30) (by omega) (by omega)).mp hc) (by omega)) (fun hc => ?_)
      refine wf_aload_n dc_Cut_init_59 rfl ?_
      refine wf_getr dc_Cut_init_60 fl_Cut_20 rfl (by first | assumption | ((repeat rw [wf_up1_n (by omega)]); first | assumption | exact wf_up1_s)) (by first | assumption | ((repeat rw [wf_up1_n (by omega)]); first | assumption | exact wf_up1_s)) ?_
      refine wf_iload_n dc_Cut_init_63 rfl ?_
      refine wf_new (bk' := 2 * c + 1) (bn' := 122 * c + 120) dc_Cut_init_64 nw_Cut_9 (by omega) (by omega) (fun f1 f2 => ?_)
      refine wf_dup dc_Cut_init_67 rfl ?_
      refine wf_bipush 120 dc_Cut_init_68 (by decide) ?_
      refine wf_ii1 (y := mt_Row_init.1) (cc := mt_Row_init.2.1) (nL := mt_Row_init.2.2.1) (bk' := 2 * c) (bn' := 122 * c) dc_Cut_init_70 tg_Row_init ml_Cut_11 im_Row_init rfl (Nat.le_of_ble_eq_true rfl) (by omega) (by omega) (k_Row_init (n := 120) rfl wf_up1_s (by omega)) (by rintro X a1 a2 a3 a4 a5 ⟨q, -⟩; cases q) ?_
      rintro vo nx2 t2 r2 i2 g2 ⟨hvo, rfl, rfl, rfl, rfl, rfl⟩
      cases hvo
      refine wf_aastore (y := 3) (c := 5) dc_Cut_init_73 rfl ⟨_, rfl, rfl⟩ (by decide) (by first | assumption | ((repeat rw [wf_up1_n (by omega)]); first | assumption | exact wf_up1_s)) (by first | assumption | ((repeat rw [wf_up1_n (by omega)]); first | assumption | exact wf_up1_s)) (vp_in_nI (by omega) (by omega)) ?_
      rw [nI_clamp (by omega)]
      refine wf_iinc _ dc_Cut_init_74 rfl (nI_1 k) (by decide) ?_
      refine wf_goto 53 dc_Cut_init_77 (by decide) ?_
      have h := ih (k + 1) (by omega)
      refine Wf.to (L' := [(0, .ref (b + o)), (1, .int (nI (k + 1)))]) (by exact ⟨rfl, rfl, trivial⟩) ?_
      exact h
  refine wf_aload_n dc_Cut_init_0 rfl ?_
  refine wf_objinit dc_Cut_init_1 ml_Cut_3 im_obj co_obj (Nat.le_of_ble_eq_true rfl) ?_
  refine wf_aload_n dc_Cut_init_4 rfl ?_
  refine wf_new (bk' := 66) (bn' := 3934) dc_Cut_init_5 nw_Cut_9 (Nat.le_of_ble_eq_true rfl) (Nat.le_of_ble_eq_true rfl) (fun f1 f2 => ?_)
  refine wf_dup dc_Cut_init_8 rfl ?_
  refine wf_bipush 120 dc_Cut_init_9 (by decide) ?_
  refine wf_ii1 (y := mt_Row_init.1) (cc := mt_Row_init.2.1) (nL := mt_Row_init.2.2.1) (bk' := 65) (bn' := 3814) dc_Cut_init_11 tg_Row_init ml_Cut_11 im_Row_init rfl (Nat.le_of_ble_eq_true rfl) (by omega) (by omega) (k_Row_init (n := 120) rfl wf_up1_s (by omega)) (by rintro X a1 a2 a3 a4 a5 ⟨q, -⟩; cases q) ?_
  rintro vo nx2 t2 r2 i2 g2 ⟨hvo, rfl, rfl, rfl, rfl, rfl⟩
  cases hvo
  refine wf_putr dc_Cut_init_14 fl_Cut_14 (Or.inr ⟨fi_Cut_0, rfl⟩) rfl rfl rfl (by first | assumption | ((repeat rw [wf_up1_n (by omega)]); first | assumption | exact wf_up1_s)) ?_
  refine wf_aload_n dc_Cut_init_17 rfl ?_
  refine wf_bipush 30 dc_Cut_init_18 (by decide) ?_
  refine wf_anew (y := 3) (N := 30) (bk' := 64) (bn' := 3784) dc_Cut_init_20 rfl (by decide) cl_Cut_9 (by decide) (by decide) (by decide) (by decide) (Nat.le_of_ble_eq_true rfl) (Nat.le_of_ble_eq_true rfl) (fun f1 f2 => ?_)
  refine wf_putr dc_Cut_init_23 fl_Cut_20 (Or.inr ⟨fi_Cut_2, rfl⟩) rfl rfl rfl (by first | assumption | ((repeat rw [wf_up1_n (by omega)]); first | assumption | exact wf_up1_s)) ?_
  refine wf_aload_n dc_Cut_init_26 rfl ?_
  refine wf_new (bk' := 63) (bn' := 3782) dc_Cut_init_27 nw_Cut_9 (Nat.le_of_ble_eq_true rfl) (Nat.le_of_ble_eq_true rfl) (fun f1 f2 => ?_)
  refine wf_dup dc_Cut_init_30 rfl ?_
  refine wf_iconst 0 dc_Cut_init_31 (by decide) ?_
  refine wf_ii1 (y := mt_Row_init.1) (cc := mt_Row_init.2.1) (nL := mt_Row_init.2.2.1) (bk' := 62) (bn' := 3782) dc_Cut_init_32 tg_Row_init ml_Cut_11 im_Row_init rfl (Nat.le_of_ble_eq_true rfl) (by omega) (by omega) (k_Row_init (n := 0) rfl wf_up1_s (by omega)) (by rintro X a1 a2 a3 a4 a5 ⟨q, -⟩; cases q) ?_
  rintro vo nx2 t2 r2 i2 g2 ⟨hvo, rfl, rfl, rfl, rfl, rfl⟩
  cases hvo
  refine wf_putr dc_Cut_init_35 fl_Cut_24 (Or.inr ⟨fi_Cut_3, rfl⟩) rfl rfl rfl (by first | assumption | ((repeat rw [wf_up1_n (by omega)]); first | assumption | exact wf_up1_s)) ?_
  refine wf_aload_n dc_Cut_init_38 rfl ?_
  refine wf_new (bk' := 61) (bn' := 3780) dc_Cut_init_39 nw_Cut_9 (Nat.le_of_ble_eq_true rfl) (Nat.le_of_ble_eq_true rfl) (fun f1 f2 => ?_)
  refine wf_dup dc_Cut_init_42 rfl ?_
  refine wf_bipush 120 dc_Cut_init_43 (by decide) ?_
  refine wf_ii1 (y := mt_Row_init.1) (cc := mt_Row_init.2.1) (nL := mt_Row_init.2.2.1) (bk' := 60) (bn' := 3660) dc_Cut_init_45 tg_Row_init ml_Cut_11 im_Row_init rfl (Nat.le_of_ble_eq_true rfl) (by omega) (by omega) (k_Row_init (n := 120) rfl wf_up1_s (by omega)) (by rintro X a1 a2 a3 a4 a5 ⟨q, -⟩; cases q) ?_
  rintro vo nx2 t2 r2 i2 g2 ⟨hvo, rfl, rfl, rfl, rfl, rfl⟩
  cases hvo
  refine wf_putr dc_Cut_init_48 fl_Cut_27 (Or.inr ⟨fi_Cut_4, rfl⟩) rfl rfl rfl (by first | assumption | ((repeat rw [wf_up1_n (by omega)]); first | assumption | exact wf_up1_s)) ?_
  refine wf_iconst 0 dc_Cut_init_51 (by decide) ?_
  refine wf_istore_n dc_Cut_init_52 (by decide) ?_
  exact Wf.to (by exact ⟨rfl, rfl, trivial⟩) (loop 30 0 rfl)
end
