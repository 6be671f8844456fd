/-! constructor: LineRules: the layout of its cells from a base b -/
theorem lg_t_ap {t : Wt} {b : Nat} {K K' : List (Nat × Wk)} : lg_t (lg_t t b K) b K' = lg_t t b (K' ++ K) := by
  induction K' with
  | nil => rfl
  | cons q K' ih => show wf_up1 (lg_t (lg_t t b K) b K') _ _ = wf_up1 (lg_t t b (K' ++ K)) _ _; rw [ih]
theorem lg_r_ap {r : Wr} {b : Nat} {K K' : List (Nat × Nat × Nat)} : lg_r (lg_r r b K) b K' = lg_r r b (K' ++ K) := by
  induction K' with
  | nil => rfl
  | cons q K' ih => show wf_up (lg_r (lg_r r b K) b K') _ _ _ = wf_up (lg_r r b (K' ++ K)) _ _ _; rw [ih]
theorem lg_i_ap {i : Wi} {b : Nat} {K K' : List (Nat × Nat × Int32)} : lg_i (lg_i i b K) b K' = lg_i i b (K' ++ K) := by
  induction K' with
  | nil => rfl
  | cons q K' ih => show wf_up (lg_i (lg_i i b K) b K') _ _ _ = wf_up (lg_i i b (K' ++ K)) _ _ _; rw [ih]
theorem lg_t_n {t : Wt} {b o : Nat} {K : List (Nat × Wk)} (h : ∀ q ∈ K, q.1 ≠ o) : lg_t t b K (b + o) = t (b + o) := lg_t_o (fun q hq z => h q hq (by omega))
theorem lg_t_nl {t : Wt} {b o : Nat} {F K : List (Nat × Wk)} (h : ∀ q ∈ F, q.1 ≠ o) : lg_t t b (F ++ K) (b + o) = lg_t t b K (b + o) := by
  rw [← lg_t_ap]
  exact lg_t_n h
theorem lg_r_nl {r : Wr} {b o k : Nat} {F K : List (Nat × Nat × Nat)} (h : ∀ q ∈ F, q.1 ≠ o) : lg_r r b (F ++ K) (b + o) k = lg_r r b K (b + o) k := by
  rw [← lg_r_ap]
  exact lg_r_o (fun q hq z => h q hq (by omega))
def lr_K1 : List (Nat × Wk) := [(5, .inl 4), (4, .inr (4, 6)), (3, .inr (3, 6)), (2, .inr (0, 120)), (1, .inl 5)]
def lr_W1 : List (Nat × Nat × Nat) := [(0, 2, 4), (0, 1, 3), (0, 0, 1), (1, 0, 2)]
def lr_K2 : List (Nat × Wk) := (21, .inl 1) :: (20, .inr (5, 12)) :: (rd_K 6 ++ lr_K1)
def lr_W2 : List (Nat × Nat × Nat) := (0, 4, 20) :: (0, 3, 5) :: (rd_W 5 6 ++ lr_W1)
def lr_K3 : List (Nat × Wk) := (96, .inr (0, 11)) :: (95, .inl 5) :: (94, .inr (0, 1500)) :: (93, .inl 3) :: (92, .inr (0, 40)) :: (91, .inr (3, 40)) :: (90, .inl 7) :: (89, .inr (0, 8)) :: (cu_K 22 30 ++ lr_K2)
def lr_W3 : List (Nat × Nat × Nat) := (0, 9, 95) :: (95, 0, 96) :: (0, 8, 93) :: (93, 0, 94) :: (0, 7, 90) :: (90, 1, 92) :: (90, 0, 91) :: (0, 6, 89) :: (0, 5, 21) :: (cu_W 21 22 30 ++ lr_W2)
def lr_I3 : List (Nat × Nat × Int32) := (0, 13, -1) :: (0, 12, 32) :: rd_L 6
def tx_K : Nat → List (Nat × Wk)
  | 0 => []
  | k + 1 => (97 + 2 * k + 1, .inr (0, 120)) :: (97 + 2 * k, .inl 5) :: tx_K k
def tx_W : Nat → List (Nat × Nat × Nat)
  | 0 => []
  | k + 1 => (3, k, 97 + 2 * k) :: (97 + 2 * k, 0, 97 + 2 * k + 1) :: tx_W k
def xx_K : Nat → List (Nat × Wk)
  | 0 => []
  | k + 1 => (109 + 6 * k + 5, .inr (1, 4)) :: (109 + 6 * k + 4, .inr (2, 4)) :: (109 + 6 * k + 3, .inr (2, 4)) :: (109 + 6 * k + 2, .inr (2, 60)) :: (109 + 6 * k + 1, .inr (2, 256)) :: (109 + 6 * k, .inl 2) :: xx_K k
def xx_W : Nat → List (Nat × Nat × Nat)
  | 0 => []
  | k + 1 => (4, k, 109 + 6 * k) :: (109 + 6 * k, 4, 109 + 6 * k + 5) :: (109 + 6 * k, 3, 109 + 6 * k + 4) :: (109 + 6 * k, 2, 109 + 6 * k + 3) :: (109 + 6 * k, 1, 109 + 6 * k + 2) :: (109 + 6 * k, 0, 109 + 6 * k + 1) :: xx_W k
def xx_I : Nat → List (Nat × Nat × Int32)
  | 0 => []
  | k + 1 => (109 + 6 * k + 5, 3, 1) :: (109 + 6 * k + 5, 2, 1) :: (109 + 6 * k + 5, 1, 1) :: (109 + 6 * k + 5, 0, 1) :: xx_I k
def ry_K : Nat → List (Nat × Wk)
  | 0 => []
  | k + 1 => (145 + 4 * k + 3, .inr (0, 10)) :: (145 + 4 * k + 2, .inr (0, 10)) :: (145 + 4 * k + 1, .inr (0, 10)) :: (145 + 4 * k, .inl 6) :: ry_K k
def ry_W : Nat → List (Nat × Nat × Nat)
  | 0 => []
  | k + 1 => (20, k, 145 + 4 * k) :: (145 + 4 * k, 5, 145 + 4 * k + 3) :: (145 + 4 * k, 4, 145 + 4 * k + 2) :: (145 + 4 * k, 3, 145 + 4 * k + 1) :: ry_W k
def lr_K : List (Nat × Wk) := ry_K 12 ++ (xx_K 6 ++ (tx_K 6 ++ lr_K3))
def lr_W : List (Nat × Nat × Nat) := ry_W 12 ++ (xx_W 6 ++ (tx_W 6 ++ lr_W3))
def lr_I : List (Nat × Nat × Int32) := xx_I 6 ++ lr_I3
theorem tx_K_n {o : Nat} (h : o < 97) (k : Nat) : ∀ q ∈ tx_K k, q.1 ≠ o := by
  induction k with
  | zero => exact fun q hq => absurd hq (List.not_mem_nil)
  | succ k ih =>
    intro q hq
    rcases List.mem_cons.mp hq with rfl | hq
    · simp only; omega
    rcases List.mem_cons.mp hq with rfl | hq
    · simp only; omega
    exact ih q hq
theorem tx_W_n {o : Nat} (h : o < 97) (h3 : o ≠ 3) (k : Nat) : ∀ q ∈ tx_W k, q.1 ≠ o := by
  induction k with
  | zero => exact fun q hq => absurd hq (List.not_mem_nil)
  | succ k ih =>
    intro q hq
    rcases List.mem_cons.mp hq with rfl | hq
    · simp only; omega
    rcases List.mem_cons.mp hq with rfl | hq
    · simp only; omega
    exact ih q hq
theorem xx_K_n {o : Nat} (h : o < 109) (k : Nat) : ∀ q ∈ xx_K k, q.1 ≠ o := by
  induction k with
  | zero => exact fun q hq => absurd hq (List.not_mem_nil)
  | succ k ih =>
    intro q hq
    rcases List.mem_cons.mp hq with rfl | hq
    · simp only; omega
    rcases List.mem_cons.mp hq with rfl | hq
    · simp only; omega
    rcases List.mem_cons.mp hq with rfl | hq
    · simp only; omega
    rcases List.mem_cons.mp hq with rfl | hq
    · simp only; omega
    rcases List.mem_cons.mp hq with rfl | hq
    · simp only; omega
    rcases List.mem_cons.mp hq with rfl | hq
    · simp only; omega
    exact ih q hq
theorem xx_W_n {o : Nat} (h : o < 109) (h4 : o ≠ 4) (k : Nat) : ∀ q ∈ xx_W k, q.1 ≠ o := by
  induction k with
  | zero => exact fun q hq => absurd hq (List.not_mem_nil)
  | succ k ih =>
    intro q hq
    rcases List.mem_cons.mp hq with rfl | hq
    · simp only; omega
    rcases List.mem_cons.mp hq with rfl | hq
    · simp only; omega
    rcases List.mem_cons.mp hq with rfl | hq
    · simp only; omega
    rcases List.mem_cons.mp hq with rfl | hq
    · simp only; omega
    rcases List.mem_cons.mp hq with rfl | hq
    · simp only; omega
    rcases List.mem_cons.mp hq with rfl | hq
    · simp only; omega
    exact ih q hq
theorem ry_K_n {o : Nat} (h : o < 145) (k : Nat) : ∀ q ∈ ry_K k, q.1 ≠ o := by
  induction k with
  | zero => exact fun q hq => absurd hq (List.not_mem_nil)
  | succ k ih =>
    intro q hq
    rcases List.mem_cons.mp hq with rfl | hq
    · simp only; omega
    rcases List.mem_cons.mp hq with rfl | hq
    · simp only; omega
    rcases List.mem_cons.mp hq with rfl | hq
    · simp only; omega
    rcases List.mem_cons.mp hq with rfl | hq
    · simp only; omega
    exact ih q hq
theorem ry_W_n {o : Nat} (h : o < 145) (h4 : o ≠ 20) (k : Nat) : ∀ q ∈ ry_W k, q.1 ≠ o := by
  induction k with
  | zero => exact fun q hq => absurd hq (List.not_mem_nil)
  | succ k ih =>
    intro q hq
    rcases List.mem_cons.mp hq with rfl | hq
    · simp only; omega
    rcases List.mem_cons.mp hq with rfl | hq
    · simp only; omega
    rcases List.mem_cons.mp hq with rfl | hq
    · simp only; omega
    rcases List.mem_cons.mp hq with rfl | hq
    · simp only; omega
    exact ih q hq
section
variable {l : Launch} {E : We} {n0 d nx : Nat} {t : Wt} {r : Wr} {i : Wi} {g : Wl}
theorem lr_K3_0 {b : Nat} (h : t (b + 0) = some (.inl 0)) : lg_t t b lr_K3 (b + 0) = some (.inl 0) := (lg_t_n (by decide +kernel)).trans h
/-- the last loop: rules -/
theorem c_LR_l3 {b : Nat} (ha : t (b + 0) = some (.inl 0)) (c : Nat) : ∀ k, k + c = 12 → Wf l E n0 mt_LR_init (d + 3) 192 9946 (fun v nx' t' r' i' g' => v = .inl none ∧ nx' = b + 193 ∧ t' = lg_t t b lr_K ∧ r' = lg_r r b lr_W ∧ i' = lg_i i b lr_I ∧ g' = g) (4 * c) (37 * c) 178 [(0, .ref (b + 0)), (1, .int (nI k))] [] (b + (145 + 4 * k)) (lg_t t b (ry_K k ++ (xx_K 6 ++ (tx_K 6 ++ lr_K3)))) (lg_r r b (ry_W k ++ (xx_W 6 ++ (tx_W 6 ++ lr_W3)))) (lg_i i b lr_I) g := by
  induction c with
  | zero =>
    intro k hk
    have hk12 : k = 12 := by omega
    subst hk12
    refine wf_iload_n dc_LR_init_178 rfl ?_
    refine wf_bipush 12 dc_LR_init_179 (by decide) ?_
    refine wf_icmp_ge 203 dc_LR_init_181 (by decide) (fun hc => ?_) (fun hc => absurd ((nI_leI (a := 12) (by omega) (by omega)).mpr (by omega)) hc)
    exact wf_return rfl dc_LR_init_203 ⟨rfl, rfl, rfl, rfl, rfl, rfl⟩
  | succ c ih =>
    intro k hk
    have h1 : lg_t t b (ry_K k ++ (xx_K 6 ++ (tx_K 6 ++ lr_K3))) (b + 0) = some (.inl 0) := by
      rw [lg_t_nl (ry_K_n (by omega) k), lg_t_nl (xx_K_n (by omega) 6), lg_t_nl (tx_K_n (by omega) 6)]
      exact lr_K3_0 ha
    have h2 : lg_t t b (ry_K k ++ (xx_K 6 ++ (tx_K 6 ++ lr_K3))) (b + 20) = some (.inr (5, 12)) := by
      rw [lg_t_nl (ry_K_n (by omega) k), lg_t_nl (xx_K_n (by omega) 6), lg_t_nl (tx_K_n (by omega) 6)]
      exact lg_t_g (q := (20, .inr (5, 12))) (by decide +kernel)
    have h3 : lg_r r b (ry_W k ++ (xx_W 6 ++ (tx_W 6 ++ lr_W3))) (b + 0) 4 = some (b + 20) := by
      rw [lg_r_nl (ry_W_n (by omega) (by omega) k), lg_r_nl (xx_W_n (by omega) (by omega) 6), lg_r_nl (tx_W_n (by omega) (by omega) 6)]
      exact lg_r_g (q := (0, 4, 20)) (by decide +kernel)
    refine wf_iload_n dc_LR_init_178 rfl ?_
    refine wf_bipush 12 dc_LR_init_179 (by decide) ?_
    refine wf_icmp_ge 203 dc_LR_init_181 (by decide) (fun hc => absurd ((nI_leI (a := 12) (by omega) (by omega)).mp hc) (by omega)) (fun hc => ?_)
    refine wf_aload_n dc_LR_init_184 rfl ?_
    refine wf_getr dc_LR_init_185 fl_LR_37 rfl (by first | assumption | ((repeat rw [wf_up1_n (by omega)]); first | assumption | exact wf_up1_s)) (by first | assumption | ((repeat rw [wf_up1_n (by omega)]); first | assumption | exact wf_up1_s)) ?_
    refine wf_iload_n dc_LR_init_188 rfl ?_
    refine wf_new (bk' := 4 * c + 3) (bn' := 37 * c + 30) dc_LR_init_189 nw_LR_35 (by omega) (by omega) (fun f1 f2 => ?_)
    refine wf_dup dc_LR_init_192 rfl ?_
    refine wf_ii0 (y := mt_Rul_init.1) (cc := mt_Rul_init.2.1) (nL := mt_Rul_init.2.2.1) (bk' := 4 * c) (bn' := 37 * c) dc_LR_init_193 tg_Rul_init ml_LR_77 im_Rul_init rfl (Nat.le_of_ble_eq_true rfl) (by omega) (by omega) (c_Rul_init wf_up1_s) (by rintro X a1 a2 a3 a4 a5 ⟨q, -⟩; cases q) ?_
    rintro vo nx2 t2 r2 i2 g2 ⟨hvo, rfl, rfl, rfl, rfl, rfl⟩
    cases hvo
    refine wf_aastore (y := 5) (c := 6) dc_LR_init_196 rfl ⟨_, rfl, rfl⟩ (by decide) (by first | assumption | ((repeat rw [wf_up1_n (by omega)]); first | assumption | exact wf_up1_s)) (by first | assumption | ((repeat rw [wf_up1_n (by omega)]); first | assumption | exact wf_up1_s)) (vp_in_nI (by omega) (by omega)) ?_
    rw [nI_clamp (by omega)]
    refine wf_iinc _ dc_LR_init_197 rfl (nI_1 k) (by decide) ?_
    refine wf_goto 178 dc_LR_init_200 (by decide) ?_
    have h := ih (k + 1) (by omega)
    refine Wf.to (L' := [(0, .ref (b + 0)), (1, .int (nI (k + 1)))]) (by exact ⟨rfl, rfl, trivial⟩) ?_
    exact h
end
