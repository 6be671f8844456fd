/-! constructor: LineRules: the layout of its cells from a base b -/
theorem lg_t_ap {t : Wt} {b : Nat} {K K' : List (Nat × Wk)} : lg_t (lg_t t b K) b K' = lg_t t b (K' ++ K) := by
  induction K' with
  | nil => rfl
  | cons q K' ih => show wf_up1 (lg_t (lg_t t b K) b K') _ _ = wf_up1 (lg_t t b (K' ++ K)) _ _; rw [ih]
theorem lg_r_ap {r : Wr} {b : Nat} {K K' : List (Nat × Nat × Nat)} : lg_r (lg_r r b K) b K' = lg_r r b (K' ++ K) := by
  induction K' with
  | nil => rfl
  | cons q K' ih => show wf_up (lg_r (lg_r r b K) b K') _ _ _ = wf_up (lg_r r b (K' ++ K)) _ _ _; rw [ih]
theorem lg_i_ap {i : Wi} {b : Nat} {K K' : List (Nat × Nat × Int32)} : lg_i (lg_i i b K) b K' = lg_i i b (K' ++ K) := by
  induction K' with
  | nil => rfl
  | cons q K' ih => show wf_up (lg_i (lg_i i b K) b K') _ _ _ = wf_up (lg_i i b (K' ++ K)) _ _ _; rw [ih]
theorem lg_t_n {t : Wt} {b o : Nat} {K : List (Nat × Wk)} (h : ∀ q ∈ K, q.1 ≠ o) : lg_t t b K (b + o) = t (b + o) := lg_t_o (fun q hq z => h q hq (by omega))
theorem lg_t_nl {t : Wt} {b o : Nat} {F K : List (Nat × Wk)} (h : ∀ q ∈ F, q.1 ≠ o) : lg_t t b (F ++ K) (b + o) = lg_t t b K (b + o) := by
  rw [← lg_t_ap]
  exact lg_t_n h
theorem lg_r_nl {r : Wr} {b o k : Nat} {F K : List (Nat × Nat × Nat)} (h : ∀ q ∈ F, q.1 ≠ o) : lg_r r b (F ++ K) (b + o) k = lg_r r b K (b + o) k := by
  rw [← lg_r_ap]
  exact lg_r_o (fun q hq z => h q hq (by omega))
def lr_K1 : List (Nat × Wk) := [(5, .inl 4), (4, .inr (4, 6)), (3, .inr (3, 6)), (2, .inr (0, 120)), (1, .inl 5)]
def lr_W1 : List (Nat × Nat × Nat) := [(0, 2, 4), (0, 1, 3), (0, 0, 1), (1, 0, 2)]
def lr_K2 : List (Nat × Wk) := (21, .inl 1) :: (20, .inr (5, 12)) :: (rd_K 6 ++ lr_K1)
def lr_W2 : List (Nat × Nat × Nat) := (0, 4, 20) :: (0, 3, 5) :: (rd_W 5 6 ++ lr_W1)
def lr_K3 : List (Nat × Wk) := (96, .inr (0, 11)) :: (95, .inl 5) :: (94, .inr (0, 1500)) :: (93, .inl 3) :: (92, .inr (0, 40)) :: (91, .inr (3, 40)) :: (90, .inl 7) :: (89, .inr (0, 8)) :: (cu_K 22 30 ++ lr_K2)
def lr_W3 : List (Nat × Nat × Nat) := (0, 9, 95) :: (95, 0, 96) :: (0, 8, 93) :: (93, 0, 94) :: (0, 7, 90) :: (90, 1, 92) :: (90, 0, 91) :: (0, 6, 89) :: (0, 5, 21) :: (cu_W 21 22 30 ++ lr_W2)
def lr_I3 : List (Nat × Nat × Int32) := (0, 13, -1) :: (0, 12, 32) :: rd_L 6
def tx_K : Nat → List (Nat × Wk)
  | 0 => []
  | k + 1 => (97 + 2 * k + 1, .inr (0, 120)) :: (97 + 2 * k, .inl 5) :: tx_K k
def tx_W : Nat → List (Nat × Nat × Nat)
  | 0 => []
  | k + 1 => (3, k, 97 + 2 * k) :: (97 + 2 * k, 0, 97 + 2 * k + 1) :: tx_W k
def xx_K : Nat → List (Nat × Wk)
  | 0 => []
  | k + 1 => (109 + 6 * k + 5, .inr (1, 4)) :: (109 + 6 * k + 4, .inr (2, 4)) :: (109 + 6 * k + 3, .inr (2, 4)) :: (109 + 6 * k + 2, .inr (2, 60)) :: (109 + 6 * k + 1, .inr (2, 256)) :: (109 + 6 * k, .inl 2) :: xx_K k
def xx_W : Nat → List (Nat × Nat × Nat)
  | 0 => []
  | k + 1 => (4, k, 109 + 6 * k) :: (109 + 6 * k, 4, 109 + 6 * k + 5) :: (109 + 6 * k, 3, 109 + 6 * k + 4) :: (109 + 6 * k, 2, 109 + 6 * k + 3) :: (109 + 6 * k, 1, 109 + 6 * k + 2) :: (109 + 6 * k, 0, 109 + 6 * k + 1) :: xx_W k
def xx_I : Nat → List (Nat × Nat × Int32)
  | 0 => []
  | k + 1 => (109 + 6 * k + 5, 3, 1) :: (109 + 6 * k + 5, 2, 1) :: (109 + 6 * k + 5, 1, 1) :: (109 + 6 * k + 5, 0, 1) :: xx_I k
def ry_K : Nat → List (Nat × Wk)
  | 0 => []
  | k + 1 => (145 + 4 * k + 3, .inr (0, 10)) :: (145 + 4 * k + 2, .inr (0, 10)) :: (145 + 4 * k + 1, .inr (0, 10)) :: (145 + 4 * k, .inl 6) :: ry_K k
def ry_W : Nat → List (Nat × Nat × Nat)
  | 0 => []
  | k + 1 => (20, k, 145 + 4 * k) :: (145 + 4 * k, 5, 145 + 4 * k + 3) :: (145 + 4 * k, 4, 145 + 4 * k + 2) :: (145 + 4 * k, 3, 145 + 4 * k + 1) :: ry_W k
def lr_K : List (Nat × Wk) := ry_K 12 ++ (xx_K 6 ++ (tx_K 6 ++ lr_K3))
def lr_W : List (Nat × Nat × Nat) := ry_W 12 ++ (xx_W 6 ++ (tx_W 6 ++ lr_W3))
def lr_I : List (Nat × Nat × Int32) := xx_I 6 ++ lr_I3
theorem tx_K_n {o : Nat} (h : o < 97) (k : Nat) : ∀ q ∈ tx_K k, q.1 ≠ o := by
  induction k with
  | zero => exact fun q hq => absurd hq (List.not_mem_nil)
  | succ k ih =>
    intro q hq
    rcases List.mem_cons.mp hq with rfl | hq
    · simp only; omega
    rcases List.mem_cons.mp hq with rfl | hq
    · simp only; omega
    exact ih q hq
theorem tx_W_n {o : Nat} (h : o < 97) (h3 : o ≠ 3) (k : Nat) : ∀ q ∈ tx_W k, q.1 ≠ o := by
  induction k with
  | zero => exact fun q hq => absurd hq (List.not_mem_nil)
  | succ k ih =>
    intro q hq
    rcases List.mem_cons.mp hq with rfl | hq
    · simp only; omega
    rcases List.mem_cons.mp hq with rfl | hq
    · simp only; omega
    exact ih q hq
theorem xx_K_n {o : Nat} (h : o < 109) (k : Nat) : ∀ q ∈ xx_K k, q.1 ≠ o := by
  induction k with
  | zero => exact fun q hq => absurd hq (List.not_mem_nil)
  | succ k ih =>
    intro q hq
    rcases List.mem_cons.mp hq with rfl | hq
    · simp only; omega
    rcases List.mem_cons.mp hq with rfl | hq
    · simp only; omega
    rcases List.mem_cons.mp hq with rfl | hq
    · simp only; omega
    rcases List.mem_cons.mp hq with rfl | hq
    · simp only; omega
    rcases List.mem_cons.mp hq with rfl | hq
    · simp only; omega
    rcases List.mem_cons.mp hq with rfl | hq
    · simp only; omega
    exact ih q hq
theorem xx_W_n {o : Nat} (h : o < 109) (h4 : o ≠ 4) (k : Nat) : ∀ q ∈ xx_W k, q.1 ≠ o := by
  induction k with
  | zero => exact fun q hq => absurd hq (List.not_mem_nil)
  | succ k ih =>
    intro q hq
    rcases List.mem_cons.mp hq with rfl | hq
    · simp only; omega
    rcases List.mem_cons.mp hq with rfl | hq
    · simp only; omega
    rcases List.mem_cons.mp hq with rfl | hq
    · simp only; omega
    rcases List.mem_cons.mp hq with rfl | hq
    · simp only; omega
    rcases List.mem_cons.mp hq with rfl | hq
    · simp only; omega
    rcases List.mem_cons.mp hq with rfl | hq
    · simp only; omega
    exact ih q hq
theorem ry_K_n {o : Nat} (h : o < 145) (k : Nat) : ∀ q ∈ ry_K k, q.1 ≠ o := by
  induction k with
  | zero => exact fun q hq => absurd hq (List.not_mem_nil)
  | succ k ih =>
    intro q hq
    rcases List.mem_cons.mp hq with rfl | hq
    · simp only; omega
    rcases List.mem_cons.mp hq with rfl | hq
    · simp only; omega
    rcases List.mem_cons.mp hq with rfl | hq
    · simp only; omega
    rcases List.mem_cons.mp hq with rfl | hq
    · simp only; omega
    exact ih q hq
theorem ry_W_n {o : Nat} (h : o < 145) (h4 : o ≠ 20) (k : Nat) : ∀ q ∈ ry_W k, q.1 ≠ o := by
  induction k with
  | zero => exact fun q hq => absurd hq (List.not_mem_nil)
  | succ k ih =>
    intro q hq
    rcases List.mem_cons.mp hq with rfl | hq
    · simp only; omega
    rcases List.mem_cons.mp hq with rfl | hq
    · simp only; omega
    rcases List.mem_cons.mp hq with rfl | hq
    · simp only; omega
    rcases List.mem_cons.mp hq with rfl | hq
    · simp only; omega
    exact ih q hq
section
variable {l : Launch} {E : We} {n0 d nx : Nat} {t : Wt} {r : Wr} {i : Wi} {g : Wl}
theorem lr_K3_0 {b : Nat} (h : t (b + 0) = some (.inl 0)) : lg_t t b lr_K3 (b + 0) = some (.inl 0) := (lg_t_n (by decide +kernel)).trans h
/-- the last loop: rules -/
theorem c_LR_l3 {b : Nat} (ha : t (b + 0) = some (.inl 0)) (c : Nat) : ∀ k, k + c = 12 → Wf l E n0 mt_LR_init (d + 3) 192 9946 (fun v nx' t' r' i' g' => v = .inl none ∧ nx' = b + 193 ∧ t' = lg_t t b lr_K ∧ r' = lg_r r b lr_W ∧ i' = lg_i i b lr_I ∧ g' = g) (4 * c) (37 * c) 178 [(0, .ref (b + 0)), (1, .int (nI k))] [] (b + (145 + 4 * k)) (lg_t t b (ry_K k ++ (xx_K 6 ++ (tx_K 6 ++ lr_K3)))) (lg_r r b (ry_W k ++ (xx_W 6 ++ (tx_W 6 ++ lr_W3)))) (lg_i i b lr_I) g := by
  induction c with
  | zero =>
    intro k hk
    have hk12 : k = 12 := by omega
    subst hk12
    refine wf_iload_n dc_LR_init_178 rfl ?_
    refine wf_bipush 12 dc_LR_init_179 (by decide) ?_
    refine wf_icmp_ge 203 dc_LR_init_181 (by decide) (fun hc => ?_) (fun hc => absurd ((nI_leI (a := 12) (by omega) (by omega)).mpr (by omega)) hc)
    exact wf_return rfl dc_LR_init_203 ⟨rfl, rfl, rfl, rfl, rfl, rfl⟩
  | succ c ih =>
    intro k hk
    have h1 : lg_t t b (ry_K k ++ (xx_K 6 ++ (tx_K 6 ++ lr_K3))) (b + 0) = some (.inl 0) := by
      rw [lg_t_nl (ry_K_n (by omega) k), lg_t_nl (xx_K_n (by omega) 6), lg_t_nl (tx_K_n (by omega) 6)]
      exact lr_K3_0 ha
    have h2 : lg_t t b (ry_K k ++ (xx_K 6 ++ (tx_K 6 ++ lr_K3))) (b + 20) = some (.inr (5, 12)) := by
      rw [lg_t_nl (ry_K_n (by omega) k), lg_t_nl (xx_K_n (by omega) 6), lg_t_nl (tx_K_n (by omega) 6)]
      exact lg_t_g (q := (20, .inr (5, 12))) (by decide +kernel)
    have h3 : lg_r r b (ry_W k ++ (xx_W 6 ++ (tx_W 6 ++ lr_W3))) (b + 0) 4 = some (b + 20) := by
      rw [lg_r_nl (ry_W_n (by omega) (by omega) k), lg_r_nl (xx_W_n (by omega) (by omega) 6), lg_r_nl (tx_W_n (by omega) (by omega) 6)]
      exact lg_r_g (q := (0, 4, 20)) (by decide +kernel)
    refine wf_iload_n dc_LR_init_178 rfl ?_
    refine wf_bipush 12 dc_LR_init_179 (by decide) ?_
    refine wf_icmp_ge 203 dc_LR_init_181 (by decide) (fun hc => absurd ((nI_leI (a := 12) (by omega) (by omega)).mp hc) (by omega)) (fun hc => ?_)
    refine wf_aload_n dc_LR_init_184 rfl ?_
    refine wf_getr dc_LR_init_185 fl_LR_37 rfl (by first | assumption | ((repeat rw [wf_up1_n (by omega)]); first | assumption | exact wf_up1_s)) (by first | assumption | ((repeat rw [wf_up1_n (by omega)]); first | assumption | exact wf_up1_s)) ?_
    refine wf_iload_n dc_LR_init_188 rfl ?_
    refine wf_new (bk' := 4 * c + 3) (bn' := 37 * c + 30) dc_LR_init_189 nw_LR_35 (by omega) (by omega) (fun f1 f2 => ?_)
    refine wf_dup dc_LR_init_192 rfl ?_
    refine wf_ii0 (y := mt_Rul_init.1) (cc := mt_Rul_init.2.1) (nL := mt_Rul_init.2.2.1) (bk' := 4 * c) (bn' := 37 * c) dc_LR_init_193 tg_Rul_init ml_LR_77 im_Rul_init rfl (Nat.le_of_ble_eq_true rfl) (by omega) (by omega) (c_Rul_init wf_up1_s) (by rintro X a1 a2 a3 a4 a5 ⟨q, -⟩; cases q) ?_
    rintro vo nx2 t2 r2 i2 g2 ⟨hvo, rfl, rfl, rfl, rfl, rfl⟩
    cases hvo
    refine wf_aastore (y := 5) (c := 6) dc_LR_init_196 rfl ⟨_, rfl, rfl⟩ (by decide) (by first | assumption | ((repeat rw [wf_up1_n (by omega)]); first | assumption | exact wf_up1_s)) (by first | assumption | ((repeat rw [wf_up1_n (by omega)]); first | assumption | exact wf_up1_s)) (vp_in_nI (by omega) (by omega)) ?_
    rw [nI_clamp (by omega)]
    refine wf_iinc _ dc_LR_init_197 rfl (nI_1 k) (by decide) ?_
    refine wf_goto 178 dc_LR_init_200 (by decide) ?_
    have h := ih (k + 1) (by omega)
    refine Wf.to (L' := [(0, .ref (b + 0)), (1, .int (nI (k + 1)))]) (by exact ⟨rfl, rfl, trivial⟩) ?_
    exact h
/-- the loop of the expressions -/
theorem c_LR_l2 {b : Nat} (ha : t (b + 0) = some (.inl 0)) (c : Nat) : ∀ k, k + c = 6 → Wf l E n0 mt_LR_init (d + 3) 192 9946 (fun v nx' t' r' i' g' => v = .inl none ∧ nx' = b + 193 ∧ t' = lg_t t b lr_K ∧ r' = lg_r r b lr_W ∧ i' = lg_i i b lr_I ∧ g' = g) (6 * c + 48) (334 * c + 444) 151 [(0, .ref (b + 0)), (1, .int (nI k))] [] (b + (109 + 6 * k)) (lg_t t b (xx_K k ++ (tx_K 6 ++ lr_K3))) (lg_r r b (xx_W k ++ (tx_W 6 ++ lr_W3))) (lg_i i b (xx_I k ++ lr_I3)) g := by
  induction c with
  | zero =>
    intro k hk
    have hk6 : k = 6 := by omega
    subst hk6
    refine wf_iload_n dc_LR_init_151 rfl ?_
    refine wf_bipush 6 dc_LR_init_152 (by decide) ?_
    refine wf_icmp_ge 176 dc_LR_init_154 (by decide) (fun hc => ?_) (fun hc => absurd ((nI_leI (a := 6) (by omega) (by omega)).mpr (by omega)) hc)
    refine wf_iconst 0 dc_LR_init_176 (by decide) ?_
    refine wf_istore_n dc_LR_init_177 (by decide) ?_
    refine Wf.to (L' := [(0, .ref (b + 0)), (1, .int (nI 0))]) (by exact ⟨rfl, rfl, trivial⟩) ?_
    exact c_LR_l3 ha 12 0 rfl
  | succ c ih =>
    intro k hk
    have h1 : lg_t t b (xx_K k ++ (tx_K 6 ++ lr_K3)) (b + 0) = some (.inl 0) := by
      rw [lg_t_nl (xx_K_n (by omega) k), lg_t_nl (tx_K_n (by omega) 6)]
      exact lr_K3_0 ha
    have h2 : lg_t t b (xx_K k ++ (tx_K 6 ++ lr_K3)) (b + 4) = some (.inr (4, 6)) := by
      rw [lg_t_nl (xx_K_n (by omega) k), lg_t_nl (tx_K_n (by omega) 6)]
      exact lg_t_g (q := (4, .inr (4, 6))) (by decide +kernel)
    have h3 : lg_r r b (xx_W k ++ (tx_W 6 ++ lr_W3)) (b + 0) 2 = some (b + 4) := by
      rw [lg_r_nl (xx_W_n (by omega) (by omega) k), lg_r_nl (tx_W_n (by omega) (by omega) 6)]
      exact lg_r_g (q := (0, 2, 4)) (by decide +kernel)
    refine wf_iload_n dc_LR_init_151 rfl ?_
    refine wf_bipush 6 dc_LR_init_152 (by decide) ?_
    refine wf_icmp_ge 176 dc_LR_init_154 (by decide) (fun hc => absurd ((nI_leI (a := 6) (by omega) (by omega)).mp hc) (by omega)) (fun hc => ?_)
    refine wf_aload_n dc_LR_init_157 rfl ?_
    refine wf_getr dc_LR_init_158 fl_LR_24 rfl (by first | assumption | ((repeat rw [wf_up1_n (by omega)]); first | assumption | exact wf_up1_s)) (by first | assumption | ((repeat rw [wf_up1_n (by omega)]); first | assumption | exact wf_up1_s)) ?_
    refine wf_iload_n dc_LR_init_161 rfl ?_
    refine wf_new (bk' := 6 * c + 53) (bn' := 334 * c + 772) dc_LR_init_162 nw_LR_22 (by omega) (by omega) (fun f1 f2 => ?_)
    refine wf_dup dc_LR_init_165 rfl ?_
    refine wf_ii0 (y := mt_Exp_init.1) (cc := mt_Exp_init.2.1) (nL := mt_Exp_init.2.2.1) (bk' := 6 * c + 48) (bn' := 334 * c + 444) dc_LR_init_166 tg_Exp_init ml_LR_76 im_Exp_init rfl (Nat.le_of_ble_eq_true rfl) (by omega) (by omega) (c_Exp_init wf_up1_s) (by rintro X a1 a2 a3 a4 a5 ⟨q, -⟩; cases q) ?_
    rintro vo nx2 t2 r2 i2 g2 ⟨hvo, rfl, rfl, rfl, rfl, rfl⟩
    cases hvo
    refine wf_aastore (y := 4) (c := 2) dc_LR_init_169 rfl ⟨_, rfl, rfl⟩ (by decide) (by first | assumption | ((repeat rw [wf_up1_n (by omega)]); first | assumption | exact wf_up1_s)) (by first | assumption | ((repeat rw [wf_up1_n (by omega)]); first | assumption | exact wf_up1_s)) (vp_in_nI (by omega) (by omega)) ?_
    rw [nI_clamp (by omega)]
    refine wf_iinc _ dc_LR_init_170 rfl (nI_1 k) (by decide) ?_
    refine wf_goto 151 dc_LR_init_173 (by decide) ?_
    have h := ih (k + 1) (by omega)
    refine Wf.to (L' := [(0, .ref (b + 0)), (1, .int (nI (k + 1)))]) (by exact ⟨rfl, rfl, trivial⟩) ?_
    exact h
/-- the loop of the texts -/
theorem c_LR_l1 {b : Nat} (ha : t (b + 0) = some (.inl 0)) (c : Nat) : ∀ k, k + c = 6 → Wf l E n0 mt_LR_init (d + 3) 192 9946 (fun v nx' t' r' i' g' => v = .inl none ∧ nx' = b + 193 ∧ t' = lg_t t b lr_K ∧ r' = lg_r r b lr_W ∧ i' = lg_i i b lr_I ∧ g' = g) (2 * c + 84) (122 * c + 2448) 122 [(0, .ref (b + 0)), (1, .int (nI k))] [] (b + (97 + 2 * k)) (lg_t t b (tx_K k ++ lr_K3)) (lg_r r b (tx_W k ++ lr_W3)) (lg_i i b lr_I3) g := by
  induction c with
  | zero =>
    intro k hk
    have hk6 : k = 6 := by omega
    subst hk6
    refine wf_iload_n dc_LR_init_122 rfl ?_
    refine wf_bipush 6 dc_LR_init_123 (by decide) ?_
    refine wf_icmp_ge 149 dc_LR_init_125 (by decide) (fun hc => ?_) (fun hc => absurd ((nI_leI (a := 6) (by omega) (by omega)).mpr (by omega)) hc)
    refine wf_iconst 0 dc_LR_init_149 (by decide) ?_
    refine wf_istore_n dc_LR_init_150 (by decide) ?_
    refine Wf.to (L' := [(0, .ref (b + 0)), (1, .int (nI 0))]) (by exact ⟨rfl, rfl, trivial⟩) ?_
    exact c_LR_l2 ha 6 0 rfl
  | succ c ih =>
    intro k hk
    have h1 : lg_t t b (tx_K k ++ lr_K3) (b + 0) = some (.inl 0) := by
      rw [lg_t_nl (tx_K_n (by omega) k)]
      exact lr_K3_0 ha
    have h2 : lg_t t b (tx_K k ++ lr_K3) (b + 3) = some (.inr (3, 6)) := by
      rw [lg_t_nl (tx_K_n (by omega) k)]
      exact lg_t_g (q := (3, .inr (3, 6))) (by decide +kernel)
    have h3 : lg_r r b (tx_W k ++ lr_W3) (b + 0) 1 = some (b + 3) := by
      rw [lg_r_nl (tx_W_n (by omega) (by omega) k)]
      exact lg_r_g (q := (0, 1, 3)) (by decide +kernel)
    refine wf_iload_n dc_LR_init_122 rfl ?_
    refine wf_bipush 6 dc_LR_init_123 (by decide) ?_
    refine wf_icmp_ge 149 dc_LR_init_125 (by decide) (fun hc => absurd ((nI_leI (a := 6) (by omega) (by omega)).mp hc) (by omega)) (fun hc => ?_)
    refine wf_aload_n dc_LR_init_128 rfl ?_
    refine wf_getr dc_LR_init_129 fl_LR_18 rfl (by first | assumption | ((repeat rw [wf_up1_n (by omega)]); first | assumption | exact wf_up1_s)) (by first | assumption | ((repeat rw [wf_up1_n (by omega)]); first | assumption | exact wf_up1_s)) ?_
    refine wf_iload_n dc_LR_init_132 rfl ?_
    refine wf_new (bk' := 2 * c + 85) (bn' := 122 * c + 2568) dc_LR_init_133 nw_LR_7 (by omega) (by omega) (fun f1 f2 => ?_)
    refine wf_dup dc_LR_init_136 rfl ?_
    refine wf_bipush 120 dc_LR_init_137 (by decide) ?_
    refine wf_ii1 (y := mt_Row_init.1) (cc := mt_Row_init.2.1) (nL := mt_Row_init.2.2.1) (bk' := 2 * c + 84) (bn' := 122 * c + 2448) dc_LR_init_139 tg_Row_init ml_LR_11 im_Row_init rfl (Nat.le_of_ble_eq_true rfl) (by omega) (by omega) (k_Row_init (n := 120) rfl wf_up1_s (by omega)) (by rintro X a1 a2 a3 a4 a5 ⟨q, -⟩; cases q) ?_
    rintro vo nx2 t2 r2 i2 g2 ⟨hvo, rfl, rfl, rfl, rfl, rfl⟩
    cases hvo
    refine wf_aastore (y := 3) (c := 5) dc_LR_init_142 rfl ⟨_, rfl, rfl⟩ (by decide) (by first | assumption | ((repeat rw [wf_up1_n (by omega)]); first | assumption | exact wf_up1_s)) (by first | assumption | ((repeat rw [wf_up1_n (by omega)]); first | assumption | exact wf_up1_s)) (vp_in_nI (by omega) (by omega)) ?_
    rw [nI_clamp (by omega)]
    refine wf_iinc _ dc_LR_init_143 rfl (nI_1 k) (by decide) ?_
    refine wf_goto 122 dc_LR_init_146 (by decide) ?_
    have h := ih (k + 1) (by omega)
    refine Wf.to (L' := [(0, .ref (b + 0)), (1, .int (nI (k + 1)))]) (by exact ⟨rfl, rfl, trivial⟩) ?_
    exact h
theorem c_LR_init {b : Nat} (ha : t (b + 0) = some (.inl 0)) : Ct l E n0 mt_LR_init (d + 3) 192 9946 [.ref (b + 0)] (b + 1) t r i g (fun v nx' t' r' i' g' => v = .inl none ∧ nx' = b + 193 ∧ t' = lg_t t b lr_K ∧ r' = lg_r r b lr_W ∧ i' = lg_i i b lr_I ∧ g' = g) := by
  refine Ct.of (by decide) (Nat.le_of_ble_eq_true rfl) ?_
  refine wf_aload_n dc_LR_init_0 rfl ?_
  refine wf_objinit dc_LR_init_1 ml_LR_1 im_obj co_obj (Nat.le_of_ble_eq_true rfl) ?_
  refine wf_aload_n dc_LR_init_4 rfl ?_
  refine wf_new (bk' := 191) (bn' := 9944) dc_LR_init_5 nw_LR_7 (Nat.le_of_ble_eq_true rfl) (Nat.le_of_ble_eq_true rfl) (fun f1 f2 => ?_)
  refine wf_dup dc_LR_init_8 rfl ?_
  refine wf_bipush 120 dc_LR_init_9 (by decide) ?_
  refine wf_ii1 (y := mt_Row_init.1) (cc := mt_Row_init.2.1) (nL := mt_Row_init.2.2.1) (bk' := 190) (bn' := 9824) dc_LR_init_11 tg_Row_init ml_LR_11 im_Row_init rfl (Nat.le_of_ble_eq_true rfl) (by omega) (by omega) (k_Row_init (n := 120) rfl wf_up1_s (by omega)) (by rintro X a1 a2 a3 a4 a5 ⟨q, -⟩; cases q) ?_
  rintro vo nx2 t2 r2 i2 g2 ⟨hvo, rfl, rfl, rfl, rfl, rfl⟩
  cases hvo
  refine wf_putr dc_LR_init_14 fl_LR_14 (Or.inr ⟨fi_LR_0, rfl⟩) rfl rfl rfl (by first | assumption | ((repeat rw [wf_up1_n (by omega)]); first | assumption | exact wf_up1_s)) ?_
  refine wf_aload_n dc_LR_init_17 rfl ?_
  refine wf_bipush 6 dc_LR_init_18 (by decide) ?_
  refine wf_anew (y := 3) (N := 6) (bk' := 189) (bn' := 9818) dc_LR_init_20 rfl (by decide) cl_LR_7 (by decide) (by decide) (by decide) (by decide) (Nat.le_of_ble_eq_true rfl) (Nat.le_of_ble_eq_true rfl) (fun f1 f2 => ?_)
  refine wf_putr dc_LR_init_23 fl_LR_18 (Or.inr ⟨fi_LR_1, rfl⟩) rfl rfl rfl (by first | assumption | ((repeat rw [wf_up1_n (by omega)]); first | assumption | exact wf_up1_s)) ?_
  refine wf_aload_n dc_LR_init_26 rfl ?_
  refine wf_bipush 6 dc_LR_init_27 (by decide) ?_
  refine wf_anew (y := 4) (N := 6) (bk' := 188) (bn' := 9812) dc_LR_init_29 rfl (by decide) cl_LR_22 (by decide) (by decide) (by decide) (by decide) (Nat.le_of_ble_eq_true rfl) (Nat.le_of_ble_eq_true rfl) (fun f1 f2 => ?_)
  refine wf_putr dc_LR_init_32 fl_LR_24 (Or.inr ⟨fi_LR_2, rfl⟩) rfl rfl rfl (by first | assumption | ((repeat rw [wf_up1_n (by omega)]); first | assumption | exact wf_up1_s)) ?_
  refine wf_aload_n dc_LR_init_35 rfl ?_
  refine wf_new (bk' := 187) (bn' := 9801) dc_LR_init_36 nw_LR_28 (Nat.le_of_ble_eq_true rfl) (Nat.le_of_ble_eq_true rfl) (fun f1 f2 => ?_)
  have e1 : lg_t t b lr_K1 (b + 5) = some (.inl 4) := lg_t_g (q := (5, .inl 4)) (by decide +kernel)
  refine wf_dup dc_LR_init_39 rfl ?_
  refine wf_ii0 (y := mt_Rdr_init.1) (cc := mt_Rdr_init.2.1) (nL := mt_Rdr_init.2.2.1) (bk' := 173) (bn' := 8739) dc_LR_init_40 tg_Rdr_init ml_LR_30 im_Rdr_init rfl (Nat.le_of_ble_eq_true rfl) (by omega) (by omega) (c_Rdr_init (b := b) (o := 5) (m := 6) (t := lg_t t b lr_K1) (r := lg_r r b lr_W1) e1 (by omega)) (by rintro X a1 a2 a3 a4 a5 ⟨q, -⟩; cases q) ?_
  rintro vo nx2 t2 r2 i2 g2 ⟨hvo, rfl, rfl, rfl, rfl, rfl⟩
  cases hvo
  have a1 : lg_t (lg_t t b lr_K1) b (rd_K 6) (b + 0) = some (.inl 0) := (lg_t_n (by decide +kernel)).trans ((lg_t_n (by decide +kernel)).trans ha)
  refine wf_putr dc_LR_init_43 fl_LR_31 (Or.inr ⟨fi_LR_3, rfl⟩) rfl rfl rfl (by first | assumption | ((repeat rw [wf_up1_n (by omega)]); first | assumption | exact wf_up1_s)) ?_
  refine wf_aload_n dc_LR_init_46 rfl ?_
  refine wf_bipush 12 dc_LR_init_47 (by decide) ?_
  refine wf_anew (y := 5) (N := 12) (bk' := 172) (bn' := 8727) dc_LR_init_49 rfl (by decide) cl_LR_35 (by decide) (by decide) (by decide) (by decide) (Nat.le_of_ble_eq_true rfl) (Nat.le_of_ble_eq_true rfl) (fun f1 f2 => ?_)
  refine wf_putr dc_LR_init_52 fl_LR_37 (Or.inr ⟨fi_LR_4, rfl⟩) rfl rfl rfl (by first | assumption | ((repeat rw [wf_up1_n (by omega)]); first | assumption | exact wf_up1_s)) ?_
  refine wf_aload_n dc_LR_init_55 rfl ?_
  refine wf_new (bk' := 171) (bn' := 8722) dc_LR_init_56 nw_LR_41 (Nat.le_of_ble_eq_true rfl) (Nat.le_of_ble_eq_true rfl) (fun f1 f2 => ?_)
  rw [lg_t_ap, lg_r_ap]
  have e2 : lg_t t b lr_K2 (b + 21) = some (.inl 1) := lg_t_g (q := (21, .inl 1)) (by decide +kernel)
  refine wf_dup dc_LR_init_59 rfl ?_
  refine wf_ii0 (y := mt_Cut_init.1) (cc := mt_Cut_init.2.1) (nL := mt_Cut_init.2.2.1) (bk' := 104) (bn' := 4786) dc_LR_init_60 tg_Cut_init ml_LR_43 im_Cut_init rfl (Nat.le_of_ble_eq_true rfl) (by omega) (by omega) (c_Cut_init (b := b) (o := 21) (m := 22) (t := lg_t t b lr_K2) (r := lg_r r b lr_W2) e2 (by omega)) (by rintro X a1 a2 a3 a4 a5 ⟨q, -⟩; cases q) ?_
  rintro vo nx2 t2 r2 i2 g2 ⟨hvo, rfl, rfl, rfl, rfl, rfl⟩
  cases hvo
  have a2 : lg_t (lg_t t b lr_K2) b (cu_K 22 30) (b + 0) = some (.inl 0) := (lg_t_n (by decide +kernel)).trans ((lg_t_n (by decide +kernel)).trans ha)
  refine wf_putr dc_LR_init_63 fl_LR_44 (Or.inr ⟨fi_LR_5, rfl⟩) rfl rfl rfl (by first | assumption | ((repeat rw [wf_up1_n (by omega)]); first | assumption | exact wf_up1_s)) ?_
  refine wf_aload_n dc_LR_init_66 rfl ?_
  refine wf_bipush 8 dc_LR_init_67 (by decide) ?_
  refine wf_newarr (y := 0) (N := 8) (bk' := 103) (bn' := 4778) dc_LR_init_69 rfl (by decide) ac_int (fun U h => h) rfl (by decide) (by decide) (by decide) (Nat.le_of_ble_eq_true rfl) (Nat.le_of_ble_eq_true rfl) (fun f1 f2 => ?_)
  refine wf_putr dc_LR_init_71 fl_LR_48 (Or.inr ⟨fi_LR_6, rfl⟩) rfl rfl rfl (by first | assumption | ((repeat rw [wf_up1_n (by omega)]); first | assumption | exact wf_up1_s)) ?_
  refine wf_aload_n dc_LR_init_74 rfl ?_
  refine wf_new (bk' := 102) (bn' := 4775) dc_LR_init_75 nw_LR_52 (Nat.le_of_ble_eq_true rfl) (Nat.le_of_ble_eq_true rfl) (fun f1 f2 => ?_)
  refine wf_dup dc_LR_init_78 rfl ?_
  refine wf_ii0 (y := mt_Tab_init.1) (cc := mt_Tab_init.2.1) (nL := mt_Tab_init.2.2.1) (bk' := 100) (bn' := 4695) dc_LR_init_79 tg_Tab_init ml_LR_54 im_Tab_init rfl (Nat.le_of_ble_eq_true rfl) (by omega) (by omega) (c_Tab_init wf_up1_s) (by rintro X a1 a2 a3 a4 a5 ⟨q, -⟩; cases q) ?_
  rintro vo nx2 t2 r2 i2 g2 ⟨hvo, rfl, rfl, rfl, rfl, rfl⟩
  cases hvo
  refine wf_putr dc_LR_init_82 fl_LR_55 (Or.inr ⟨fi_LR_7, rfl⟩) rfl rfl rfl (by first | assumption | ((repeat rw [wf_up1_n (by omega)]); first | assumption | exact wf_up1_s)) ?_
  refine wf_aload_n dc_LR_init_85 rfl ?_
  refine wf_new (bk' := 99) (bn' := 4693) dc_LR_init_86 nw_LR_59 (Nat.le_of_ble_eq_true rfl) (Nat.le_of_ble_eq_true rfl) (fun f1 f2 => ?_)
  refine wf_dup dc_LR_init_89 rfl ?_
  refine wf_ii0 (y := mt_Out_init.1) (cc := mt_Out_init.2.1) (nL := mt_Out_init.2.2.1) (bk' := 98) (bn' := 3193) dc_LR_init_90 tg_Out_init ml_LR_61 im_Out_init rfl (Nat.le_of_ble_eq_true rfl) (by omega) (by omega) (c_Out_init wf_up1_s) (by rintro X a1 a2 a3 a4 a5 ⟨q, -⟩; cases q) ?_
  rintro vo nx2 t2 r2 i2 g2 ⟨hvo, rfl, rfl, rfl, rfl, rfl⟩
  cases hvo
  refine wf_putr dc_LR_init_93 fl_LR_62 (Or.inr ⟨fi_LR_8, rfl⟩) rfl rfl rfl (by first | assumption | ((repeat rw [wf_up1_n (by omega)]); first | assumption | exact wf_up1_s)) ?_
  refine wf_aload_n dc_LR_init_96 rfl ?_
  refine wf_new (bk' := 97) (bn' := 3191) dc_LR_init_97 nw_LR_7 (Nat.le_of_ble_eq_true rfl) (Nat.le_of_ble_eq_true rfl) (fun f1 f2 => ?_)
  refine wf_dup dc_LR_init_100 rfl ?_
  refine wf_bipush 11 dc_LR_init_101 (by decide) ?_
  refine wf_ii1 (y := mt_Row_init.1) (cc := mt_Row_init.2.1) (nL := mt_Row_init.2.2.1) (bk' := 96) (bn' := 3180) dc_LR_init_103 tg_Row_init ml_LR_11 im_Row_init rfl (Nat.le_of_ble_eq_true rfl) (by omega) (by omega) (k_Row_init (n := 11) rfl wf_up1_s (by omega)) (by rintro X a1 a2 a3 a4 a5 ⟨q, -⟩; cases q) ?_
  rintro vo nx2 t2 r2 i2 g2 ⟨hvo, rfl, rfl, rfl, rfl, rfl⟩
  cases hvo
  refine wf_putr dc_LR_init_106 fl_LR_66 (Or.inr ⟨fi_LR_9, rfl⟩) rfl rfl rfl (by first | assumption | ((repeat rw [wf_up1_n (by omega)]); first | assumption | exact wf_up1_s)) ?_
  refine wf_aload_n dc_LR_init_109 rfl ?_
  refine wf_bipush 32 dc_LR_init_110 (by decide) ?_
  refine wf_puti dc_LR_init_112 fl_LR_69 (Or.inl nf_LR_12) rfl rfl rfl (by first | assumption | ((repeat rw [wf_up1_n (by omega)]); first | assumption | exact wf_up1_s)) ?_
  refine wf_aload_n dc_LR_init_115 rfl ?_
  refine wf_iconst (-1) dc_LR_init_116 (by decide) ?_
  refine wf_puti dc_LR_init_117 fl_LR_73 (Or.inl nf_LR_13) rfl rfl rfl (by first | assumption | ((repeat rw [wf_up1_n (by omega)]); first | assumption | exact wf_up1_s)) ?_
  refine wf_iconst 0 dc_LR_init_120 (by decide) ?_
  refine wf_istore_n dc_LR_init_121 (by decide) ?_
  rw [lg_t_ap, lg_r_ap]
  refine Wf.to (L' := [(0, .ref (b + 0)), (1, .int (nI 0))]) (by exact ⟨rfl, rfl, trivial⟩) ?_
  exact c_LR_l1 ha 6 0 rfl
end
