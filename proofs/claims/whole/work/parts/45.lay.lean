/-! a LineRules object at b: its cells -/
def lr_Wf : List (Nat × Nat × Nat) := lr_W.filter (fun q => !(q.1 == 4 || (q.1 == 5 && (q.2.1 == 7 || q.2.1 == 8))))
def xo (j : Nat) : Nat := if j < 6 then 109 + 6 * j else 12
def lr_P (b k : Nat) : Nat := if k < 30 then b + (29 + 2 * k) else if k = 30 then b + 22 else if k = 31 then b + 27 else b + 25
def lr_R (b k : Nat) : Nat := lr_P b k + 1
def lr_V (b e k : Nat) : Nat := if k < 6 then b + (6 + k) else if k < 12 then b + (e + (k - 6)) else b + (k - 11)
/-- which of the seven expression objects stand in the array (0 to 5) and in the reader (6) -/
def lr_at (t : Wt) (r : Wr) (b : Nat) (pm : Nat → Nat) : Prop := (t (b + 0) = some (.inl 0) ∧ ∀ o q, lr_K.find? (fun q => q.1 == o) = some q → t (b + o) = some q.2) ∧ (∀ q ∈ lr_Wf, r (b + q.1) q.2.1 = some (b + q.2.2)) ∧ (∀ k, k < 7 → pm k < 7) ∧ (∀ j k, j < 7 → k < 7 → pm j = pm k → j = k) ∧ (∀ k, k < 6 → r (b + 4) k = some (b + xo (pm k))) ∧ r (b + 5) 7 = some (b + xo (pm 6))
section
variable {l : Launch} {E : We} {n0 d nx : Nat} {t : Wt} {r : Wr} {i : Wi} {g : Wl} {b : Nat} {pm : Nat → Nat}
theorem lr_pad (h : lr_at t r b pm) : rw_at t r (b + 1) (b + 2) 120 := ⟨h.1.2 1 (1, .inl 5) (by decide +kernel), h.2.1 (1, 0, 2) (by decide +kernel), h.1.2 2 (2, .inr (0, 120)) (by decide +kernel), Nat.le_refl _⟩
theorem lr_num (h : lr_at t r b pm) : rw_at t r (b + 95) (b + 96) 11 := ⟨h.1.2 95 (95, .inl 5) (by decide +kernel), h.2.1 (95, 0, 96) (by decide +kernel), h.1.2 96 (96, .inr (0, 11)) (by decide +kernel), by decide⟩
theorem lr_txt (h : lr_at t r b pm) {k : Nat} (hk : k < 6) : rw_at t r (b + (97 + 2 * k)) (b + (97 + 2 * k + 1)) 120 := by
  have m1 : ∀ k, k < 6 → lr_K.find? (fun q => q.1 == 97 + 2 * k) = some (97 + 2 * k, .inl 5) := by decide +kernel
  have m2 : ∀ k, k < 6 → (97 + 2 * k, 0, 97 + 2 * k + 1) ∈ lr_Wf := by decide +kernel
  have m3 : ∀ k, k < 6 → lr_K.find? (fun q => q.1 == 97 + 2 * k + 1) = some (97 + 2 * k + 1, .inr (0, 120)) := by decide +kernel
  exact ⟨h.1.2 _ _ (m1 k hk), h.2.1 _ (m2 k hk), h.1.2 _ _ (m3 k hk), Nat.le_refl _⟩
theorem lr_exp (h : lr_at t r b pm) {j : Nat} (hj : j < 7) : ex_at t r (b + xo j) (b + (xo j + 1)) (b + (xo j + 2)) (b + (xo j + 3)) (b + (xo j + 4)) (b + (xo j + 5)) := by
  have m0 : ∀ j, j < 7 → lr_K.find? (fun q => q.1 == xo j) = some (xo j, .inl 2) := by decide +kernel
  have m1 : ∀ j, j < 7 → lr_K.find? (fun q => q.1 == xo j + 1) = some (xo j + 1, .inr (2, 256)) := by decide +kernel
  have m2 : ∀ j, j < 7 → lr_K.find? (fun q => q.1 == xo j + 2) = some (xo j + 2, .inr (2, 60)) := by decide +kernel
  have m3 : ∀ j, j < 7 → lr_K.find? (fun q => q.1 == xo j + 3) = some (xo j + 3, .inr (2, 4)) := by decide +kernel
  have m4 : ∀ j, j < 7 → lr_K.find? (fun q => q.1 == xo j + 4) = some (xo j + 4, .inr (2, 4)) := by decide +kernel
  have m5 : ∀ j, j < 7 → lr_K.find? (fun q => q.1 == xo j + 5) = some (xo j + 5, .inr (1, 4)) := by decide +kernel
  have w0 : ∀ j, j < 7 → (xo j, 0, xo j + 1) ∈ lr_Wf := by decide +kernel
  have w1 : ∀ j, j < 7 → (xo j, 1, xo j + 2) ∈ lr_Wf := by decide +kernel
  have w2 : ∀ j, j < 7 → (xo j, 2, xo j + 3) ∈ lr_Wf := by decide +kernel
  have w3 : ∀ j, j < 7 → (xo j, 3, xo j + 4) ∈ lr_Wf := by decide +kernel
  have w4 : ∀ j, j < 7 → (xo j, 4, xo j + 5) ∈ lr_Wf := by decide +kernel
  exact ⟨h.1.2 _ _ (m0 j hj), ⟨h.2.1 _ (w0 j hj), h.1.2 _ _ (m1 j hj)⟩, ⟨h.2.1 _ (w1 j hj), h.1.2 _ _ (m2 j hj)⟩, ⟨h.2.1 _ (w2 j hj), h.1.2 _ _ (m3 j hj)⟩, ⟨h.2.1 _ (w3 j hj), h.1.2 _ _ (m4 j hj)⟩, ⟨h.2.1 _ (w4 j hj), h.1.2 _ _ (m5 j hj)⟩, by omega⟩
theorem lr_rul (h : lr_at t r b pm) {k : Nat} (hk : k < 12) : ru_at t r (b + (145 + 4 * k)) (b + (145 + 4 * k + 1)) (b + (145 + 4 * k + 2)) (b + (145 + 4 * k + 3)) := by
  have m0 : ∀ k, k < 12 → lr_K.find? (fun q => q.1 == 145 + 4 * k) = some (145 + 4 * k, .inl 6) := by decide +kernel
  have m1 : ∀ k, k < 12 → lr_K.find? (fun q => q.1 == 145 + 4 * k + 1) = some (145 + 4 * k + 1, .inr (0, 10)) := by decide +kernel
  have m2 : ∀ k, k < 12 → lr_K.find? (fun q => q.1 == 145 + 4 * k + 2) = some (145 + 4 * k + 2, .inr (0, 10)) := by decide +kernel
  have m3 : ∀ k, k < 12 → lr_K.find? (fun q => q.1 == 145 + 4 * k + 3) = some (145 + 4 * k + 3, .inr (0, 10)) := by decide +kernel
  have w1 : ∀ k, k < 12 → (145 + 4 * k, 3, 145 + 4 * k + 1) ∈ lr_Wf := by decide +kernel
  have w2 : ∀ k, k < 12 → (145 + 4 * k, 4, 145 + 4 * k + 2) ∈ lr_Wf := by decide +kernel
  have w3 : ∀ k, k < 12 → (145 + 4 * k, 5, 145 + 4 * k + 3) ∈ lr_Wf := by decide +kernel
  exact ⟨h.1.2 _ _ (m0 k hk), h.2.1 _ (w1 k hk), h.2.1 _ (w2 k hk), h.2.1 _ (w3 k hk), h.1.2 _ _ (m1 k hk), h.1.2 _ _ (m2 k hk), h.1.2 _ _ (m3 k hk), by omega, by omega, by omega⟩
theorem lr_tab (h : lr_at t r b pm) : tb_at t r (b + 90) (b + 91) (b + 92) := ⟨h.1.2 90 (90, .inl 7) (by decide +kernel), h.2.1 (90, 0, 91) (by decide +kernel), h.1.2 91 (91, .inr (3, 40)) (by decide +kernel), h.2.1 (90, 1, 92) (by decide +kernel), h.1.2 92 (92, .inr (0, 40)) (by decide +kernel)⟩
theorem lr_out (h : lr_at t r b pm) : ou_at t r (b + 93) (b + 94) := ⟨h.1.2 93 (93, .inl 3) (by decide +kernel), h.2.1 (93, 0, 94) (by decide +kernel), h.1.2 94 (94, .inr (0, 1500)) (by decide +kernel)⟩
theorem lr_P_l {k : Nat} (hk : k < 30) : lr_P b k = b + (29 + 2 * k) := if_pos hk
theorem lr_cut (h : lr_at t r b pm) : cu_at t r (b + 21) (b + 24) (lr_P b) (lr_R b) := by
  have m0 : ∀ k, k < 30 → lr_K.find? (fun q => q.1 == 29 + 2 * k) = some (29 + 2 * k, .inl 5) := by decide +kernel
  have m1 : ∀ k, k < 30 → lr_K.find? (fun q => q.1 == 29 + 2 * k + 1) = some (29 + 2 * k + 1, .inr (0, 120)) := by decide +kernel
  have w0 : ∀ k, k < 30 → (29 + 2 * k, 0, 29 + 2 * k + 1) ∈ lr_Wf := by decide +kernel
  have w1 : ∀ k, k < 30 → (24, k, 29 + 2 * k) ∈ lr_Wf := by decide +kernel
  refine ⟨h.1.2 21 (21, .inl 1) (by decide +kernel), h.2.1 (21, 0, 22) (by decide +kernel), h.2.1 (21, 2, 24) (by decide +kernel), h.2.1 (21, 3, 25) (by decide +kernel), h.2.1 (21, 4, 27) (by decide +kernel), h.1.2 24 (24, .inr (3, 30)) (by decide +kernel), fun k hk => ?_, fun k hk => ?_, ⟨h.1.2 25 (25, .inl 5) (by decide +kernel), h.2.1 (25, 0, 26) (by decide +kernel), h.1.2 26 (26, .inr (0, 0)) (by decide +kernel), by decide⟩, fun j k hj hk hjk => ?_⟩
  · rw [lr_P_l hk]
    exact h.2.1 _ (w1 k hk)
  · by_cases h30 : k < 30
    · unfold lr_R
      rw [lr_P_l h30]
      exact ⟨h.1.2 _ _ (m0 k h30), h.2.1 _ (w0 k h30), h.1.2 _ _ (m1 k h30), Nat.le_refl _⟩
    · have hc : k = 30 ∨ k = 31 := by omega
      rcases hc with rfl | rfl
      · exact ⟨h.1.2 22 (22, .inl 5) (by decide +kernel), h.2.1 (22, 0, 23) (by decide +kernel), h.1.2 23 (23, .inr (0, 120)) (by decide +kernel), Nat.le_refl _⟩
      · exact ⟨h.1.2 27 (27, .inl 5) (by decide +kernel), h.2.1 (27, 0, 28) (by decide +kernel), h.1.2 28 (28, .inr (0, 120)) (by decide +kernel), Nat.le_refl _⟩
  · have : lr_P b j ≠ lr_P b k := by
      unfold lr_P
      repeat' split
      all_goals omega
    exact ⟨this, fun z => this (by unfold lr_R at z; omega)⟩
theorem lr_V_c {e : Nat} : lr_V b e 6 = b + e ∧ lr_V b e 7 = b + (e + 1) ∧ lr_V b e 8 = b + (e + 2) ∧ lr_V b e 9 = b + (e + 3) ∧ lr_V b e 10 = b + (e + 4) ∧ lr_V b e 11 = b + (e + 5) ∧ lr_V b e 12 = b + 1 ∧ lr_V b e 13 = b + 2 := ⟨rfl, rfl, rfl, rfl, rfl, rfl, rfl, rfl⟩
theorem lr_rdr (h : lr_at t r b pm) : rd_at t (wf_up r (b + 5) 8 (some (b + 1))) (b + 5) (lr_V b (xo (pm 6))) 120 := by
  have hp6 := h.2.2.1 6 (by omega)
  have hx : xo (pm 6) = 12 ∨ 109 ≤ xo (pm 6) := by
    unfold xo
    split
    · right; omega
    · left; rfl
  obtain ⟨e0, ⟨e1, e2⟩, ⟨e3, e4⟩, ⟨e5, e6⟩, ⟨e7, e8⟩, ⟨e9, e10⟩, -⟩ := lr_exp h hp6
  obtain ⟨p1, p2, p3, p4⟩ := lr_pad h
  have hr : ∀ z k, z ≠ b + 5 → wf_up r (b + 5) 8 (some (b + 1)) z k = r z k := fun z k hz => wf_up_a hz
  refine ⟨h.1.2 5 (5, .inl 4) (by decide +kernel), fun k hk h6 h7 h8 => ?_, ?_, wf_up_s, fun k hk => ?_, h.1.2 9 (9, .inr (1, 121)) (by decide +kernel), h.1.2 10 (10, .inr (2, 121)) (by decide +kernel), h.1.2 11 (11, .inr (2, 121)) (by decide +kernel), ⟨e0, ⟨(hr _ _ (by show b + xo (pm 6) ≠ b + 5; omega)).trans e1, e2⟩, ⟨(hr _ _ (by show b + xo (pm 6) ≠ b + 5; omega)).trans e3, e4⟩, ⟨(hr _ _ (by show b + xo (pm 6) ≠ b + 5; omega)).trans e5, e6⟩, ⟨(hr _ _ (by show b + xo (pm 6) ≠ b + 5; omega)).trans e7, e8⟩, ⟨(hr _ _ (by show b + xo (pm 6) ≠ b + 5; omega)).trans e9, e10⟩, ?_⟩, ⟨p1, (hr _ _ (by show b + 1 ≠ b + 5; omega)).trans p2, p3, p4⟩, rfl, ?_, ?_, ?_, ?_, ?_⟩
  · have w1 : ∀ k, k < 6 → (5, k, 6 + k) ∈ lr_Wf := by decide +kernel
    rw [wf_up_k h8]
    rw [show lr_V b (xo (pm 6)) k = b + (6 + k) from if_pos (by omega)]
    exact h.2.1 _ (w1 k (by omega))
  · rw [wf_up_k (by decide)]
    exact h.2.2.2.2.2
  · have m1 : ∀ k, k < 3 → lr_K.find? (fun q => q.1 == 6 + k) = some (6 + k, .inr (0, 121)) := by decide +kernel
    rw [show lr_V b (xo (pm 6)) k = b + (6 + k) from if_pos (by omega)]
    exact h.1.2 _ _ (m1 k hk)
  · show b + (xo (pm 6) + 1) ≠ b + (xo (pm 6) + 2)
    omega
  · show b + 6 ≠ b + 7
    omega
  · show b + 6 ≠ b + 8
    omega
  · show b + 7 ≠ b + 8
    omega
  · show b + 10 ≠ b + 11
    omega
  · show b + (xo (pm 6) + 3) ≠ b + (xo (pm 6) + 4)
    omega
end
