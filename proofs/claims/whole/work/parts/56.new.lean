/-! a new LineRules object -/
section
variable {t : Wt} {r : Wr} {i : Wi} {g : Wl} {b : Nat}
theorem lr_new (ha : t (b + 0) = some (.inl 0)) : lr_at (lg_t t b lr_K) (lg_r r b lr_W) b (fun k => k) := by
  have w1 : ∀ q ∈ lr_Wf, lr_W.find? (fun p => p.1 == q.1 && p.2.1 == q.2.1) = some q := by decide +kernel
  have w2 : ∀ k, k < 6 → lr_W.find? (fun p => p.1 == 4 && p.2.1 == k) = some (4, k, xo k) := by decide +kernel
  have w3 : lr_W.find? (fun p => p.1 == 5 && p.2.1 == 7) = some (5, 7, xo 6) := by decide +kernel
  exact ⟨⟨(lg_t_n (by decide +kernel)).trans ha, fun o q hq => lg_t_g hq⟩, fun q hq => lg_r_g (w1 q hq), fun k hk => hk, fun j k _ _ h => h, fun k hk => lg_r_g (w2 k hk), lg_r_g w3⟩
/-- ints of a new object: 0 but for the separator, the found end and what matches empty parts -/
theorem lr_i0 {o k : Nat} (hz : ∀ o k, i (b + o) k = 0) (h : ∀ q ∈ lr_I, q.1 = o → k ≠ q.2.1) : lg_i i b lr_I (b + o) k = 0 := (lg_i_o (fun q hq z => h q hq (by omega))).trans (hz o k)
theorem lr_new_pad (hz : ∀ o k, i (b + o) k = 0) : lp_pad (lg_i i b lr_I) b [] := ⟨⟨lr_i0 hz (fun q hq z => by have : ∀ q ∈ lr_I, q.1 ≠ 1 := (by decide +kernel); exact absurd z (this q hq)), fun j hj => absurd hj (Nat.not_lt_zero _)⟩, s1_nil⟩
theorem lr_new_lin (hz : ∀ o k, i (b + o) k = 0) : lp_lin (lg_i i b lr_I) b 0 := lr_i0 hz (fun q hq z => by have : ∀ q ∈ lr_I, q.1 = 0 → 11 ≠ q.2.1 := (by decide +kernel); exact this q hq z)
theorem lr_new_sep : lp_sep (lg_i i b lr_I) b 32 := ⟨lg_i_g (q := (0, 12, 32)) (by decide +kernel), 32, by omega, by omega, rfl⟩
theorem lr_new_end : lp_end (lg_i i b lr_I) b none := ⟨lg_i_g (q := (0, 13, -1)) (by decide +kernel), fun f hf => by cases hf⟩
theorem lr_new_rul (hz : ∀ o k, i (b + o) k = 0) : lp_rul (lg_i i b lr_I) b [] := ⟨lr_i0 hz (fun q hq z => by have : ∀ q ∈ lr_I, q.1 = 0 → 10 ≠ q.2.1 := (by decide +kernel); exact this q hq z), Nat.zero_le _, fun k hk => absurd hk (Nat.not_lt_zero _)⟩
theorem lr_new_txt (hz : ∀ o k, i (b + o) k = 0) : lp_txt (lg_i i b lr_I) b (fun _ => []) := fun k hk => by
  have m : ∀ k, k < 6 → ∀ q ∈ lr_I, q.1 ≠ 97 + 2 * k := by decide +kernel
  exact ⟨⟨lr_i0 hz (fun q hq z => absurd z (m k hk q hq)), fun j hj => absurd hj (Nat.not_lt_zero _)⟩, s1_nil⟩
theorem lr_new_cnt (hz : ∀ o k, i (b + o) k = 0) : lp_cnt (lg_i i b lr_I) b (fun _ => 0) := fun k hk => lr_i0 hz (fun q hq z => by have : ∀ q ∈ lr_I, q.1 ≠ 89 := (by decide +kernel); exact absurd z (this q hq))
theorem lr_new_out (hz : ∀ o k, i (b + o) k = 0) : ou_is (lg_i i b lr_I) (b + 93) (b + 94) [] := ⟨lr_i0 hz (fun q hq z => by have : ∀ q ∈ lr_I, q.1 ≠ 93 := (by decide +kernel); exact absurd z (this q hq)), fun k hk => absurd hk (Nat.not_lt_zero _)⟩
theorem lr_new_cut (hz : ∀ o k, i (b + o) k = 0) : lp_cut (lg_i i b lr_I) b [] [] := by
  have m : ∀ o, o = 21 ∨ o = 22 ∨ o = 25 → ∀ q ∈ lr_I, q.1 ≠ o := fun o ho => by
    rcases ho with h | h | h <;> subst h <;> decide +kernel
  exact ⟨⟨lr_i0 hz (fun q hq z => absurd z (m 21 (by omega) q hq)), Nat.zero_le _, ⟨⟨lr_i0 (o := 22) hz (fun q hq z => absurd z (m 22 (by omega) q hq)), fun j hj => absurd hj (Nat.not_lt_zero _)⟩, Nat.zero_le _⟩, fun k hk => absurd hk (Nat.not_lt_zero _), lr_i0 (o := 25) hz (fun q hq z => absurd z (m 25 (by omega) q hq))⟩, s1_nil, fun k hk => absurd hk (Nat.not_lt_zero _)⟩
theorem lr_new_tab (hz : ∀ o k, i (b + o) k = 0) : lp_tab t r (lg_i i b lr_I) b [] := ⟨⟨lr_i0 hz (fun q hq z => by have : ∀ q ∈ lr_I, q.1 ≠ 90 := (by decide +kernel); exact absurd z (this q hq)), Nat.zero_le _, fun k hk => absurd hk (Nat.not_lt_zero _)⟩, fun k hk => absurd hk (Nat.not_lt_zero _)⟩
end
