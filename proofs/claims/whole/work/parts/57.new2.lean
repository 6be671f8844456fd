/-! a new LineRules object: its expressions are the empty text's -/
section
variable {t : Wt} {r : Wr} {i : Wi} {g : Wl} {b : Nat}
theorem ps_read_nil : ps_read [] = .inr (0, [(0, 0, 0)], []) := rfl
theorem lr_new_exp (ha : t (b + 0) = some (.inl 0)) (hz : ∀ o k, i (b + o) k = 0) (hg : ∀ o k, g (b + o) k = 0) : lp_exp (lg_t t b lr_K) (lg_r r b lr_W) (lg_i i b lr_I) g b (fun k => k) (fun _ => []) := fun k hk => by
  have m5 : ∀ k, k < 7 → ∀ q ∈ lr_I, q.1 ≠ xo k := by decide +kernel
  have m1 : ∀ k, k < 7 → ∀ u, u < 4 → lr_I.find? (fun q => q.1 == xo k + 5 && q.2.1 == u) = some (xo k + 5, u, 1) := by decide +kernel
  refine ⟨⟨_, _, _, _, _, 0, lr_exp (lr_new ha) (j := k) (by omega), lr_i0 hz (fun q hq z => absurd z (m5 k (by omega) q hq)), by omega, ?_⟩, s1_nil, by simp, _, ps_read_nil⟩
  refine ex_A_rel ps_read_nil (by decide) (fun x hx j => ?_) (fun j hj => absurd hj (Nat.not_lt_zero _)) (fun u hu => (hg _ _).trans rfl) (fun u hu => (hg _ _).trans rfl) (fun u hu => (lg_i_g (m1 k (by omega) u hu)).trans rfl)
  rw [hg, lb_0]
  exact ⟨fun z => (by cases z), fun z => absurd z.1 (Nat.not_lt_zero _)⟩
end
