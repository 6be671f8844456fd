/-! class LineRules: doActions -/
/-- cells of before, but the line's, counters', table's, output's and the number's -/
def dz (b nx : Nat) (i i' : Wi) : Prop := ∀ z, z < nx → (z < b + 21 ∨ b + 96 < z) → ∀ k, i' z k = i z k
noncomputable def das_of (sx tx : Nat → List Int32) (sp : Int32) (lc : Nat) : List (Int32 × Int32 × Int32) → LnS → LnS
  | [], v => v
  | q :: A, v => das_of sx tx sp lc A (if q.1 = 10 then v else da_of sx tx sp lc q.1 q.2.1 q.2.2 v)
def das_b : List (Int32 × Int32 × Int32) → Bool
  | [] => true
  | q :: A => !(decide (q.1 = 10)) && das_b A
section
variable {l : Launch} {E : We} {n0 d nx nx' : Nat} {t t' : Wt} {r r' : Wr} {i i' i2 : Wi} {g : Wl} {b : Nat} {pm : Nat → Nat} {M : Wm} {mc ms bk bn pc : Nat} {Q : Wq} {L : List (Nat × Value)} {st : List Value}
theorem wf_fresh (kk : (∀ z, nx ≤ z → t z = none ∧ ∀ k, r z k = none ∧ i z k = 0 ∧ g z k = 0) → Wf l E n0 M d mc ms Q bk bn pc L st nx t r i g) : Wf l E n0 M d mc ms Q bk bn pc L st nx t r i g := by
  intro p e s m args below meth cd C H locs cells slots ls h1 h2 h3 h4 h5 h6
  exact kk (fun z hz => h3.2.2.2.2 z hz) p e s m args below meth cd C H locs cells slots ls h1 h2 h3 h4 h5 h6
theorem dz_rf : dz b nx i i := fun _ _ _ _ => rfl
theorem dz_tr (h1 : dz b nx i i') (h2 : dz b nx' i' i2) (hn : nx ≤ nx') : dz b nx i i2 := fun z hz hb k => (h2 z (by omega) hb k).trans (h1 z hz hb k)
theorem dz_of (h : fr_is (da_S b nx) i i') : dz b nx i i' := fun z hz hb k => h z (fun hm => by
  unfold da_S at hm
  rcases List.mem_append.mp hm with hm | hm
  · have := cu_fp_in hm
    omega
  · simp only [List.mem_cons, List.not_mem_nil, or_false] at hm
    omega) k
theorem rw_is.dz {a s : Nat} {w : List Int32} (h : rw_is i a s w) (hf : dz b nx i i') (ha : a < nx ∧ (a < b + 21 ∨ b + 96 < a)) (hs : s < nx ∧ (s < b + 21 ∨ b + 96 < s)) : rw_is i' a s w := ⟨(hf a ha.1 ha.2 1).trans h.1, fun j hj => (hf s hs.1 hs.2 j).trans (h.2 j hj)⟩
theorem lp_txt.dz {tx : Nat → List Int32} (h : lp_txt i b tx) (hf : dz b nx i i') (hn : b + 222 ≤ nx) : lp_txt i' b tx := fun k hk => ⟨(h k hk).1.dz hf (by omega) (by omega), (h k hk).2⟩
theorem lp_pad.dz {w : List Int32} (h : lp_pad i b w) (hf : dz b nx i i') (hn : b + 222 ≤ nx) : lp_pad i' b w := ⟨h.1.dz hf (by omega) (by omega), h.2⟩
theorem lp_rul.dz {ru : List RuS} (h : lp_rul i b ru) (hf : dz b nx i i') (hn : b + 222 ≤ nx) : lp_rul i' b ru := by
  have h12 := h.2.1
  have f : ∀ o, 145 ≤ o → o ≤ 192 → ∀ k, i' (b + o) k = i (b + o) k := fun o h1 h2 k => hf _ (by omega) (by omega) k
  refine ⟨(hf _ (by omega) (by omega) 10).trans h.1, h12, fun k hk => ⟨?_, (h.2.2 k hk).2⟩⟩
  obtain ⟨u0, u1, u2, u3, u4⟩ := (h.2.2 k hk).1
  exact ⟨(f _ (by omega) (by omega) 0).trans u0, (f _ (by omega) (by omega) 1).trans u1, (f _ (by omega) (by omega) 2).trans u2, (f _ (by omega) (by omega) 6).trans u3, fun j hj => ⟨(f _ (by omega) (by omega) j).trans (u4 j hj).1, (f _ (by omega) (by omega) j).trans (u4 j hj).2.1, (f _ (by omega) (by omega) j).trans (u4 j hj).2.2⟩⟩
theorem lr_at.xt (h : lr_at t r b pm) (hx : xt_ok [b + 91] t r t' r') : lr_at t' r' b pm := by
  obtain ⟨⟨h1, h2⟩, h3, h4, h5, h6, h7⟩ := h
  have kk : ∀ o, o < 193 → ∃ q, t (b + o) = some q := fun o ho => by
    by_cases h0 : o = 0
    · rw [h0]; exact ⟨_, h1⟩
    · have m : ∀ o, o < 193 → o ≠ 0 → (lr_K.find? (fun q => q.1 == o)).isSome = true := by decide +kernel
      obtain ⟨q, hq⟩ := Option.isSome_iff_exists.mp (m o ho h0)
      exact ⟨_, h2 o q hq⟩
  have rr : ∀ o, o < 193 → o ≠ 91 → ∀ k, r' (b + o) k = r (b + o) k := fun o ho h91 k => by
    obtain ⟨q, hq⟩ := kk o ho
    exact hx.2 _ q hq (by simp; omega) k
  have wf : ∀ q ∈ lr_Wf, q.1 < 193 ∧ q.1 ≠ 91 := by decide +kernel
  exact ⟨⟨hx.1 _ _ h1, fun o q hq => hx.1 _ _ (h2 o q hq)⟩, fun q hq => (rr _ (wf q hq).1 (wf q hq).2 _).trans (h3 q hq), h4, h5, fun k hk => (rr 4 (by omega) (by omega) k).trans (h6 k hk), (rr 5 (by omega) (by omega) 7).trans h7⟩
theorem xt_tr {S : List Nat} {t2 : Wt} {r2 : Wr} (h : xt_ok S t r t' r') (h2 : xt_ok S t' r' t2 r2) : xt_ok S t r t2 r2 := ⟨fun z y hz => h2.1 z y (h.1 z y hz), fun z y hz hS k => (h2.2 z y (h.1 z y hz) hS k).trans (h.2 z y hz hS k)⟩
theorem lp_exp.dx {sx : Nat → List Int32} (h : lp_exp t r i g b pm sx) (hA : lr_at t r b pm) (hx : xt_ok [b + 91] t r t' r') (hf : dz b nx i i') (hn : b + 222 ≤ nx) : lp_exp t' r' i' g b pm sx := fun k hk => by
  have hp := hA.2.2.1 k (by omega)
  have hxo := xo_r (pm k) hp
  obtain ⟨⟨tk, fo, fi, la, me, m, e1, e2, e3, e4⟩, h2⟩ := h k hk
  have e9 := (lr_exp hA hp).2.2.2.2.2.1.1
  have hme : me = b + (xo (pm k) + 5) := Option.some.inj (e1.2.2.2.2.2.1.1.symm.trans e9)
  have e1' := lr_exp (hA.xt hx) hp
  have q1 : tk = b + (xo (pm k) + 1) := Option.some.inj (e1.2.1.1.symm.trans (lr_exp hA hp).2.1.1)
  have q2 : fo = b + (xo (pm k) + 2) := Option.some.inj (e1.2.2.1.1.symm.trans (lr_exp hA hp).2.2.1.1)
  have q3 : fi = b + (xo (pm k) + 3) := Option.some.inj (e1.2.2.2.1.1.symm.trans (lr_exp hA hp).2.2.2.1.1)
  have q4 : la = b + (xo (pm k) + 4) := Option.some.inj (e1.2.2.2.2.1.1.symm.trans (lr_exp hA hp).2.2.2.2.1.1)
  subst hme q1 q2 q3 q4
  have hi : i' (b + (xo (pm k) + 5)) = i (b + (xo (pm k) + 5)) := funext (fun j => hf _ (by omega) (by omega) j)
  refine ⟨⟨_, _, _, _, _, m, e1', (hf _ (by omega) (by omega) 5).trans e2, e3, ?_⟩, h2⟩
  rw [hi]
  exact e4
end
