/-! the reference: its cells, and what may change of them: slots lo to hi - 1 of cell m + c -/
def mo_at (t : Wt) (r : Wr) (m : Nat) : Prop := (t (m + 0) = some (.inl 8) ∧ ∀ o q, mo_K.find? (fun q => q.1 == o) = some q → t (m + o) = some q.2) ∧ ∀ q ∈ mo_W, r (m + q.1) q.2.1 = some (m + q.2.2)
abbrev Ms : Type := List (Nat × Nat × Nat)
def mf (m : Nat) (S : Ms) (i i' : Wi) : Prop := ∀ z k, (∀ q ∈ S, ¬ (z = m + q.1 ∧ q.2.1 ≤ k ∧ k < q.2.2)) → i' z k = i z k
def ms_no (S : Ms) (c lo hi : Nat) : Prop := ∀ q ∈ S, q.1 = c → q.2.2 ≤ lo ∨ hi ≤ q.2.1
def ms_in (S : Ms) (c lo hi : Nat) : Prop := ∃ q ∈ S, q.1 = c ∧ q.2.1 ≤ lo ∧ hi ≤ q.2.2
/-- a list of ints in cell a from place o on -/
def mz (i : Wi) (a o : Nat) (w : List Int32) : Prop := ∀ j, j < w.length → i a (o + j) = w.getD j 0
section
variable {l : Launch} {E : We} {n0 d nx : Nat} {t : Wt} {r : Wr} {i i' i2 : Wi} {g : Wl} {m : Nat} {S S' : Ms}
theorem tk_s {w : List Int32} {j : Nat} (h : j < w.length) : w.take (j + 1) = w.take j ++ [w.getD j 0] := by
  rw [List.take_succ, List.getD_eq_getElem?_getD, List.getElem?_eq_getElem h]
  rfl
theorem nI_mul (a b : Nat) : nI a * nI b = nI (a * b) := (Int32.ofNat_mul a b).symm
theorem mf_rf : mf m S i i := fun _ _ _ => rfl
theorem mf_mo (h : mf m S i i') (hs : ∀ q ∈ S, ms_in S' q.1 q.2.1 q.2.2) : mf m S' i i' := fun z k hz => h z k fun q hq ⟨z1, z2, z3⟩ => by
  obtain ⟨q', h1, h2, h3, h4⟩ := hs q hq
  exact hz q' h1 ⟨by rw [h2]; exact z1, by omega, by omega⟩
theorem mf_tr (h : mf m S i i') (h' : mf m S' i' i2) : mf m (S ++ S') i i2 := fun z k hz => (h' z k (fun q hq => hz q (List.mem_append_right _ hq))).trans (h z k (fun q hq => hz q (List.mem_append_left _ hq)))
theorem mf_ss (h : mf m S i i') (h' : mf m S i' i2) : mf m S i i2 := fun z k hz => (h' z k hz).trans (h z k hz)
theorem mf_up {c k : Nat} {v : Int32} (h : mf m S i i') (hs : ms_in S c k (k + 1)) : mf m S i (wf_up i' (m + c) k v) := fun z j hz => by
  by_cases hzj : z = m + c ∧ j = k
  · obtain ⟨q, h1, h2, h3, h4⟩ := hs
    exact absurd ⟨by rw [h2]; exact hzj.1, by omega, by omega⟩ (hz q h1)
  · exact (if_neg hzj).trans (h z j hz)
theorem mf.at (h : mf m S i i') {c k : Nat} (hs : ms_no S c k (k + 1)) : i' (m + c) k = i (m + c) k := h _ _ fun q hq ⟨z1, z2, z3⟩ => by
  have := hs q hq (by omega)
  omega
theorem mf.off (h : mf m S i i') {z : Nat} (hz : z < m ∨ m + 28 ≤ z) (hs : ∀ q ∈ S, q.1 < 28) (k : Nat) : i' z k = i z k := h z k fun q hq ⟨z1, _, _⟩ => by
  have := hs q hq
  omega
theorem mz.fr {c o : Nat} {w : List Int32} (h : mz i (m + c) o w) (hf : mf m S i i') (hs : ms_no S c o (o + w.length)) : mz i' (m + c) o w := fun j hj => (hf.at (fun q hq z => by have := hs q hq z; omega)).trans (h j hj)
theorem ms_no.mono {c lo hi lo' hi' : Nat} (h : ms_no S c lo hi) (h1 : lo ≤ lo') (h2 : hi' ≤ hi) : ms_no S c lo' hi' := fun q hq z => by
  have := h q hq z
  omega
theorem mz_nil {a o : Nat} : mz i a o [] := fun j hj => absurd hj (Nat.not_lt_zero _)
theorem mz.snoc {a o : Nat} {w : List Int32} {x : Int32} (h : mz i a o w) (hx : i a (o + w.length) = x) : mz i a o (w ++ [x]) := fun j hj => by
  rw [List.length_append, List.length_singleton] at hj
  by_cases hjl : j < w.length
  · rw [List.getD_eq_getElem?_getD, List.getElem?_append_left hjl, ← List.getD_eq_getElem?_getD]
    exact h j hjl
  · have hje : j = w.length := by omega
    rw [hje, List.getD_eq_getElem?_getD, List.getElem?_append_right (Nat.le_refl _), Nat.sub_self, hx]
    rfl
/-! its parts -/
/-- row k: pad 0, line 1, texts 2 to 7, what is made 8 -/
def mr (i : Wi) (m k : Nat) (w : List Int32) : Prop := i (m + 2) k = nI w.length ∧ mz i (m + 1) (120 * k) w
def mr_S (k : Nat) : Ms := [(2, k, k + 1), (1, 120 * k, 120 * k + 120)]
theorem mr.fr {k : Nat} {w : List Int32} (h : mr i m k w) (hf : mf m S i i') (hl : w.length ≤ 120) (h1 : ms_no S 2 k (k + 1)) (h2 : ms_no S 1 (120 * k) (120 * k + 120)) : mr i' m k w := ⟨(hf.at h1).trans h.1, h.2.fr hf (h2.mono (Nat.le_refl _) (by omega))⟩
/-- expression k -/
def mx (i : Wi) (m k : Nat) (w : List Int32) : Prop := i (m + 4) k = nI w.length ∧ mz i (m + 3) (60 * k) w
def mp_rul (i : Wi) (m : Nat) (ru : List RuS) : Prop := i (m + 0) 6 = nI ru.length ∧ ∀ k, k < ru.length → i (m + 5) k = (ru_d ru k).1 ∧ i (m + 6) k = (ru_d ru k).2.1 ∧ i (m + 7) k = (ru_d ru k).2.2.1 ∧ i (m + 8) k = nI (ru_d ru k).2.2.2.length ∧ ∀ j, j < (ru_d ru k).2.2.2.length → i (m + 9) (10 * k + j) = ((ru_d ru k).2.2.2.getD j (0, 0, 0)).1 ∧ i (m + 10) (10 * k + j) = ((ru_d ru k).2.2.2.getD j (0, 0, 0)).2.1 ∧ i (m + 11) (10 * k + j) = ((ru_d ru k).2.2.2.getD j (0, 0, 0)).2.2
def mp_fld (i : Wi) (m : Nat) (F : List (List Int32)) : Prop := i (m + 0) 15 = nI F.length ∧ ∀ k, k < F.length → i (m + 13) k = nI (F.getD k []).length ∧ mz i (m + 12) (120 * k) (F.getD k [])
def mp_cnt (i : Wi) (m : Nat) (co : Nat → Int32) : Prop := ∀ k, k < 8 → i (m + 14) k = co k
def mp_tab (i : Wi) (m : Nat) (K : KtS) : Prop := i (m + 0) 19 = nI K.length ∧ ∀ k, k < K.length → i (m + 16) k = nI (kt_at K k).1.length ∧ i (m + 17) k = (kt_at K k).2 ∧ mz i (m + 15) (120 * k) (kt_at K k).1
def mp_out (i : Wi) (m : Nat) (p : List Int32) : Prop := i (m + 0) 23 = nI p.length ∧ ∀ k, k < p.length → p.length ≤ k + 1500 → i (m + 18) (k % 1500) = p.getD k 0
theorem mp_rul.fr {ru : List RuS} (h : mp_rul i m ru) (hf : mf m S i i') (h0 : ms_no S 0 6 7) (hs : ∀ c, 5 ≤ c → c ≤ 11 → ∀ q ∈ S, q.1 ≠ c) : mp_rul i' m ru := by
  have at' : ∀ c k, 5 ≤ c → c ≤ 11 → i' (m + c) k = i (m + c) k := fun c k c1 c2 => hf.at (fun q hq z => absurd z (hs c c1 c2 q hq))
  refine ⟨(hf.at h0).trans h.1, fun k hk => ?_⟩
  obtain ⟨a1, a2, a3, a4, a5⟩ := h.2 k hk
  refine ⟨(at' 5 k (by omega) (by omega)).trans a1, (at' 6 k (by omega) (by omega)).trans a2, (at' 7 k (by omega) (by omega)).trans a3, (at' 8 k (by omega) (by omega)).trans a4, fun j hj => ?_⟩
  obtain ⟨b1, b2, b3⟩ := a5 j hj
  exact ⟨(at' 9 _ (by omega) (by omega)).trans b1, (at' 10 _ (by omega) (by omega)).trans b2, (at' 11 _ (by omega) (by omega)).trans b3⟩
theorem mp_fld.fr {F : List (List Int32)} (h : mp_fld i m F) (hf : mf m S i i') (h0 : ms_no S 0 15 16) (hs : ∀ c, 12 ≤ c → c ≤ 13 → ∀ q ∈ S, q.1 ≠ c) : mp_fld i' m F := ⟨(hf.at h0).trans h.1, fun k hk => ⟨(hf.at (fun q hq z => absurd z (hs 13 (by omega) (by omega) q hq))).trans (h.2 k hk).1, (h.2 k hk).2.fr hf (fun q hq z => absurd z (hs 12 (by omega) (by omega) q hq))⟩⟩
theorem mp_cnt.fr {co : Nat → Int32} (h : mp_cnt i m co) (hf : mf m S i i') (hs : ∀ q ∈ S, q.1 ≠ 14) : mp_cnt i' m co := fun k hk => (hf.at (fun q hq z => absurd z (hs q hq))).trans (h k hk)
theorem mp_tab.fr {K : KtS} (h : mp_tab i m K) (hf : mf m S i i') (h0 : ms_no S 0 19 20) (hs : ∀ c, 15 ≤ c → c ≤ 17 → ∀ q ∈ S, q.1 ≠ c) : mp_tab i' m K := ⟨(hf.at h0).trans h.1, fun k hk => ⟨(hf.at (fun q hq z => absurd z (hs 16 (by omega) (by omega) q hq))).trans (h.2 k hk).1, (hf.at (fun q hq z => absurd z (hs 17 (by omega) (by omega) q hq))).trans (h.2 k hk).2.1, (h.2 k hk).2.2.fr hf (fun q hq z => absurd z (hs 15 (by omega) (by omega) q hq))⟩⟩
theorem mp_out.fr {p : List Int32} (h : mp_out i m p) (hf : mf m S i i') (h0 : ms_no S 0 23 24) (hs : ∀ q ∈ S, q.1 ≠ 18) : mp_out i' m p := ⟨(hf.at h0).trans h.1, fun k hk hk2 => (hf.at (fun q hq z => absurd z (hs q hq))).trans (h.2 k hk hk2)⟩
theorem mx.fr {k : Nat} {w : List Int32} (h : mx i m k w) (hf : mf m S i i') (hs : ∀ q ∈ S, q.1 ≠ 3 ∧ q.1 ≠ 4) : mx i' m k w := ⟨(hf.at (fun q hq z => absurd z (hs q hq).2)).trans h.1, h.2.fr hf (fun q hq z => absurd z (hs q hq).1)⟩
end
