/-! a LineRules object at b: what it holds, part by part -/
/-- a row of signs -/
def s1 (w : List Int32) : Prop := w.length ≤ 120 ∧ ∀ j, j < w.length → ∃ c : Nat, 1 ≤ c ∧ c < 256 ∧ w.getD j 0 = nI c
def ru_d (ru : List RuS) (k : Nat) : RuS := ru.getD k (0, 0, 0, [])
def ru_ok (u : RuS) : Prop := u.2.2.2.length ≤ 10 ∧ pt_ok u.1 u.2.1 u.2.2.1 = true ∧ ∀ k, k < u.2.2.2.length → ac_ok (u.2.2.2.getD k (0, 0, 0)).1 (u.2.2.2.getD k (0, 0, 0)).2.1 (u.2.2.2.getD k (0, 0, 0)).2.2 = true
def lp_pad (i : Wi) (b : Nat) (w : List Int32) : Prop := rw_is i (b + 1) (b + 2) w ∧ s1 w
def lp_txt (i : Wi) (b : Nat) (tx : Nat → List Int32) : Prop := ∀ k, k < 6 → rw_is i (b + (97 + 2 * k)) (b + (97 + 2 * k + 1)) (tx k) ∧ s1 (tx k)
def lp_exp (t : Wt) (r : Wr) (i : Wi) (g : Wl) (b : Nat) (pm : Nat → Nat) (sx : Nat → List Int32) : Prop := ∀ k, k < 6 → ex_is t r i g (b + xo (pm k)) (ps_rel (sx k)) ∧ s1 (sx k) ∧ (sx k).length ≤ 60 ∧ ∃ q, ps_read (sx k) = .inr q
def lp_rul (i : Wi) (b : Nat) (ru : List RuS) : Prop := i (b + 0) 10 = nI ru.length ∧ ru.length ≤ 12 ∧ ∀ k, k < ru.length → ru_is i (b + (145 + 4 * k)) (b + (145 + 4 * k + 1)) (b + (145 + 4 * k + 2)) (b + (145 + 4 * k + 3)) (ru_d ru k) ∧ ru_ok (ru_d ru k)
def lp_cut (i : Wi) (b : Nat) (W : List Int32) (F : List (List Int32)) : Prop := cu_is i (b + 21) (lr_P b) (lr_R b) W F ∧ s1 W ∧ ∀ k, k < F.length → s1 (F.getD k [])
def lp_cnt (i : Wi) (b : Nat) (co : Nat → Int32) : Prop := ∀ k, k < 8 → i (b + 89) k = co k
def lp_tab (t : Wt) (r : Wr) (i : Wi) (b : Nat) (K : KtS) : Prop := tb_is (b + 222) t r i (b + 90) (b + 91) (b + 92) K ∧ ∀ k, k < K.length → s1 (kt_at K k).1
def lp_sep (i : Wi) (b : Nat) (sp : Int32) : Prop := i (b + 0) 12 = sp ∧ ∃ c : Nat, 1 ≤ c ∧ c < 256 ∧ sp = nI c
def lp_lin (i : Wi) (b lc : Nat) : Prop := i (b + 0) 11 = nI lc
def lp_end (i : Wi) (b : Nat) (fe : Option Nat) : Prop := i (b + 0) 13 = oI fe ∧ ∀ f, fe = some f → f ≤ 120
/-- a list of cells has none from lo to hi of the object -/
def cl_no (b lo hi : Nat) (S : List Nat) : Prop := ∀ z ∈ S, z < b + lo ∨ b + hi < z
section
variable {t : Wt} {r : Wr} {i i' : Wi} {g : Wl} {b : Nat} {S : List Nat}
theorem cl_no.at {lo hi o : Nat} (h : cl_no b lo hi S) (h1 : lo ≤ o) (h2 : o ≤ hi) : b + o ∉ S := fun z => by
  rcases h _ z with q | q <;> omega
theorem s1_ok {w : List Int32} (h : s1 w) : sg_ok w := fun j hj => by
  obtain ⟨c, h1, h2, h3⟩ := h.2 j hj
  rw [h3]
  exact vp_in_nI h2 (by omega)
theorem lp_pad.fr {w : List Int32} (h : lp_pad i b w) (hf : fr_is S i i') (hS : cl_no b 1 2 S) : lp_pad i' b w := ⟨h.1.fr hf (hS.at (by omega) (by omega)) (hS.at (by omega) (by omega)), h.2⟩
theorem lp_txt.fr {tx : Nat → List Int32} (h : lp_txt i b tx) (hf : fr_is S i i') (hS : cl_no b 97 108 S) : lp_txt i' b tx := fun k hk => ⟨(h k hk).1.fr hf (hS.at (by omega) (by omega)) (hS.at (by omega) (by omega)), (h k hk).2⟩
theorem lp_rul.fr {ru : List RuS} (h : lp_rul i b ru) (hf : fr_is S i i') (h0 : i' (b + 0) 10 = i (b + 0) 10) (hS : cl_no b 145 192 S) : lp_rul i' b ru := ⟨h0.trans h.1, h.2.1, fun k hk => ⟨(h.2.2 k hk).1.fr hf (hS.at (by omega) (by have := h.2.1; omega)) (hS.at (by omega) (by have := h.2.1; omega)) (hS.at (by omega) (by have := h.2.1; omega)) (hS.at (by omega) (by have := h.2.1; omega)), (h.2.2 k hk).2⟩⟩
theorem lp_cnt.fr {co : Nat → Int32} (h : lp_cnt i b co) (hf : fr_is S i i') (hS : cl_no b 89 89 S) : lp_cnt i' b co := fun k hk => (hf _ (hS.at (by omega) (by omega)) k).trans (h k hk)
theorem lr_P_r (k : Nat) (hk : k < 33) : ∃ o, 22 ≤ o ∧ o ≤ 87 ∧ lr_P b k = b + o ∧ lr_R b k = b + (o + 1) := by
  unfold lr_R lr_P
  by_cases h1 : k < 30
  · rw [if_pos h1]; exact ⟨29 + 2 * k, by omega, by omega, rfl, rfl⟩
  rw [if_neg h1]
  by_cases h2 : k = 30
  · rw [if_pos h2]; exact ⟨22, by omega, by omega, rfl, rfl⟩
  rw [if_neg h2]
  by_cases h3 : k = 31
  · rw [if_pos h3]; exact ⟨27, by omega, by omega, rfl, rfl⟩
  rw [if_neg h3]
  exact ⟨25, by omega, by omega, rfl, rfl⟩
theorem lp_cut.fr {W : List Int32} {F : List (List Int32)} (h : lp_cut i b W F) (hf : fr_is S i i') (hS : cl_no b 21 88 S) : lp_cut i' b W F := by
  obtain ⟨⟨h1, h2, ⟨h3, h4⟩, h5, h6⟩, h7, h8⟩ := h
  have hp : ∀ k, k < 33 → lr_P b k ∉ S ∧ lr_R b k ∉ S := fun k hk => by
    obtain ⟨o, o1, o2, o3, o4⟩ := lr_P_r (b := b) k hk
    rw [o3, o4]
    exact ⟨hS.at (by omega) (by omega), hS.at (by omega) (by omega)⟩
  exact ⟨⟨(hf _ (hS.at (by omega) (by omega)) 1).trans h1, h2, ⟨h3.fr hf (hp 30 (by omega)).1 (hp 30 (by omega)).2, h4⟩, fun k hk => ⟨(h5 k hk).1.fr hf (hp k (by omega)).1 (hp k (by omega)).2, (h5 k hk).2⟩, (hf _ (hp 32 (by omega)).1 1).trans h6⟩, h7, h8⟩
/-- the cells of the line are cells 21 to 88 of the object -/
theorem cu_fp_in {z : Nat} (h : z ∈ cu_fp (b + 21) (lr_P b) (lr_R b)) : b + 21 ≤ z ∧ z ≤ b + 88 := by
  unfold cu_fp at h
  rcases List.mem_cons.mp h with rfl | h
  · omega
  rcases List.mem_append.mp h with h | h
  · obtain ⟨k, h1, h2⟩ := List.mem_map.mp h
    obtain ⟨o, o1, o2, o3, o4⟩ := lr_P_r (b := b) k (List.mem_range.mp h1)
    omega
  · obtain ⟨k, h1, h2⟩ := List.mem_map.mp h
    obtain ⟨o, o1, o2, o3, o4⟩ := lr_P_r (b := b) k (List.mem_range.mp h1)
    omega
theorem cu_fp_no {lo hi : Nat} (h : hi < 21 ∨ 88 < lo) : cl_no b lo hi (cu_fp (b + 21) (lr_P b) (lr_R b)) := fun z hz => by
  have := cu_fp_in hz
  omega
end
