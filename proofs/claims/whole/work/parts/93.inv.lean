/-! the law: one state, seen in the class (cells b to b + 192) and in the reference (cells m to m + 27, m = b + 193); the array of one long at b + 221 -/
def cl_I (t : Wt) (r : Wr) (i : Wi) (g : Wl) (b : Nat) (pm : Nat → Nat) (sx tx : Nat → List Int32) (w : List Int32) (sp : Int32) (ru : List RuS) (v : LnS) (lc : Nat) (fe : Option Nat) : Prop := lr_at t r b pm ∧ lp_pad i b w ∧ lp_txt i b tx ∧ lp_exp t r i g b pm sx ∧ lp_rul i b ru ∧ ln_is t r i b v ∧ lp_sep i b sp ∧ lp_lin i b lc ∧ lp_end i b fe
def md_I (t : Wt) (r : Wr) (i : Wi) (m : Nat) (sx tx : Nat → List Int32) (w : List Int32) (sp : Int32) (ru : List RuS) (v : LnS) (lc : Nat) (fe : Option Nat) : Prop := mo_at t r m ∧ mr i m 0 w ∧ mp_txt i m tx ∧ mp_exp i m sx ∧ mp_rul i m ru ∧ mn_is i m v ∧ i (m + 0) 5 = sp ∧ i (m + 0) 14 = nI lc ∧ i (m + 0) 25 = oI fe
/-- the reference's cells -/
def mo_C (b : Nat) : List Nat := (List.range 28).map (fun c => b + 193 + c)
section
variable {t t' : Wt} {r r' : Wr} {i i' : Wi} {g g' : Wl} {b m nx : Nat} {pm : Nat → Nat} {sx tx : Nat → List Int32} {w w' : List Int32} {sp : Int32} {ru : List RuS} {v : LnS} {lc : Nat} {fe : Option Nat} {S : Ms}
theorem mo_C_in {z : Nat} (h : z ∈ mo_C b) : b + 193 ≤ z ∧ z < b + 221 := by
  obtain ⟨c, h1, rfl⟩ := List.mem_map.mp h
  have := List.mem_range.mp h1
  omega
theorem mo_C_no {lo hi : Nat} (h : hi < 193) : cl_no b lo hi (mo_C b) := fun z hz => by
  have := mo_C_in hz
  omega
theorem mf_fr (hf : mf (b + 193) S i i') (hS : ∀ q ∈ S, q.1 < 28) : fr_is (mo_C b) i i' := fun z hz k => hf z k (fun q hq ⟨h1, _, _⟩ => hz (List.mem_map.mpr ⟨q.1, List.mem_range.mpr (hS q hq), h1.symm⟩))
/-- the class does not see what the reference does -/
theorem cl_I.mo (h : cl_I t r i g b pm sx tx w sp ru v lc fe) (hf : fr_is (mo_C b) i i') : cl_I t r i' g b pm sx tx w sp ru v lc fe := by
  obtain ⟨h1, h2, h3, h4, h5, ⟨h6, h7, h8, h9⟩, h10, h11, h12⟩ := h
  have at0 : ∀ k, i' (b + 0) k = i (b + 0) k := fun k => hf _ ((mo_C_no (lo := 0) (hi := 0) (by omega)).at (by omega) (by omega)) k
  exact ⟨h1, h2.fr hf (mo_C_no (by omega)), h3.fr hf (mo_C_no (by omega)), h4.fr h1 hf (mo_C_no (by omega)) (mo_C_no (by omega)), h5.fr hf (at0 10) (mo_C_no (by omega)), ⟨h6.fr hf (mo_C_no (by omega)), h7.fr hf (mo_C_no (by omega)), h8.fr hf (mo_C_no (by omega)) (fun z hz => by have := mo_C_in hz; omega), h9.fr hf ((mo_C_no (lo := 93) (hi := 94) (by omega)).at (by omega) (by omega)) ((mo_C_no (lo := 93) (hi := 94) (by omega)).at (by omega) (by omega))⟩, ⟨(at0 12).trans h10.1, h10.2⟩, (at0 11).trans h11, ⟨(at0 13).trans h12.1, h12.2⟩⟩
/-- the reference does not see what the class does -/
theorem md_I.cl (h : md_I t r i m sx tx w sp ru v lc fe) (hA : mo_at t' r' m) (e : ∀ c j, c < 28 → i' (m + c) j = i (m + c) j) : md_I t' r' i' m sx tx w sp ru v lc fe := by
  obtain ⟨-, h2, h3, h4, h5, ⟨h6, h7, h8, h9, h10⟩, h11, h12, h13⟩ := h
  have kr : ∀ {k w}, mr i m k w → mr i' m k w := fun h => ⟨(e 2 _ (by omega)).trans h.1, fun j hj => (e 1 _ (by omega)).trans (h.2 j hj)⟩
  refine ⟨hA, kr h2, fun k hk => ⟨kr (h3 k hk).1, (h3 k hk).2⟩, fun k hk => ⟨⟨(e 4 _ (by omega)).trans (h4 k hk).1.1, fun j hj => (e 3 _ (by omega)).trans ((h4 k hk).1.2 j hj)⟩, (h4 k hk).2⟩, ⟨(e 0 _ (by omega)).trans h5.1, fun k hk => ?_⟩, ⟨kr h6, ⟨(e 0 _ (by omega)).trans h7.1, fun k hk => ⟨(e 13 _ (by omega)).trans (h7.2 k hk).1, fun j hj => (e 12 _ (by omega)).trans ((h7.2 k hk).2 j hj)⟩⟩, fun k hk => (e 14 _ (by omega)).trans (h8 k hk), ⟨(e 0 _ (by omega)).trans h9.1, fun k hk => ⟨(e 16 _ (by omega)).trans (h9.2 k hk).1, (e 17 _ (by omega)).trans (h9.2 k hk).2.1, fun j hj => (e 15 _ (by omega)).trans ((h9.2 k hk).2.2 j hj)⟩⟩, ⟨(e 0 _ (by omega)).trans h10.1, fun k hk hk2 => (e 18 _ (by omega)).trans (h10.2 k hk hk2)⟩⟩, (e 0 _ (by omega)).trans h11, (e 0 _ (by omega)).trans h12, (e 0 _ (by omega)).trans h13⟩
  obtain ⟨a1, a2, a3, a4, a5⟩ := h5.2 k hk
  refine ⟨(e 5 _ (by omega)).trans a1, (e 6 _ (by omega)).trans a2, (e 7 _ (by omega)).trans a3, (e 8 _ (by omega)).trans a4, fun j hj => ?_⟩
  obtain ⟨b1, b2, b3⟩ := a5 j hj
  exact ⟨(e 9 _ (by omega)).trans b1, (e 10 _ (by omega)).trans b2, (e 11 _ (by omega)).trans b3⟩
theorem mp_txt.fr (h : mp_txt i m tx) (hf : mf m S i i') (h2 : ms_no S 2 2 8) (h1 : ms_no S 1 240 960) : mp_txt i' m tx := fun k hk => ⟨(h k hk).1.fr hf (h k hk).2.1 (h2.mono (by omega) (by omega)) (h1.mono (by omega) (by omega)), (h k hk).2⟩
theorem mn_is.fr (h : mn_is i m v) (hl : v.1.length ≤ 120) (hf : mf m S i i') (a1 : ms_no S 2 1 2) (a2 : ms_no S 1 120 240) (a3 : ms_no S 0 15 16) (a4 : ms_no S 0 19 20) (a5 : ms_no S 0 23 24) (a6 : ∀ c, 12 ≤ c → c ≤ 18 → ∀ q ∈ S, q.1 ≠ c) : mn_is i' m v := by
  obtain ⟨h1, h2, h3, h4, h5⟩ := h
  exact ⟨h1.fr hf hl a1 a2, h2.fr hf a3 (fun c c1 c2 => a6 c (by omega) (by omega)), h3.fr hf (a6 14 (by omega) (by omega)), h4.fr hf a4 (fun c c1 c2 => a6 c (by omega) (by omega)), h5.fr hf a5 (a6 18 (by omega) (by omega))⟩
/-- all of the reference's parts but those that are given anew -/
theorem md_I.pad (h : md_I t r i m sx tx w sp ru v lc fe) (hl : v.1.length ≤ 120) (hf : mf m S i i') (hS : ∀ q ∈ S, (q.1 = 0 ∧ q.2.2 ≤ 1) ∨ (q.1 = 2 ∧ q.2.2 ≤ 1) ∨ (q.1 = 1 ∧ q.2.2 ≤ 120)) (hw : mr i' m 0 w') : md_I t r i' m sx tx w' sp ru v lc fe := by
  obtain ⟨h1, h2, h3, h4, h5, h6, h11, h12, h13⟩ := h
  have no : ∀ c lo hi, (c = 0 ∧ 1 ≤ lo) ∨ (c = 2 ∧ 1 ≤ lo) ∨ (c = 1 ∧ 120 ≤ lo) ∨ 3 ≤ c → ms_no S c lo hi := fun c lo hi hc q hq z => by
    rcases hS q hq with ⟨q1, q2⟩ | ⟨q1, q2⟩ | ⟨q1, q2⟩ <;> omega
  have ne : ∀ c, 3 ≤ c → ∀ q ∈ S, q.1 ≠ c := fun c hc q hq z => by
    rcases hS q hq with ⟨q1, q2⟩ | ⟨q1, q2⟩ | ⟨q1, q2⟩ <;> omega
  exact ⟨h1, hw, h3.fr hf (no _ _ _ (by omega)) (no _ _ _ (by omega)), h4.fr hf (fun q hq => ⟨ne 3 (by omega) q hq, ne 4 (by omega) q hq⟩), h5.fr hf (no _ _ _ (by omega)) (fun c c1 c2 => ne c (by omega)), h6.fr hl hf (no _ _ _ (by omega)) (no _ _ _ (by omega)) (no _ _ _ (by omega)) (no _ _ _ (by omega)) (no _ _ _ (by omega)) (fun c c1 c2 => ne c (by omega)), (hf.at (no _ _ _ (by omega))).trans h11, (hf.at (no _ _ _ (by omega))).trans h12, (hf.at (no _ _ _ (by omega))).trans h13⟩
theorem md_I.z (h : md_I t r i m sx tx w sp ru v lc fe) (hl : v.1.length ≤ 120) {x : Int32} : md_I t r (wf_up i (m + 0) 0 x) m sx tx w sp ru v lc fe := h.pad (S := [(0, 0, 1)]) hl (mf_up mf_rf ⟨(0, 0, 1), by simp, rfl, by decide, by decide⟩) (fun q hq => by rw [List.mem_singleton.mp hq]; exact Or.inl ⟨rfl, Nat.le_refl _⟩) h.2.1.z
theorem z_fr {x : Int32} : fr_is (mo_C b) i (wf_up i (b + 193 + 0) 0 x) := mf_fr (S := [(0, 0, 1)]) (mf_up mf_rf ⟨(0, 0, 1), by simp, rfl, by decide, by decide⟩) (fun q hq => by rw [List.mem_singleton.mp hq]; decide)
end
