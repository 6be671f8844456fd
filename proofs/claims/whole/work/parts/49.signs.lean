/-! all signs of what is made are signs -/
def sA (w : List Int32) : Prop := ∀ x ∈ w, ∃ c : Nat, 1 ≤ c ∧ c < 256 ∧ x = nI c
theorem s1_A {w : List Int32} (h : s1 w) : sA w := fun x hx => by
  obtain ⟨j, hj, rfl⟩ := List.mem_iff_getElem.mp hx
  obtain ⟨c, h1, h2, h3⟩ := h.2 j hj
  refine ⟨c, h1, h2, ?_⟩
  rw [List.getD_eq_getElem?_getD, List.getElem?_eq_getElem hj] at h3
  exact h3
theorem s1_of {w : List Int32} (hl : w.length ≤ 120) (h : sA w) : s1 w := ⟨hl, fun j hj => by
  obtain ⟨c, h1, h2, h3⟩ := h _ (List.getElem_mem hj)
  refine ⟨c, h1, h2, ?_⟩
  rw [List.getD_eq_getElem?_getD, List.getElem?_eq_getElem hj]
  exact h3⟩
theorem sA_nil : sA [] := fun x hx => absurd hx (List.not_mem_nil)
theorem sA_ap {w v : List Int32} (h1 : sA w) (h2 : sA v) : sA (w ++ v) := fun x hx => (List.mem_append.mp hx).elim (h1 x) (h2 x)
theorem sA_take {w : List Int32} (h : sA w) (n : Nat) : sA (w.take n) := fun x hx => h x (List.mem_of_mem_take hx)
theorem sA_drop {w : List Int32} (h : sA w) (n : Nat) : sA (w.drop n) := fun x hx => h x (List.mem_of_mem_drop hx)
theorem sA_cons {w : List Int32} {x : Int32} (hx : ∃ c : Nat, 1 ≤ c ∧ c < 256 ∧ x = nI c) (h : sA w) : sA (x :: w) := fun y hy => by
  rcases List.mem_cons.mp hy with rfl | hy
  · exact hx
  · exact h y hy
theorem sA_ws (v : Int32) (n : Nat) : ∀ k, sA (ws_go v n k) := by
  induction n with
  | zero => exact fun k => sA_nil
  | succ n ih =>
    intro k
    unfold ws_go
    split
    · exact ih _
    · rename_i h
      refine sA_cons ?_ (ih _)
      have hin := pk_andIn ((v.toUInt32 >>> ((nI (8 * k)).toUInt32 &&& Int32.toUInt32 31)).toInt32) (m := 255) 8 (by decide) (by decide)
      obtain ⟨c, h1, h2⟩ := vp_in_of hin (by decide)
      refine ⟨c, Nat.pos_of_ne_zero (fun z => h ?_), h1, h2⟩
      rw [z] at h2
      exact h2
def sF (F : List (List Int32)) : Prop := ∀ x ∈ F, s1 x
theorem sF_d {F : List (List Int32)} (h : sF F) (k : Nat) (hk : k < F.length) : s1 (F.getD k []) := by
  rw [List.getD_eq_getElem?_getD, List.getElem?_eq_getElem hk]
  exact h _ (List.getElem_mem hk)
theorem sF_of {F : List (List Int32)} (h : ∀ k, k < F.length → s1 (F.getD k [])) : sF F := fun x hx => by
  obtain ⟨j, hj, rfl⟩ := List.mem_iff_getElem.mp hx
  have := h j hj
  rw [List.getD_eq_getElem?_getD, List.getElem?_eq_getElem hj] at this
  exact this
theorem sF_add {F : List (List Int32)} {x : List Int32} (h : sF F) (hx : s1 x) : sF (fl_add F x) := by
  unfold fl_add
  split
  · intro y hy
    rcases List.mem_append.mp hy with hy | hy
    · exact h y hy
    · rw [List.mem_singleton.mp hy]; exact hx
  · exact h
theorem sF_go {W : List Int32} {sp : Int32} (hW : s1 W) (k : Nat) : ∀ (j b : Nat) (F : List (List Int32)), sF F → sF (fl_go W sp k j b F) := by
  induction k with
  | zero => exact fun j b F h => h
  | succ k ih =>
    intro j b F h
    unfold fl_go
    split
    · apply ih
      split
      · refine sF_add h (s1_of ?_ (sA_take (sA_drop (s1_A hW) _) _))
        have := hW.1
        rw [List.length_take, List.length_drop]
        omega
      · exact h
    · exact ih _ _ _ h
theorem sF_cut {W : List Int32} {sp : Int32} (hW : s1 W) : sF (fl_cut W sp) := sF_go hW _ _ _ _ (fun x hx => absurd hx (List.not_mem_nil))
theorem sA_cat {sp : Int32} {F : List (List Int32)} (hs : ∃ c : Nat, 1 ≤ c ∧ c < 256 ∧ sp = nI c) (h : sF F) : sA (fl_cat sp F) := by
  cases F with
  | nil => exact sA_nil
  | cons x q =>
    refine sA_ap (s1_A (h x (List.mem_cons_self))) (fun y hy => ?_)
    obtain ⟨z, hz, hy⟩ := List.mem_flatMap.mp hy
    exact sA_cons hs (s1_A (h z (List.mem_cons_of_mem _ hz))) y hy
theorem sF_set {F : List (List Int32)} {f k : Nat} {v : List Int32} (h : sF F) (hv : s1 v) : sF ((fl_fill F f).set k v) := fun x hx => by
  rcases List.mem_or_eq_of_mem_set hx with hx | rfl
  · unfold fl_fill at hx
    rcases List.mem_append.mp hx with hx | hx
    · exact h x hx
    · rw [(List.mem_replicate.mp hx).2]; exact s1_nil
  · exact hv
theorem sA_rp {X : Rel} {w T : List Int32} (hw : sA w) (hT : sA T) (k : Nat) : ∀ (d : Nat) (q : Option Nat) (o : List Int32), sA o → sA (rp_go X w T k d q o) := by
  induction k with
  | zero => exact fun d q o h => sA_ap h (sA_drop hw d)
  | succ k ih =>
    intro d q o h
    cases q with
    | none => exact sA_ap h (sA_drop hw d)
    | some b =>
      show sA (match en_of X w b with
        | none => o ++ w.drop d
        | some e => rp_go X w T k e (mb_of X w e) (o ++ (w.drop d).take (b - d) ++ T))
      cases en_of X w b with
      | none => exact sA_ap h (sA_drop hw d)
      | some e => exact ih _ _ _ (sA_ap (sA_ap h (sA_take (sA_drop hw d) _)) hT)
theorem sA_ds (v k : Nat) : sA (nm_ds v k) := by
  induction k with
  | zero => exact sA_cons ⟨48 + v % 10, by omega, by omega, rfl⟩ sA_nil
  | succ k ih => exact sA_cons ⟨48 + v / 10 ^ (k + 1) % 10, by omega, by have := Nat.mod_lt (v / 10 ^ (k + 1)) (show 10 > 0 by decide); omega, rfl⟩ ih
theorem s1_nm (x : Int32) : s1 (nm_of x) ∧ (nm_of x).length ≤ 11 := by
  have hl : (nm_of x).length ≤ 11 := by
    unfold nm_of
    rw [List.length_append, nm_ds_len]
    have := nm_k_le x.toInt.natAbs
    split
    · simp only [List.length_cons, List.length_nil]; omega
    · simp only [List.length_nil]; omega
  refine ⟨s1_of (by omega) (sA_ap ?_ (sA_ds _ _)), hl⟩
  split
  · exact sA_cons ⟨45, by omega, by omega, rfl⟩ sA_nil
  · exact sA_nil
theorem s1_fld {F : List (List Int32)} {f : Int32} (h : sF F) : s1 (fld F f) := by
  unfold fld
  split
  · exact sF_d h _ (by omega)
  · exact s1_nil
/-- keys' texts are rows of signs -/
def sK (K : KtS) : Prop := ∀ q ∈ K, s1 q.1
theorem sK_d {K : KtS} (h : sK K) (k : Nat) (hk : k < K.length) : s1 (kt_at K k).1 := by
  unfold kt_at
  rw [List.getD_eq_getElem?_getD, List.getElem?_eq_getElem hk]
  exact h _ (List.getElem_mem hk)
theorem sK_of {K : KtS} (h : ∀ k, k < K.length → s1 (kt_at K k).1) : sK K := fun x hx => by
  obtain ⟨j, hj, rfl⟩ := List.mem_iff_getElem.mp hx
  have := h j hj
  unfold kt_at at this
  rw [List.getD_eq_getElem?_getD, List.getElem?_eq_getElem hj] at this
  exact this
theorem sK_grow {K : KtS} {v : List Int32} {x : Int32} (h : sK K) (hv : s1 v) : sK (kt_grow v x K) := by
  unfold kt_grow
  split
  · rename_i hc
    intro q hq
    rcases List.mem_or_eq_of_mem_set hq with hq | rfl
    · exact h q hq
    · exact sK_d h _ hc.1
  · split
    · intro q hq
      rcases List.mem_append.mp hq with hq | hq
      · exact h q (List.mem_of_mem_take hq)
      · rcases List.mem_cons.mp hq with rfl | hq
        · exact hv
        · exact h q (List.mem_of_mem_drop hq)
    · exact h
