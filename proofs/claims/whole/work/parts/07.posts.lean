/-! ends of methods that make no cell and change ints alone (qI, qV, qR: an int, nothing, a reference), that change ints and longs (qIl, qVl); and calls of such methods -/
abbrev qI (nx : Nat) (t : Wt) (r : Wr) (g : Wl) (post : Int32 → Wi → Prop) : Wq := fun o nx' t' r' i' g' => ∃ x : Int32, o = .inl (some (.int x)) ∧ nx' = nx ∧ t' = t ∧ r' = r ∧ g' = g ∧ post x i'
abbrev qV (nx : Nat) (t : Wt) (r : Wr) (g : Wl) (post : Wi → Prop) : Wq := fun o nx' t' r' i' g' => o = .inl none ∧ nx' = nx ∧ t' = t ∧ r' = r ∧ g' = g ∧ post i'
abbrev qL (nx : Nat) (t : Wt) (r : Wr) (g : Wl) (post : Int64 → Wi → Prop) : Wq := fun o nx' t' r' i' g' => ∃ x : Int64, o = .inl (some (.long x)) ∧ nx' = nx ∧ t' = t ∧ r' = r ∧ g' = g ∧ post x i'
abbrev qR (nx : Nat) (t : Wt) (r : Wr) (g : Wl) (post : Nat → Wi → Prop) : Wq := fun o nx' t' r' i' g' => ∃ x : Nat, o = .inl (some (.ref x)) ∧ nx' = nx ∧ t' = t ∧ r' = r ∧ g' = g ∧ post x i'
abbrev qIl (nx : Nat) (t : Wt) (r : Wr) (post : Int32 → Wi → Wl → Prop) : Wq := fun o nx' t' r' i' g' => ∃ x : Int32, o = .inl (some (.int x)) ∧ nx' = nx ∧ t' = t ∧ r' = r ∧ post x i' g'
abbrev qVl (nx : Nat) (t : Wt) (r : Wr) (post : Wi → Wl → Prop) : Wq := fun o nx' t' r' i' g' => o = .inl none ∧ nx' = nx ∧ t' = t ∧ r' = r ∧ post i' g'
section WfPosts
variable {l : Launch} {E : We} {n0 : Nat} {M : Wm} {d mc ms : Nat} {Q : Wq} {bk bn pc : Nat} {L : List (Nat × Value)} {st : List Value} {nx : Nat} {t : Wt} {r : Wr} {i : Wi} {g : Wl}
theorem qI_nt {post : Int32 → Wi → Prop} : ∀ X nx' t' r' i' g', ¬ qI nx t r g post (.inr X) nx' t' r' i' g' := by
  rintro X nx' t' r' i' g' ⟨x, h, -⟩
  cases h
theorem qV_nt {post : Wi → Prop} : ∀ X nx' t' r' i' g', ¬ qV nx t r g post (.inr X) nx' t' r' i' g' := by
  rintro X nx' t' r' i' g' ⟨h, -⟩
  cases h
theorem qL_nt {post : Int64 → Wi → Prop} : ∀ X nx' t' r' i' g', ¬ qL nx t r g post (.inr X) nx' t' r' i' g' := by
  rintro X nx' t' r' i' g' ⟨x, h, -⟩
  cases h
theorem qR_nt {post : Nat → Wi → Prop} : ∀ X nx' t' r' i' g', ¬ qR nx t r g post (.inr X) nx' t' r' i' g' := by
  rintro X nx' t' r' i' g' ⟨x, h, -⟩
  cases h
theorem qIl_nt {post : Int32 → Wi → Wl → Prop} : ∀ X nx' t' r' i' g', ¬ qIl nx t r post (.inr X) nx' t' r' i' g' := by
  rintro X nx' t' r' i' g' ⟨x, h, -⟩
  cases h
theorem qVl_nt {post : Wi → Wl → Prop} : ∀ X nx' t' r' i' g', ¬ qVl nx t r post (.inr X) nx' t' r' i' g' := by
  rintro X nx' t' r' i' g' ⟨h, -⟩
  cases h
theorem qI_go {post : Int32 → Wi → Prop} (k : ∀ x i', post x i' → Wf l E n0 M d mc ms Q bk bn pc L (.int x :: st) nx t r i' g) : ∀ v nx' t' r' i' g', qI nx t r g post (.inl v) nx' t' r' i' g' → Wf l E n0 M d mc ms Q bk bn pc L (v.toList ++ st) nx' t' r' i' g' := by
  rintro v nx' t' r' i' g' ⟨x, h, rfl, rfl, rfl, rfl, hp⟩
  cases h
  exact k x i' hp
theorem qV_go {post : Wi → Prop} (k : ∀ i', post i' → Wf l E n0 M d mc ms Q bk bn pc L st nx t r i' g) : ∀ v nx' t' r' i' g', qV nx t r g post (.inl v) nx' t' r' i' g' → Wf l E n0 M d mc ms Q bk bn pc L (v.toList ++ st) nx' t' r' i' g' := by
  rintro v nx' t' r' i' g' ⟨h, rfl, rfl, rfl, rfl, hp⟩
  cases h
  exact k i' hp
theorem qL_go {post : Int64 → Wi → Prop} (k : ∀ x i', post x i' → Wf l E n0 M d mc ms Q bk bn pc L (.long x :: st) nx t r i' g) : ∀ v nx' t' r' i' g', qL nx t r g post (.inl v) nx' t' r' i' g' → Wf l E n0 M d mc ms Q bk bn pc L (v.toList ++ st) nx' t' r' i' g' := by
  rintro v nx' t' r' i' g' ⟨x, h, rfl, rfl, rfl, rfl, hp⟩
  cases h
  exact k x i' hp
theorem qR_go {post : Nat → Wi → Prop} (k : ∀ x i', post x i' → Wf l E n0 M d mc ms Q bk bn pc L (.ref x :: st) nx t r i' g) : ∀ v nx' t' r' i' g', qR nx t r g post (.inl v) nx' t' r' i' g' → Wf l E n0 M d mc ms Q bk bn pc L (v.toList ++ st) nx' t' r' i' g' := by
  rintro v nx' t' r' i' g' ⟨x, h, rfl, rfl, rfl, rfl, hp⟩
  cases h
  exact k x i' hp
theorem qIl_go {post : Int32 → Wi → Wl → Prop} (k : ∀ x i' g', post x i' g' → Wf l E n0 M d mc ms Q bk bn pc L (.int x :: st) nx t r i' g') : ∀ v nx' t' r' i' g', qIl nx t r post (.inl v) nx' t' r' i' g' → Wf l E n0 M d mc ms Q bk bn pc L (v.toList ++ st) nx' t' r' i' g' := by
  rintro v nx' t' r' i' g' ⟨x, h, rfl, rfl, rfl, hp⟩
  cases h
  exact k x i' g' hp
theorem qVl_go {post : Wi → Wl → Prop} (k : ∀ i' g', post i' g' → Wf l E n0 M d mc ms Q bk bn pc L st nx t r i' g') : ∀ v nx' t' r' i' g', qVl nx t r post (.inl v) nx' t' r' i' g' → Wf l E n0 M d mc ms Q bk bn pc L (v.toList ++ st) nx' t' r' i' g' := by
  rintro v nx' t' r' i' g' ⟨h, rfl, rfl, rfl, hp⟩
  cases h
  exact k i' g' hp
end WfPosts
/-! what stays -/
def fr_is {α : Type} (S : List Nat) (f f' : Nat → Nat → α) : Prop := ∀ b, b ∉ S → ∀ k, f' b k = f b k
theorem fr_rf {α : Type} {S : List Nat} {f : Nat → Nat → α} : fr_is S f f := fun _ _ _ => rfl
theorem fr_tr {α : Type} {S S' : List Nat} {f f' f'' : Nat → Nat → α} (h : fr_is S f f') (h' : fr_is S' f' f'') : fr_is (S ++ S') f f'' := fun b hb k => (h' b (fun q => hb (List.mem_append_right _ q)) k).trans (h b (fun q => hb (List.mem_append_left _ q)) k)
theorem fr_ss {α : Type} {S : List Nat} {f f' f'' : Nat → Nat → α} (h : fr_is S f f') (h' : fr_is S f' f'') : fr_is S f f'' := fun b hb k => (h' b hb k).trans (h b hb k)
theorem fr_mo {α : Type} {S S' : List Nat} {f f' : Nat → Nat → α} (h : fr_is S f f') (hs : ∀ b ∈ S, b ∈ S') : fr_is S' f f' := fun b hb k => h b (fun q => hb (hs b q)) k
theorem fr_up {α : Type} {S : List Nat} {f f' : Nat → Nat → α} {a k : Nat} {v : α} (h : fr_is S f f') (ha : a ∈ S) : fr_is S f (wf_up f' a k v) := fun b hb j => (wf_up_a (fun (q : b = a) => hb (by rw [q]; exact ha))).trans (h b hb j)
