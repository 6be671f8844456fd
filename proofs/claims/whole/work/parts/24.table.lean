/-! class Table: keys with ints -/
abbrev KtS : Type := List (List Int32 × Int32)
/-- the place of the first key that isn't less than v -/
def kt_place (v : List Int32) : KtS → Nat
  | [] => 0
  | q :: K => if cm_go q.1 v < 0 then kt_place v K + 1 else 0
def kt_at (K : KtS) (k : Nat) : List Int32 × Int32 := K.getD k ([], 0)
def kt_grow (v : List Int32) (x : Int32) (K : KtS) : KtS :=
  if kt_place v K < K.length ∧ cm_go (kt_at K (kt_place v K)).1 v = 0 then K.set (kt_place v K) ((kt_at K (kt_place v K)).1, (kt_at K (kt_place v K)).2 + x)
  else if K.length < 40 then K.take (kt_place v K) ++ (v, x) :: K.drop (kt_place v K) else K
theorem kt_place_le (v : List Int32) (K : KtS) : kt_place v K ≤ K.length := by
  induction K with
  | nil => exact Nat.le_refl _
  | cons q K ih =>
    unfold kt_place
    split
    · simp; exact ih
    · simp
theorem kt_place_drop {v : List Int32} {K : KtS} {j : Nat} (h : j < K.length) : kt_place v (K.drop j) = if cm_go (kt_at K j).1 v < 0 then kt_place v (K.drop (j + 1)) + 1 else 0 := by
  rw [List.drop_eq_getElem_cons h]
  unfold kt_at
  rw [List.getD_eq_getElem?_getD, List.getElem?_eq_getElem h]
  rfl
/-- the cells of before are as they were, but for references out of S -/
def xt_ok (S : List Nat) (t : Wt) (r : Wr) (t' : Wt) (r' : Wr) : Prop := (∀ b z, t b = some z → t' b = some z) ∧ ∀ b z, t b = some z → b ∉ S → ∀ k, r' b k = r b k
section
variable {l : Launch} {E : We} {n0 d nx : Nat} {t t' : Wt} {r r' : Wr} {i : Wi} {g : Wl}
theorem xt_rf {S : List Nat} : xt_ok S t r t r := ⟨fun _ _ h => h, fun _ _ _ _ _ => rfl⟩
theorem rw_at.xt {S : List Nat} {a s n : Nat} (h : rw_at t r a s n) (hx : xt_ok S t r t' r') (ha : a ∉ S) : rw_at t' r' a s n := ⟨hx.1 _ _ h.1, (hx.2 _ _ h.1 ha 0).trans h.2.1, hx.1 _ _ h.2.2.1, h.2.2.2⟩
def tb_at (t : Wt) (r : Wr) (a kA iA : Nat) : Prop := t a = some (.inl 7) ∧ r a 0 = some kA ∧ t kA = some (.inr (3, 40)) ∧ r a 1 = some iA ∧ t iA = some (.inr (0, 40))
/-- key k of the table: a row of its own, at b0 or behind -/
def tb_row (b0 : Nat) (t : Wt) (r : Wr) (i : Wi) (o : Option Nat) (w : List Int32) : Prop := ∃ ka sa : Nat, o = some ka ∧ b0 ≤ ka ∧ b0 ≤ sa ∧ rw_at t r ka sa w.length ∧ rw_is i ka sa w
def tb_is (b0 : Nat) (t : Wt) (r : Wr) (i : Wi) (a kA iA : Nat) (K : KtS) : Prop := i a 2 = nI K.length ∧ K.length ≤ 40 ∧ ∀ k, k < K.length → i iA k = (kt_at K k).2 ∧ tb_row b0 t r i (r kA k) (kt_at K k).1
theorem tb_row.mo {b0 : Nat} {i' : Wi} {o : Option Nat} {w : List Int32} {S S' : List Nat} (h : tb_row b0 t r i o w) (hx : xt_ok S t r t' r') (hS : ∀ b ∈ S, b < b0) (hf : fr_is S' i i') (hS' : ∀ b ∈ S', t b = none ∨ b < b0) : tb_row b0 t' r' i' o w := by
  obtain ⟨ka, sa, h1, h2, h3, h4, h5⟩ := h
  have h6 : ∀ z, b0 ≤ z → (∃ y, t z = some y) → z ∉ S' := fun z hz ⟨y, hy⟩ hm => by
    rcases hS' z hm with q | q
    · rw [q] at hy; cases hy
    · omega
  exact ⟨ka, sa, h1, h2, h3, h4.xt hx (fun z => by have := hS _ z; omega), h5.fr hf (h6 ka h2 ⟨_, h4.1⟩) (h6 sa h3 ⟨_, h4.2.2.1⟩)⟩
theorem c_Tab_placeOf {a kA iA b s n b0 : Nat} {K : KtS} {v : List Int32} (hA : tb_at t r a kA iA) (hI : tb_is b0 t r i a kA iA K) (hB : rw_at t r b s n) (hv : rw_is i b s v) (hl : v.length ≤ n) :
    Ct l E n0 mt_Tab_placeOf (d + 2) 0 0 [.ref a, .ref b] nx t r i g (qI nx t r g (fun z i' => z = nI (kt_place v K) ∧ i' = i)) := by
  obtain ⟨ha, r0, tk, r1, ti⟩ := hA
  obtain ⟨h1, h2, h3⟩ := hI
  have tb := hB.1
  refine Ct.of (by decide) (Nat.le_of_ble_eq_true rfl) ?_
  refine wf_iconst 0 dc_Tab_placeOf_0 (by decide) ?_
  refine wf_istore_n dc_Tab_placeOf_1 (by decide) ?_
  have loop : ∀ (k j : Nat), j + k = K.length → j + kt_place v (K.drop j) = kt_place v K → Wf l E n0 mt_Tab_placeOf (d + 2) 0 0 (qI nx t r g (fun z i' => z = nI (kt_place v K) ∧ i' = i)) 0 0 2 [(0, .ref a), (1, .ref b), (2, .int (nI j))] [] nx t r i g := by
    intro k
    induction k with
    | zero =>
      intro j hj he
      refine wf_iload_n dc_Tab_placeOf_2 rfl ?_
      refine wf_aload_n dc_Tab_placeOf_3 rfl ?_
      refine wf_geti dc_Tab_placeOf_4 fl_Tab_25 rfl (by assumption) ?_
      rw [h1]
      refine wf_icmp_ge 31 dc_Tab_placeOf_7 (by decide) (fun hc => ?_) (fun hc => absurd ((nI_leI (by omega) (by omega)).mpr (by omega)) hc)
      refine wf_aload_n dc_Tab_placeOf_31 rfl ?_
      refine wf_geti dc_Tab_placeOf_32 fl_Tab_25 rfl (by assumption) ?_
      rw [h1]
      refine wf_ireturn rfl dc_Tab_placeOf_35 ⟨_, rfl, rfl, rfl, rfl, rfl, ?_, rfl⟩
      rw [← he, List.drop_of_length_le (by omega), show j = K.length by omega]
      rfl
    | succ k ih =>
      intro j hj he
      have hjK : j < K.length := by omega
      obtain ⟨-, ka, sa, q1, q2, q3, q4, q5⟩ := h3 j hjK
      have tka := q4.1
      rw [kt_place_drop hjK] at he
      refine wf_iload_n dc_Tab_placeOf_2 rfl ?_
      refine wf_aload_n dc_Tab_placeOf_3 rfl ?_
      refine wf_geti dc_Tab_placeOf_4 fl_Tab_25 rfl (by assumption) ?_
      rw [h1]
      refine wf_icmp_ge 31 dc_Tab_placeOf_7 (by decide) (fun hc => absurd ((nI_leI (by omega) (by omega)).mp hc) (by omega)) (fun hc => ?_)
      refine wf_aload_n dc_Tab_placeOf_10 rfl ?_
      refine wf_getr dc_Tab_placeOf_11 fl_Tab_11 rfl (by assumption) (by assumption) ?_
      refine wf_iload_n dc_Tab_placeOf_14 rfl ?_
      refine wf_aaload (y := 3) dc_Tab_placeOf_15 rfl rfl (by assumption) (vp_in_nI (by omega) (by omega)) (by rw [nI_clamp (by omega)]; exact q1) ?_
      refine wf_aload_n dc_Tab_placeOf_16 rfl ?_
      refine wf_iv1 (M' := mt_Row_compareWith) (c := 5) dc_Tab_placeOf_17 tg_Row_compareWith ml_Tab_29 im_Row_compareWith se_Row_compareWith ⟨_, rfl, rfl⟩ (by assumption) (Nat.le_of_ble_eq_true rfl) (Nat.le_refl _) (Nat.le_refl _) (c_Row_compareWith q4 q5 (Nat.le_refl _) hB hv hl) qI_nt (qI_go (fun x2 i2 hp => ?_))
      obtain ⟨rfl, rfl⟩ := hp
      refine wf_if_lt 25 dc_Tab_placeOf_20 (by decide) (fun hc2 => ?_) (fun hc2 => ?_)
      · rw [if_pos hc2] at he
        refine wf_iinc _ dc_Tab_placeOf_25 rfl (nI_1 j) (by decide) ?_
        refine wf_goto 2 dc_Tab_placeOf_28 (by decide) ?_
        exact Wf.to (by exact ⟨rfl, rfl, rfl, trivial⟩) (ih (j + 1) (by omega) (by omega))
      · rw [if_neg hc2] at he
        refine wf_iload_n dc_Tab_placeOf_23 rfl ?_
        exact wf_ireturn rfl dc_Tab_placeOf_24 ⟨_, rfl, rfl, rfl, rfl, rfl, by rw [← he]; rfl, rfl⟩
  exact Wf.to (by exact ⟨rfl, rfl, rfl, trivial⟩) (loop K.length 0 (by omega) (by rw [List.drop_zero]; omega))
theorem kt_ins {K : KtS} {p k : Nat} {q : List Int32 × Int32} (hp : p ≤ K.length) : kt_at (K.take p ++ q :: K.drop p) k = if k < p then kt_at K k else if k = p then q else kt_at K (k - 1) := by
  unfold kt_at
  rw [List.getD_eq_getElem?_getD]
  by_cases h1 : k < p
  · rw [if_pos h1, List.getElem?_append_left (by rw [List.length_take]; omega), List.getElem?_take, if_pos h1, List.getD_eq_getElem?_getD]
  · rw [if_neg h1, List.getElem?_append_right (by rw [List.length_take]; omega), List.length_take, Nat.min_eq_left hp]
    by_cases h2 : k = p
    · rw [if_pos h2, h2, Nat.sub_self]
      rfl
    · rw [if_neg h2, show k - p = (k - p - 1) + 1 by omega, List.getElem?_cons_succ, List.getElem?_drop, List.getD_eq_getElem?_getD, show p + (k - p - 1) = k - 1 by omega]
/-- what grow and insert leave -/
def tb_q (b0 nx : Nat) (t : Wt) (r : Wr) (i : Wi) (g : Wl) (a kA iA : Nat) (K : KtS) : Wq := fun o nx' t' r' i' g' => o = .inl none ∧ nx ≤ nx' ∧ nx' ≤ nx + 2 ∧ xt_ok [kA] t r t' r' ∧ g' = g ∧ tb_is b0 t' r' i' a kA iA K ∧ fr_is [a, iA, nx, nx + 1] i i'
theorem c_Tab_insert {a kA iA b s n b0 p : Nat} {K : KtS} {v : List Int32} {x : Int32} (hA : tb_at t r a kA iA) (hI : tb_is b0 t r i a kA iA K) (hB : rw_at t r b s n) (hv : rw_is i b s v) (hl : v.length ≤ n) (hsi : s ≠ iA) (hK : K.length < 40) (hp : p ≤ K.length) (hb0 : b0 ≤ nx) (hlt : ∀ z y, t z = some y → z < nx) (hk0 : kA < b0) (hi0 : iA < b0) (ha0 : a < b0) :
    Ct l E n0 mt_Tab_insert (d + 2) 2 122 [.ref a, .int (nI p), .ref b, .int x] nx t r i g (tb_q b0 nx t r i g a kA iA (K.take p ++ (v, x) :: K.drop p)) := by
  have hA' := hA
  obtain ⟨ha, r0, tk, r1, ti⟩ := hA
  obtain ⟨h1, h2, h3⟩ := hI
  obtain ⟨tb, rb, ts, hn⟩ := id hB
  have nak : a ≠ kA := fun q => by rw [q, tk] at ha; cases ha
  have nai : a ≠ iA := fun q => by rw [q, ti] at ha; cases ha
  have nki : kA ≠ iA := fun q => by rw [q, ti] at tk; cases tk
  have nbk : b ≠ kA := fun q => by rw [q, tk] at tb; cases tb
  refine Ct.of (by decide) (Nat.le_of_ble_eq_true rfl) ?_
  refine wf_aload_n dc_Tab_insert_0 rfl ?_
  refine wf_geti dc_Tab_insert_1 fl_Tab_25 rfl (by assumption) ?_
  rw [h1]
  refine wf_istore dc_Tab_insert_4 (by decide) ?_
  have loop : ∀ (m k : Nat) (r1' : Wr) (i1 : Wi), p + m = k → k ≤ K.length → (∀ z j, z ≠ kA → r1' z j = r z j) → (∀ j, j ≤ k → j < K.length → r1' kA j = r kA j) → (∀ j, k < j → j ≤ K.length → r1' kA j = r kA (j - 1)) → fr_is [iA] i i1 → (∀ j, j ≤ k → i1 iA j = i iA j) → (∀ j, k < j → j ≤ K.length → i1 iA j = i iA (j - 1)) →
      Wf l E n0 mt_Tab_insert (d + 2) 2 122 (tb_q b0 nx t r i g a kA iA (K.take p ++ (v, x) :: K.drop p)) 2 122 6 [(0, .ref a), (1, .int (nI p)), (2, .ref b), (3, .int x), (4, .int (nI k))] [] nx t r1' i1 g := by
    intro m
    induction m with
    | zero =>
      intro k r1' i1 hm hk hr1 hr2 hr3 hf hi2 hi3
      have hkp : k = p := by omega
      subst hkp
      have r0' : r1' a 0 = some kA := (hr1 a 0 nak).trans r0
      have r1'' : r1' a 1 = some iA := (hr1 a 1 nak).trans r1
      have hcl : (nI k).toNatClampNeg = k := nI_clamp (by omega)
      refine wf_iload dc_Tab_insert_6 rfl ?_
      refine wf_iload_n dc_Tab_insert_8 rfl ?_
      refine wf_icmp_le 50 dc_Tab_insert_9 (by decide) (fun hc => ?_) (fun hc => absurd ((nI_leI (by omega) (by omega)).mpr (by omega)) hc)
      refine wf_aload_n dc_Tab_insert_50 rfl ?_
      refine wf_getr dc_Tab_insert_51 fl_Tab_11 rfl (by assumption) (by assumption) ?_
      refine wf_iload_n dc_Tab_insert_54 rfl ?_
      refine wf_new (bk' := 1) (bn' := 120) dc_Tab_insert_55 nw_Tab_9 (by omega) (by omega) (fun f1 f2 => ?_)
      have hext : ∀ z y, t z = some y → wf_up1 t nx (some (.inl 5)) z = some y := fun z y hz => by
        rw [wf_up1_n (fun q => by rw [q, f1] at hz; cases hz)]
        exact hz
      have tb2 := hext _ _ tb
      have tn : wf_up1 t nx (some (.inl 5)) nx = some (.inl 5) := wf_up1_s
      refine wf_dup dc_Tab_insert_58 rfl ?_
      refine wf_aload_n dc_Tab_insert_59 rfl ?_
      refine wf_geti dc_Tab_insert_60 fl_Tab_36 rfl (by assumption) ?_
      have hvl : i1 b 1 = nI v.length := (hf b (by simp; exact fun q => by rw [q, ti] at tb; cases tb) 1).trans hv.1
      rw [hvl]
      refine wf_ii1 (y := mt_Row_init.1) (cc := mt_Row_init.2.1) (nL := 2) (bk' := 0) (bn' := 0) dc_Tab_insert_63 tg_Row_init ml_Tab_39 im_Row_init rfl (Nat.le_of_ble_eq_true rfl) (by omega) (by omega) (c_Row_init (n := v.length) tn (by omega)) (by rintro X a1 a2 a3 a4 a5 ⟨q, -⟩; cases q) ?_
      rintro vo nx2 t2 r2 i2 g2 ⟨hvo, rfl, rfl, rfl, rfl, rfl, f3, f4⟩
      cases hvo
      have nxn : nx ≠ nx + 1 := by omega
      have hext2 : ∀ z y, t z = some y → wf_up1 (wf_up1 t nx (some (.inl 5))) (nx + 1) (some (.inr (0, v.length))) z = some y := fun z y hz => by
        rw [wf_up1_n (fun q => by have := hlt z y hz; omega)]
        exact hext z y hz
      have tn2 : wf_up1 (wf_up1 t nx (some (.inl 5))) (nx + 1) (some (.inr (0, v.length))) nx = some (.inl 5) := (wf_up1_n nxn).trans wf_up1_s
      have tn3 : wf_up1 (wf_up1 t nx (some (.inl 5))) (nx + 1) (some (.inr (0, v.length))) (nx + 1) = some (.inr (0, v.length)) := wf_up1_s
      have hkn : kA ≠ nx := fun q => by rw [q, f1] at tk; cases tk
      have han : a ≠ nx := fun q => by rw [q, f1] at ha; cases ha
      have hbn : b ≠ nx := fun q => by rw [q, f1] at tb; cases tb
      have ha2 := hext2 _ _ ha
      have tk2 := hext2 _ _ tk
      have ti2 := hext2 _ _ ti
      have tb3 := hext2 _ _ tb
      generalize hTT : wf_up1 (wf_up1 t nx (some (.inl 5))) (nx + 1) (some (.inr (0, v.length))) = TT at hext2 tn2 tn3 ha2 tk2 ti2 tb3
      show Wf l E n0 mt_Tab_insert (d + 2) 2 122 _ 0 0 66 _ [.ref nx, .int (nI k), .ref kA] (nx + 1 + 1) TT _ _ _
      refine wf_aastore (y := 3) (c := 5) dc_Tab_insert_66 rfl ⟨_, rfl, rfl⟩ (by decide) (by assumption) (by assumption) (vp_in_nI (by omega) (by omega)) ?_
      rw [hcl]
      have q0 : wf_up (wf_up r1' nx 0 (some (nx + 1))) kA k (some nx) a 0 = some kA := by rw [wf_up_a nak, wf_up_a han]; exact r0'
      have q1 : wf_up (wf_up r1' nx 0 (some (nx + 1))) kA k (some nx) a 1 = some iA := by rw [wf_up_a nak, wf_up_a han]; exact r1''
      have q2 : wf_up (wf_up r1' nx 0 (some (nx + 1))) kA k (some nx) kA k = some nx := wf_up_s
      have q3 : wf_up (wf_up r1' nx 0 (some (nx + 1))) kA k (some nx) nx 0 = some (nx + 1) := by rw [wf_up_a hkn.symm, wf_up_s]
      have q4 : ∀ z j, z ≠ kA → z ≠ nx → wf_up (wf_up r1' nx 0 (some (nx + 1))) kA k (some nx) z j = r z j := fun z j hz1 hz2 => by rw [wf_up_a hz1, wf_up_a hz2]; exact hr1 z j hz1
      have q5 : ∀ j, j ≠ k → wf_up (wf_up r1' nx 0 (some (nx + 1))) kA k (some nx) kA j = r1' kA j := fun j hj => by rw [wf_up_k hj, wf_up_a hkn]
      generalize hRR : wf_up (wf_up r1' nx 0 (some (nx + 1))) kA k (some nx) = RR at q0 q1 q2 q3 q4 q5
      have hnew : rw_at TT RR nx (nx + 1) v.length := ⟨tn2, q3, tn3, by omega⟩
      have hB2 : rw_at TT RR b s n := ⟨tb3, (q4 b 0 nbk hbn).trans rb, hext2 _ _ ts, hn⟩
      have hv2 : rw_is i2 b s v := hv.fr hf (by simp; exact fun q => by rw [q, ti] at tb; cases tb) (by simp; exact hsi)
      refine wf_aload_n dc_Tab_insert_67 rfl ?_
      refine wf_getr dc_Tab_insert_68 fl_Tab_11 rfl (by assumption) (by assumption) ?_
      refine wf_iload_n dc_Tab_insert_71 rfl ?_
      refine wf_aaload (y := 3) dc_Tab_insert_72 rfl rfl (by assumption) (vp_in_nI (by omega) (by omega)) (by rw [hcl]; exact q2) ?_
      refine wf_aload_n dc_Tab_insert_73 rfl ?_
      refine wf_iv1 (M' := mt_Row_become) (c := 5) dc_Tab_insert_74 tg_Row_become ml_Tab_42 im_Row_become se_Row_become ⟨_, rfl, rfl⟩ (by assumption) (Nat.le_of_ble_eq_true rfl) (Nat.le_refl _) (Nat.le_refl _) (c_Row_become hnew hB2 hv2 hl) qV_nt (qV_go (fun i2 hp => ?_))
      rename_i i1
      obtain ⟨hw3, hf3⟩ := hp
      rw [List.take_length] at hw3
      refine wf_aload_n dc_Tab_insert_77 rfl ?_
      refine wf_getr dc_Tab_insert_78 fl_Tab_17 rfl (by assumption) (by assumption) ?_
      refine wf_iload_n dc_Tab_insert_81 rfl ?_
      refine wf_iload_n dc_Tab_insert_82 rfl ?_
      refine wf_iastore (y := 0) dc_Tab_insert_83 rfl (by decide) (by assumption) (vp_in_nI (by omega) (by omega)) ?_
      rw [hcl]
      refine wf_aload_n dc_Tab_insert_84 rfl ?_
      refine wf_dup dc_Tab_insert_85 rfl ?_
      refine wf_geti dc_Tab_insert_86 fl_Tab_25 rfl (by assumption) ?_
      refine wf_iconst 1 dc_Tab_insert_89 (by decide) ?_
      refine wf_iadd dc_Tab_insert_90 ?_
      have hin : iA ≠ nx := fun q => by rw [q, f1] at ti; cases ti
      have hin1 : iA ≠ nx + 1 := fun q => by have := hlt _ _ ti; omega
      have han1 : a ≠ nx + 1 := fun q => by have := hlt _ _ ha; omega
      have e1 : i2 a 2 = nI K.length := (hf3 a (by simp [han, han1]) 2).trans ((hf a (by simp [nai]) 2).trans h1)
      rw [wf_up_a nai, e1, nI_1]
      refine wf_puti dc_Tab_insert_91 fl_Tab_25 (Or.inl nf_Tab_2) rfl rfl rfl (by assumption) ?_
      have hfr : fr_is [a, iA, nx, nx + 1] i (wf_up (wf_up i2 iA k x) a 2 (nI (K.length + 1))) := fr_up (fr_up (fr_ss (fr_mo hf (by simp)) (fr_mo hf3 (by simp))) (by simp)) (by simp)
      have hxt : xt_ok [kA] t r TT RR := ⟨hext2, fun z y hz hk j => q4 z j (by simpa using hk) (fun q => by rw [q, f1] at hz; cases hz)⟩
      have tn1 : t (nx + 1) = none := by
        cases hq : t (nx + 1) with
        | none => rfl
        | some y => have := hlt _ _ hq; omega
      have hold : ∀ (o : Option Nat) (w : List Int32), tb_row b0 t r i o w → tb_row b0 TT RR (wf_up (wf_up i2 iA k x) a 2 (nI (K.length + 1))) o w := fun o w h => h.mo hxt (by simp; exact hk0) hfr (by
        intro z hz
        simp at hz
        rcases hz with rfl | rfl | rfl | rfl
        · exact Or.inr ha0
        · exact Or.inr hi0
        · exact Or.inl f1
        · exact Or.inl tn1)
      have e2 : ∀ j, j ≠ k → wf_up (wf_up i2 iA k x) a 2 (nI (K.length + 1)) iA j = i1 iA j := fun j hj => by
        rw [wf_up_a nai.symm, wf_up_k hj]
        exact hf3 iA (by simp [hin, hin1]) j
      refine wf_return rfl dc_Tab_insert_94 ⟨rfl, by omega, by omega, hxt, rfl, ⟨?_, ?_, fun j hj => ?_⟩, hfr⟩
      · rw [wf_up_s, List.length_append, List.length_cons, List.length_take, List.length_drop]
        congr 1
        omega
      · rw [List.length_append, List.length_cons, List.length_take, List.length_drop]
        omega
      · rw [List.length_append, List.length_cons, List.length_take, List.length_drop] at hj
        rw [kt_ins hk]
        by_cases hj1 : j < k
        · rw [if_pos hj1, e2 j (by omega), hi2 j (by omega), q5 j (by omega), hr2 j (by omega) (by omega)]
          exact ⟨(h3 j (by omega)).1, hold _ _ (h3 j (by omega)).2⟩
        · rw [if_neg hj1]
          by_cases hj2 : j = k
          · rw [if_pos hj2, hj2, wf_up_a nai.symm, wf_up_s, q2]
            refine ⟨rfl, nx, nx + 1, rfl, hb0, by omega, hnew, ?_⟩
            exact ⟨by rw [wf_up_a han.symm, wf_up_a hin.symm]; exact hw3.1, fun j hj => by rw [wf_up_a han1.symm, wf_up_a hin1.symm]; exact hw3.2 j hj⟩
          · rw [if_neg hj2, e2 j hj2, hi3 j (by omega) (by omega), q5 j hj2, hr3 j (by omega) (by omega)]
            exact ⟨(h3 (j - 1) (by omega)).1, hold _ _ (h3 (j - 1) (by omega)).2⟩
    | succ m ih =>
      intro k r1' i1 hm hk hr1 hr2 hr3 hf hi2 hi3
      obtain ⟨k, rfl⟩ : ∃ k', k = k' + 1 := ⟨p + m, by omega⟩
      have r0' : r1' a 0 = some kA := (hr1 a 0 nak).trans r0
      have r1'' : r1' a 1 = some iA := (hr1 a 1 nak).trans r1
      obtain ⟨hx1, ka, sa, hx2, hx3, hx4, hx5, hx6⟩ := h3 k (by omega)
      have tka := hx5.1
      have hcl : (nI (k + 1)).toNatClampNeg = k + 1 := nI_clamp (by omega)
      have hcl2 : (nI k).toNatClampNeg = k := nI_clamp (by omega)
      refine wf_iload dc_Tab_insert_6 rfl ?_
      refine wf_iload_n dc_Tab_insert_8 rfl ?_
      refine wf_icmp_le 50 dc_Tab_insert_9 (by decide) (fun hc => absurd ((nI_leI (by omega) (by omega)).mp hc) (by omega)) (fun hc => ?_)
      refine wf_aload_n dc_Tab_insert_12 rfl ?_
      refine wf_getr dc_Tab_insert_13 fl_Tab_11 rfl (by assumption) (by assumption) ?_
      refine wf_iload dc_Tab_insert_16 rfl ?_
      refine wf_aload_n dc_Tab_insert_18 rfl ?_
      refine wf_getr dc_Tab_insert_19 fl_Tab_11 rfl (by assumption) (by assumption) ?_
      refine wf_iload dc_Tab_insert_22 rfl ?_
      refine wf_iconst 1 dc_Tab_insert_24 (by decide) ?_
      refine wf_isub dc_Tab_insert_25 ?_
      rw [nI_pred]
      refine wf_aaload (y := 3) dc_Tab_insert_26 rfl rfl (by assumption) (vp_in_nI (by omega) (by omega)) (by rw [hcl2, hr2 k (by omega) (by omega)]; exact hx2) ?_
      refine wf_aastore (y := 3) (c := 5) dc_Tab_insert_27 rfl ⟨_, rfl, rfl⟩ (by decide) (by assumption) (by assumption) (vp_in_nI (by omega) (by omega)) ?_
      rw [hcl]
      have r1b : wf_up r1' kA (k + 1) (some ka) a 1 = some iA := (wf_up_a nak).trans r1''
      refine wf_aload_n dc_Tab_insert_28 rfl ?_
      refine wf_getr dc_Tab_insert_29 fl_Tab_17 rfl (by assumption) (by assumption) ?_
      refine wf_iload dc_Tab_insert_32 rfl ?_
      refine wf_aload_n dc_Tab_insert_34 rfl ?_
      refine wf_getr dc_Tab_insert_35 fl_Tab_17 rfl (by assumption) (by assumption) ?_
      refine wf_iload dc_Tab_insert_38 rfl ?_
      refine wf_iconst 1 dc_Tab_insert_40 (by decide) ?_
      refine wf_isub dc_Tab_insert_41 ?_
      rw [nI_pred]
      refine wf_iaload (y := 0) dc_Tab_insert_42 rfl (by assumption) (vp_in_nI (by omega) (by omega)) ?_
      refine wf_iastore (y := 0) dc_Tab_insert_43 rfl (by decide) (by assumption) (vp_in_nI (by omega) (by omega)) ?_
      rw [hcl, hcl2]
      refine wf_iinc _ dc_Tab_insert_44 rfl (pk_m1 k) (by decide) ?_
      refine wf_goto 6 dc_Tab_insert_47 (by decide) ?_
      refine Wf.to (by exact ⟨rfl, rfl, rfl, rfl, rfl, trivial⟩) (ih k _ _ (by omega) (by omega) (fun z j hz => ?_) (fun j h1 h2 => ?_) (fun j h1 h2 => ?_) (fr_up hf (by simp)) (fun j h1 => ?_) (fun j h1 h2 => ?_))
      · rw [wf_up_a hz]
        exact hr1 z j hz
      · rw [wf_up_k (by omega)]
        exact hr2 j (by omega) h2
      · by_cases hj : j = k + 1
        · rw [hj, wf_up_s, Nat.add_sub_cancel]
          exact hx2.symm
        · rw [wf_up_k hj]
          exact hr3 j (by omega) h2
      · rw [wf_up_k (by omega)]
        exact hi2 j (by omega)
      · by_cases hj : j = k + 1
        · rw [hj, wf_up_s, Nat.add_sub_cancel]
          exact hi2 k (by omega)
        · rw [wf_up_k hj]
          exact hi3 j (by omega) h2
  exact Wf.to (by exact ⟨rfl, rfl, rfl, rfl, rfl, trivial⟩) (loop (K.length - p) K.length r i (by omega) (Nat.le_refl _) (fun _ _ _ => rfl) (fun _ _ _ => rfl) (fun j h1 h2 => by omega) fr_rf (fun _ _ => rfl) (fun j h1 h2 => by omega))
end
