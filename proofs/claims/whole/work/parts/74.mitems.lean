/-! the reference: point, edge, fail, isItem, items -/
/-- where an edge's place stands: the sign's own place in the array; nothing for a free edge -/
def pl_of (b : Nat) (q : Ed) : Nat := if q.2.2.1 = 0 then 0 else b + q.2.2.2
def ed_d (E : List Ed) (j : Nat) : Ed := E.getD j (0, 0, 0, 0)
def g_is (i : Wi) (m b : Nat) (E : List Ed) : Prop := i (m + 0) 27 = nI E.length ∧ ∀ j, j < E.length → i (m + 19) j = nI (ed_d E j).1 ∧ i (m + 20) j = nI (ed_d E j).2.1 ∧ i (m + 21) j = nI (ed_d E j).2.2.1 ∧ i (m + 22) j = nI (pl_of b (ed_d E j))
def gr_S : Ms := [(0, 26, 28), (19, 0, 800), (20, 0, 800), (21, 0, 800), (22, 0, 800)]
def dr_S : Ms := [(0, 26, 28), (0, 37, 38), (19, 0, 800), (20, 0, 800), (21, 0, 800), (22, 0, 800), (25, 0, 12), (26, 0, 12), (27, 0, 12)]
section
variable {l : Launch} {E : We} {n0 d nx : Nat} {t : Wt} {r : Wr} {i i' : Wi} {g : Wl} {m : Nat} {S : Ms}
theorem c_Mod_point {P : Nat} (hA : mo_at t r m) (hP : i (m + 0) 26 = nI P) : Ct l E n0 mt_Mod_point d 0 0 [.ref (m + 0)] nx t r i g (qI nx t r g (fun z i' => z = nI P ∧ i' = wf_up i (m + 0) 26 (nI (P + 1)))) := by
  have t0 := hA.1.1
  refine Ct.of (by decide) (Nat.le_of_ble_eq_true rfl) ?_
  refine wf_aload_n dc_Mod_point_0 rfl ?_
  refine wf_dup dc_Mod_point_1 rfl ?_
  refine wf_geti dc_Mod_point_2 fl_Mod_114 rfl (by assumption) ?_
  refine wf_iconst 1 dc_Mod_point_5 (by decide) ?_
  refine wf_iadd dc_Mod_point_6 ?_
  rw [hP, nI_1]
  refine wf_puti dc_Mod_point_7 fl_Mod_114 (Or.inl nf_Mod_26) rfl rfl rfl (by assumption) ?_
  refine wf_aload_n dc_Mod_point_10 rfl ?_
  refine wf_geti dc_Mod_point_11 fl_Mod_114 rfl (by assumption) ?_
  rw [wf_up_s]
  refine wf_iconst 1 dc_Mod_point_14 (by decide) ?_
  refine wf_isub dc_Mod_point_15 ?_
  rw [nI_pred]
  exact wf_ireturn rfl dc_Mod_point_16 ⟨_, rfl, rfl, rfl, rfl, rfl, rfl, rfl⟩
theorem ed_app {G : List Ed} {q : Ed} {j : Nat} (h : j < G.length) : ed_d (G ++ [q]) j = ed_d G j := by
  unfold ed_d
  rw [List.getD_eq_getElem?_getD, List.getElem?_append_left h, ← List.getD_eq_getElem?_getD]
theorem ed_new {G : List Ed} {q : Ed} : ed_d (G ++ [q]) G.length = q := by
  unfold ed_d
  rw [List.getD_eq_getElem?_getD, List.getElem?_append_right (Nat.le_refl _), Nat.sub_self]
  rfl
theorem c_Mod_edge {b : Nat} {G : List Ed} (q : Ed) {x1 x2 x3 x4 : Int32} (hA : mo_at t r m) (hG : g_is i m b G) (hl : G.length < 800) (h1 : x1 = nI q.1) (h2 : x2 = nI q.2.1) (h3 : x3 = nI q.2.2.1) (h4 : x4 = nI (pl_of b q)) : Ct l E n0 mt_Mod_edge d 0 0 [.ref (m + 0), .int x1, .int x2, .int x3, .int x4] nx t r i g (qV nx t r g (fun i' => (g_is i' m b (G ++ [q]) ∧ mf m [(0, 27, 28), (19, 0, 800), (20, 0, 800), (21, 0, 800), (22, 0, 800)] i i') ∧ i' (m + 0) 26 = i (m + 0) 26)) := by
  have t0 := hA.1.1
  have r28 : r (m + 0) 28 = some (m + 19) := hA.2 (0, 28, 19) (by decide +kernel)
  have r29 : r (m + 0) 29 = some (m + 20) := hA.2 (0, 29, 20) (by decide +kernel)
  have r30 : r (m + 0) 30 = some (m + 21) := hA.2 (0, 30, 21) (by decide +kernel)
  have r31 : r (m + 0) 31 = some (m + 22) := hA.2 (0, 31, 22) (by decide +kernel)
  have t19 := hA.1.2 19 (19, .inr (0, 800)) (by decide +kernel)
  have t20 := hA.1.2 20 (20, .inr (0, 800)) (by decide +kernel)
  have t21 := hA.1.2 21 (21, .inr (0, 800)) (by decide +kernel)
  have t22 := hA.1.2 22 (22, .inr (0, 800)) (by decide +kernel)
  have cl : (nI G.length).toNatClampNeg = G.length := nI_clamp (by omega)
  subst h1 h2 h3 h4
  refine Ct.of (by decide) (Nat.le_of_ble_eq_true rfl) ?_
  refine wf_aload_n dc_Mod_edge_0 rfl ?_
  refine wf_getr dc_Mod_edge_1 fl_Mod_71 rfl (by assumption) (by assumption) ?_
  refine wf_aload_n dc_Mod_edge_4 rfl ?_
  refine wf_geti dc_Mod_edge_5 fl_Mod_117 rfl (by assumption) ?_
  rw [hG.1]
  refine wf_iload_n dc_Mod_edge_8 rfl ?_
  refine wf_iastore (y := 0) dc_Mod_edge_9 rfl (by decide) (by assumption) (vp_in_nI (by omega) (by omega)) ?_
  refine wf_aload_n dc_Mod_edge_10 rfl ?_
  refine wf_getr dc_Mod_edge_11 fl_Mod_74 rfl (by assumption) (by assumption) ?_
  refine wf_aload_n dc_Mod_edge_14 rfl ?_
  refine wf_geti dc_Mod_edge_15 fl_Mod_117 rfl (by assumption) ?_
  rw [cl, wf_up_a (by omega), hG.1]
  refine wf_iload_n dc_Mod_edge_18 rfl ?_
  refine wf_iastore (y := 0) dc_Mod_edge_19 rfl (by decide) (by assumption) (vp_in_nI (by omega) (by omega)) ?_
  refine wf_aload_n dc_Mod_edge_20 rfl ?_
  refine wf_getr dc_Mod_edge_21 fl_Mod_77 rfl (by assumption) (by assumption) ?_
  refine wf_aload_n dc_Mod_edge_24 rfl ?_
  refine wf_geti dc_Mod_edge_25 fl_Mod_117 rfl (by assumption) ?_
  rw [cl, wf_up_a (by omega), wf_up_a (by omega), hG.1]
  refine wf_iload_n dc_Mod_edge_28 rfl ?_
  refine wf_iastore (y := 0) dc_Mod_edge_29 rfl (by decide) (by assumption) (vp_in_nI (by omega) (by omega)) ?_
  refine wf_aload_n dc_Mod_edge_30 rfl ?_
  refine wf_getr dc_Mod_edge_31 fl_Mod_80 rfl (by assumption) (by assumption) ?_
  refine wf_aload_n dc_Mod_edge_34 rfl ?_
  refine wf_geti dc_Mod_edge_35 fl_Mod_117 rfl (by assumption) ?_
  rw [cl, wf_up_a (by omega), wf_up_a (by omega), wf_up_a (by omega), hG.1]
  refine wf_iload dc_Mod_edge_38 rfl ?_
  refine wf_iastore (y := 0) dc_Mod_edge_40 rfl (by decide) (by assumption) (vp_in_nI (by omega) (by omega)) ?_
  refine wf_aload_n dc_Mod_edge_41 rfl ?_
  refine wf_dup dc_Mod_edge_42 rfl ?_
  refine wf_geti dc_Mod_edge_43 fl_Mod_117 rfl (by assumption) ?_
  refine wf_iconst 1 dc_Mod_edge_46 (by decide) ?_
  rw [cl, wf_up_a (by omega), wf_up_a (by omega), wf_up_a (by omega), wf_up_a (by omega), hG.1]
  refine wf_iadd dc_Mod_edge_47 ?_
  rw [nI_1]
  refine wf_puti dc_Mod_edge_48 fl_Mod_117 (Or.inl nf_Mod_27) rfl rfl rfl (by assumption) ?_
  refine wf_return rfl dc_Mod_edge_51 ⟨rfl, rfl, rfl, rfl, rfl, ⟨⟨?_, fun j hj => ?_⟩, ?_⟩, ?_⟩
  · rw [List.length_append]
    exact wf_up_s
  · rw [List.length_append, List.length_singleton] at hj
    by_cases hjl : j < G.length
    · rw [ed_app hjl]
      obtain ⟨a1, a2, a3, a4⟩ := hG.2 j hjl
      have hne : j ≠ G.length := by omega
      refine ⟨?_, ?_, ?_, ?_⟩
      · rw [wf_up_a (by omega), wf_up_a (by omega), wf_up_a (by omega), wf_up_a (by omega), wf_up_k hne]; exact a1
      · rw [wf_up_a (by omega), wf_up_a (by omega), wf_up_a (by omega), wf_up_k hne, wf_up_a (by omega)]; exact a2
      · rw [wf_up_a (by omega), wf_up_a (by omega), wf_up_k hne, wf_up_a (by omega), wf_up_a (by omega)]; exact a3
      · rw [wf_up_a (by omega), wf_up_k hne, wf_up_a (by omega), wf_up_a (by omega), wf_up_a (by omega)]; exact a4
    · have hje : j = G.length := by omega
      rw [hje, ed_new]
      refine ⟨?_, ?_, ?_, ?_⟩
      · rw [wf_up_a (by omega), wf_up_a (by omega), wf_up_a (by omega), wf_up_a (by omega)]; exact wf_up_s
      · rw [wf_up_a (by omega), wf_up_a (by omega), wf_up_a (by omega)]; exact wf_up_s
      · rw [wf_up_a (by omega), wf_up_a (by omega)]; exact wf_up_s
      · rw [wf_up_a (by omega)]; exact wf_up_s
  · exact mf_up (mf_up (mf_up (mf_up (mf_up mf_rf ⟨(19, 0, 800), by simp, rfl, Nat.zero_le _, by simp only; omega⟩) ⟨(20, 0, 800), by simp, rfl, Nat.zero_le _, by simp only; omega⟩) ⟨(21, 0, 800), by simp, rfl, Nat.zero_le _, by simp only; omega⟩) ⟨(22, 0, 800), by simp, rfl, Nat.zero_le _, by simp only; omega⟩) ⟨(0, 27, 28), by simp, rfl, Nat.le_refl _, Nat.le_refl _⟩
  · rw [wf_up_k (by decide), wf_up_a (by omega), wf_up_a (by omega), wf_up_a (by omega), wf_up_a (by omega)]
theorem c_Mod_fail {x : Int32} (hA : mo_at t r m) : Ct l E n0 mt_Mod_fail d 0 0 [.ref (m + 0), .int x] nx t r i g (qV nx t r g (fun i' => i' = wf_up i (m + 0) 37 (if i (m + 0) 37 = -1 then x else i (m + 0) 37))) := by
  have t0 := hA.1.1
  refine Ct.of (by decide) (Nat.le_of_ble_eq_true rfl) ?_
  refine wf_aload_n dc_Mod_fail_0 rfl ?_
  refine wf_aload_n dc_Mod_fail_1 rfl ?_
  refine wf_geti dc_Mod_fail_2 fl_Mod_120 rfl (by assumption) ?_
  refine wf_iconst (-1) dc_Mod_fail_5 (by decide) ?_
  by_cases h : i (m + 0) 37 = -1
  · rw [if_pos h]
    refine wf_icmp_ne 13 dc_Mod_fail_6 (by decide) (fun hc => absurd h hc) (fun hc => ?_)
    refine wf_iload_n dc_Mod_fail_9 rfl ?_
    refine wf_goto 17 dc_Mod_fail_10 (by decide) ?_
    refine wf_puti dc_Mod_fail_17 fl_Mod_120 (Or.inl nf_Mod_37) rfl rfl rfl (by assumption) ?_
    exact wf_return rfl dc_Mod_fail_20 ⟨rfl, rfl, rfl, rfl, rfl, rfl⟩
  · rw [if_neg h]
    refine wf_icmp_ne 13 dc_Mod_fail_6 (by decide) (fun hc => ?_) (fun hc => absurd hc h)
    refine wf_aload_n dc_Mod_fail_13 rfl ?_
    refine wf_geti dc_Mod_fail_14 fl_Mod_120 rfl (by assumption) ?_
    refine wf_puti dc_Mod_fail_17 fl_Mod_120 (Or.inl nf_Mod_37) rfl rfl rfl (by assumption) ?_
    exact wf_return rfl dc_Mod_fail_20 ⟨rfl, rfl, rfl, rfl, rfl, rfl⟩
theorem c_Mod_isItem {x : Int32} (h0 : x ≠ 0) : Ct l E n0 mt_Mod_isItem d 0 0 [.int x] nx t r i g (qI nx t r g (fun z i' => z = wt_b (ps_it x) ∧ i' = i)) := by
  refine Ct.of (by decide) (Nat.le_of_ble_eq_true rfl) ?_
  have no : ps_it x = false → Wf l E n0 mt_Mod_isItem d 0 0 (qI nx t r g (fun z i' => z = wt_b (ps_it x) ∧ i' = i)) 0 0 22 [(0, .int x)] [] nx t r i g := fun h => by
    refine wf_iconst 0 dc_Mod_isItem_22 (by decide) ?_
    exact wf_zreturn rfl rfl dc_Mod_isItem_23 ⟨0, rfl, rfl, rfl, rfl, rfl, by rw [h]; rfl, rfl⟩
  refine wf_iload_n dc_Mod_isItem_0 rfl ?_
  refine wf_bipush 93 dc_Mod_isItem_1 (by decide) ?_
  refine wf_icmp_eq 22 dc_Mod_isItem_3 (by decide) (fun h1 => ?_) (fun h1 => ?_)
  · exact Wf.to (by exact ⟨rfl, trivial⟩) (no (by rw [h1]; rfl))
  refine wf_iload_n dc_Mod_isItem_6 rfl ?_
  refine wf_bipush 92 dc_Mod_isItem_7 (by decide) ?_
  refine wf_icmp_eq 22 dc_Mod_isItem_9 (by decide) (fun h2 => ?_) (fun h2 => ?_)
  · exact Wf.to (by exact ⟨rfl, trivial⟩) (no (by rw [h2]; rfl))
  refine wf_iload_n dc_Mod_isItem_12 rfl ?_
  refine wf_bipush 45 dc_Mod_isItem_13 (by decide) ?_
  refine wf_icmp_eq 22 dc_Mod_isItem_15 (by decide) (fun h3 => ?_) (fun h3 => ?_)
  · exact Wf.to (by exact ⟨rfl, trivial⟩) (no (by rw [h3]; rfl))
  refine wf_iconst 1 dc_Mod_isItem_18 (by decide) ?_
  refine wf_goto 23 dc_Mod_isItem_19 (by decide) ?_
  refine wf_zreturn rfl rfl dc_Mod_isItem_23 ⟨1, rfl, rfl, rfl, rfl, rfl, ?_, rfl⟩
  have : ps_it x = true := by
    unfold ps_it
    rw [decide_eq_false h0, decide_eq_false h1, decide_eq_false h2, decide_eq_false h3]
    rfl
  rw [this]
  rfl
/-- a text of an expression in the reference's array, from place b on -/
def mS (i : Wi) (m b : Nat) (T : List Int32) : Prop := ∀ j, j < T.length → i (m + 3) (b + j) = nx_of T j
theorem mS.fr {b : Nat} {T : List Int32} (h : mS i m b T) (hf : mf m S i i') (hs : ∀ q ∈ S, q.1 ≠ 3) : mS i' m b T := fun j hj => (hf.at (fun q hq z => absurd z (hs q hq))).trans (h j hj)
theorem c_Mod_items {b p : Nat} {T : List Int32} (hA : mo_at t r m) (hT : mS i m b T) (hb : b ≤ 300) (h60 : T.length ≤ 60) (hz : ∀ q, q < T.length → nx_of T q ≠ 0) (hp : p ≤ T.length) (hf : i (m + 0) 37 = -1) : Ct l E n0 mt_Mod_items (d + 1) 0 0 [.ref (m + 0), .int (nI (b + p)), .int (nI (b + T.length))] nx t r i g (qI nx t r g (fun z i' => match ps_set T p with
    | .inl e => i' = wf_up i (m + 0) 37 (nI (b + e))
    | .inr q => z = nI (b + (q.1 - 1)) ∧ i' = i)) := by
  have t0 := hA.1.1
  have r3 : r (m + 0) 3 = some (m + 3) := hA.2 (0, 3, 3) (by decide +kernel)
  have t3 := hA.1.2 3 (3, .inr (0, 360)) (by decide +kernel)
  refine Ct.of (by decide) (Nat.le_of_ble_eq_true rfl) ?_
  have rd : ∀ q, q < T.length → i (m + 3) (nI (b + q)).toNatClampNeg = nx_of T q := fun q hq => by
    rw [nI_clamp (by omega)]
    exact hT q hq
  generalize hQ : (qI nx t r g (fun z i' => match ps_set T p with
    | .inl e => i' = wf_up i (m + 0) 37 (nI (b + e))
    | .inr q => z = nI (b + (q.1 - 1)) ∧ i' = i)) = Q0
  -- what it ends with
  have yes : ∀ q m', ps_set T p = .inr (q + 1, m') → Q0 (.inl (some (.int (nI (b + q))))) nx t r i g := fun q m' h => by
    rw [← hQ]
    refine ⟨_, rfl, rfl, rfl, rfl, rfl, ?_⟩
    rw [h]
    exact ⟨rfl, rfl⟩
  have bad : ∀ e x, ps_set T p = .inl e → Q0 (.inl (some (.int x))) nx t r (wf_up i (m + 0) 37 (nI (b + e))) g := fun e x h => by
    rw [← hQ]
    refine ⟨_, rfl, rfl, rfl, rfl, rfl, ?_⟩
    rw [h]
  clear hQ
  have hne1 : ∀ e : Nat, e ≤ T.length → ¬ nI (b + e) = -1 := fun e he z => mx_m1 (by omega) z.symm
  -- the end, with a fault
  have fin : ∀ (e : Nat) (k n : Int32), ps_set T p = .inl e → e ≤ T.length → Wf l E n0 mt_Mod_items (d + 1) 0 0 Q0 0 0 170 [(0, .ref (m + 0)), (2, .int (nI (b + T.length))), (3, .int k)] [] nx t r (wf_up i (m + 0) 37 (nI (b + e))) g := fun e k n hs he => by
    refine wf_iload_n dc_Mod_items_170 rfl ?_
    refine wf_iload_n dc_Mod_items_171 rfl ?_
    refine wf_icmp_lt 180 dc_Mod_items_172 (by decide) (fun hc => ?_) (fun hc => ?_)
    · refine wf_iload_n dc_Mod_items_180 rfl ?_
      exact wf_ireturn rfl dc_Mod_items_181 (bad e _ hs)
    · refine wf_aload_n dc_Mod_items_175 rfl ?_
      refine wf_iload_n dc_Mod_items_176 rfl ?_
      refine wf_iv1 (M' := mt_Mod_fail) (c := 8) dc_Mod_items_177 tg_Mod_fail ml_Mod_127 im_Mod_fail se_Mod_fail ⟨_, rfl, rfl⟩ (by assumption) (Nat.le_of_ble_eq_true rfl) (Nat.le_refl _) (Nat.le_refl _) (c_Mod_fail hA) qV_nt (qV_go (fun i2 hp => ?_))
      rw [wf_up_s, if_neg (hne1 e he)] at hp
      have hii : wf_up (wf_up i (m + 0) 37 (nI (b + e))) (m + 0) 37 (nI (b + e)) = wf_up i (m + 0) 37 (nI (b + e)) := by
        funext z k
        by_cases h : z = m + 0 ∧ k = 37
        · rw [h.1, h.2, wf_up_s, wf_up_s]
        · exact (if_neg h).trans rfl
      rw [hii] at hp
      subst hp
      refine wf_iload_n dc_Mod_items_180 rfl ?_
      exact wf_ireturn rfl dc_Mod_items_181 (bad e _ hs)
  -- the loop's head, with a fault
  have out : ∀ (e : Nat) (k n : Int32), ps_set T p = .inl e → e ≤ T.length → (k < nI (b + T.length) → ∃ q, q < T.length ∧ k = nI (b + q)) → Wf l E n0 mt_Mod_items (d + 1) 0 0 Q0 0 0 29 [(0, .ref (m + 0)), (2, .int (nI (b + T.length))), (3, .int k), (4, .int n)] [] nx t r (wf_up i (m + 0) 37 (nI (b + e))) g := fun e k n hs he hk => by
    refine wf_iload_n dc_Mod_items_29 rfl ?_
    refine wf_iload_n dc_Mod_items_30 rfl ?_
    refine wf_icmp_ge 170 dc_Mod_items_31 (by decide) (fun hc => ?_) (fun hc => ?_)
    · exact Wf.to (by exact ⟨rfl, rfl, rfl, trivial⟩) (fin e k n hs he)
    obtain ⟨q, hq, rfl⟩ := hk (Int32.not_le.mp hc)
    have flt : Wf l E n0 mt_Mod_items (d + 1) 0 0 Q0 0 0 50 [(0, .ref (m + 0)), (2, .int (nI (b + T.length))), (3, .int (nI (b + q)))] [] nx t r (wf_up i (m + 0) 37 (nI (b + e))) g := by
      refine wf_aload_n dc_Mod_items_50 rfl ?_
      refine wf_geti dc_Mod_items_51 fl_Mod_120 rfl (by assumption) ?_
      refine wf_iconst (-1) dc_Mod_items_54 (by decide) ?_
      rw [wf_up_s]
      refine wf_icmp_ne 170 dc_Mod_items_55 (by decide) (fun hc => ?_) (fun hc => absurd hc (hne1 e he))
      exact Wf.to (by exact ⟨rfl, rfl, rfl, trivial⟩) (fin e _ 0 hs he)
    refine wf_iload dc_Mod_items_34 rfl ?_
    refine wf_if_eq 50 dc_Mod_items_36 (by decide) (fun h4 => ?_) (fun h4 => ?_)
    · exact Wf.to (by exact ⟨rfl, rfl, rfl, trivial⟩) flt
    refine wf_aload_n dc_Mod_items_39 rfl ?_
    refine wf_getr dc_Mod_items_40 fl_Mod_16 rfl (by assumption) (by assumption) ?_
    refine wf_iload_n dc_Mod_items_43 rfl ?_
    refine wf_iaload (y := 0) dc_Mod_items_44 rfl (by assumption) (vp_in_nI (by omega) (by omega)) ?_
    refine wf_bipush 93 dc_Mod_items_45 (by decide) ?_
    refine wf_icmp_eq 170 dc_Mod_items_47 (by decide) (fun h5 => ?_) (fun h5 => ?_)
    · exact Wf.to (by exact ⟨rfl, rfl, rfl, trivial⟩) (fin e _ 0 hs he)
    · exact Wf.to (by exact ⟨rfl, rfl, rfl, trivial⟩) flt
  -- no sign is left
  have endL : ∀ (n : Int32), ps_set T p = .inl T.length → Wf l E n0 mt_Mod_items (d + 1) 0 0 Q0 0 0 29 [(0, .ref (m + 0)), (2, .int (nI (b + T.length))), (3, .int (nI (b + T.length))), (4, .int n)] [] nx t r i g := fun n hs => by
    refine wf_iload_n dc_Mod_items_29 rfl ?_
    refine wf_iload_n dc_Mod_items_30 rfl ?_
    refine wf_icmp_ge 170 dc_Mod_items_31 (by decide) (fun hc => ?_) (fun hc => absurd ((nI_leI (by omega) (by omega)).mpr (Nat.le_refl _)) hc)
    refine wf_iload_n dc_Mod_items_170 rfl ?_
    refine wf_iload_n dc_Mod_items_171 rfl ?_
    refine wf_icmp_lt 180 dc_Mod_items_172 (by decide) (fun hc => absurd ((nI_ltI (by omega) (by omega)).mp hc) (by omega)) (fun hc => ?_)
    refine wf_aload_n dc_Mod_items_175 rfl ?_
    refine wf_iload_n dc_Mod_items_176 rfl ?_
    refine wf_iv1 (M' := mt_Mod_fail) (c := 8) dc_Mod_items_177 tg_Mod_fail ml_Mod_127 im_Mod_fail se_Mod_fail ⟨_, rfl, rfl⟩ (by assumption) (Nat.le_of_ble_eq_true rfl) (Nat.le_refl _) (Nat.le_refl _) (c_Mod_fail hA) qV_nt (qV_go (fun i2 hp => ?_))
    rw [if_pos hf] at hp
    subst hp
    refine wf_iload_n dc_Mod_items_180 rfl ?_
    exact wf_ireturn rfl dc_Mod_items_181 (bad _ _ hs)
  -- one item, at a place where a sign is
  have item : ∀ (q n : Nat) (mm : Nat → Bool), q < T.length → n ≤ 60 → (n = 0 ∨ nx_of T q ≠ 93) → (∀ e, ps_item T q mm = .inl e → ps_set T p = .inl e) → (∀ q' m', ps_item T q mm = .inr (q', m') → Wf l E n0 mt_Mod_items (d + 1) 0 0 Q0 0 0 29 [(0, .ref (m + 0)), (2, .int (nI (b + T.length))), (3, .int (nI (b + q'))), (4, .int (nI (n + 1)))] [] nx t r i g) → Wf l E n0 mt_Mod_items (d + 1) 0 0 Q0 0 0 29 [(0, .ref (m + 0)), (2, .int (nI (b + T.length))), (3, .int (nI (b + q))), (4, .int (nI n))] [] nx t r i g := by
    intro q n mm hq hn h93 hbad hgo
    have hq0 := hz q hq
    have at58 : Wf l E n0 mt_Mod_items (d + 1) 0 0 Q0 0 0 58 [(0, .ref (m + 0)), (2, .int (nI (b + T.length))), (3, .int (nI (b + q))), (4, .int (nI n))] [] nx t r i g := by
      -- behind the first sign, the fault's map as it is
      have behind : ∀ i1 : Wi, (∀ z k, (z = m + 0 ∧ k = 37) ∨ i1 z k = i z k) → ((i1 = i ∧ ps_it (nx_of T q) = true) ∨ (∃ e, ps_set T p = .inl e ∧ e ≤ T.length ∧ i1 = wf_up i (m + 0) 37 (nI (b + e)))) → Wf l E n0 mt_Mod_items (d + 1) 0 0 Q0 0 0 75 [(0, .ref (m + 0)), (2, .int (nI (b + T.length))), (3, .int (nI (b + q))), (4, .int (nI n))] [] nx t r i1 g := by
        intro i1 hi1 hst
        have rd1 : ∀ y, y < T.length → i1 (m + 3) (nI (b + y)).toNatClampNeg = nx_of T y := fun y hy => by
          rcases hi1 (m + 3) (nI (b + y)).toNatClampNeg with z | z
          · exact absurd z.1 (by omega)
          · rw [z]; exact rd y hy
        refine wf_aload_n dc_Mod_items_75 rfl ?_
        refine wf_getr dc_Mod_items_76 fl_Mod_16 rfl (by assumption) (by assumption) ?_
        refine wf_iload_n dc_Mod_items_79 rfl ?_
        refine wf_iaload (y := 0) dc_Mod_items_80 rfl (by assumption) (vp_in_nI (by omega) (by omega)) ?_
        rw [rd1 q hq]
        refine wf_istore dc_Mod_items_81 (by decide) ?_
        refine wf_iinc _ dc_Mod_items_83 rfl (nI_1 (b + q)) (by decide) ?_
        refine wf_iinc _ dc_Mod_items_86 rfl (nI_1 n) (by decide) ?_
        refine wf_iload_n dc_Mod_items_89 rfl ?_
        refine wf_iload_n dc_Mod_items_90 rfl ?_
        by_cases hq1 : q + 1 < T.length
        · refine wf_icmp_ge 167 dc_Mod_items_91 (by decide) (fun hc => absurd ((nI_leI (by omega) (by omega)).mp hc) (by omega)) (fun hc => ?_)
          refine wf_aload_n dc_Mod_items_94 rfl ?_
          refine wf_getr dc_Mod_items_95 fl_Mod_16 rfl (by assumption) (by assumption) ?_
          refine wf_iload_n dc_Mod_items_98 rfl ?_
          rw [show b + q + 1 = b + (q + 1) by omega]
          refine wf_iaload (y := 0) dc_Mod_items_99 rfl (by assumption) (vp_in_nI (by omega) (by omega)) ?_
          refine wf_bipush 45 dc_Mod_items_100 (by decide) ?_
          rw [rd1 (q + 1) hq1]
          by_cases h45 : nx_of T (q + 1) = 45
          · refine wf_icmp_ne 167 dc_Mod_items_102 (by decide) (fun hc => absurd h45 hc) (fun hc => ?_)
            refine wf_iinc _ dc_Mod_items_105 rfl (nI_1 (b + (q + 1))) (by decide) ?_
            refine wf_iload_n dc_Mod_items_108 rfl ?_
            refine wf_iload_n dc_Mod_items_109 rfl ?_
            rw [show b + (q + 1) + 1 = b + (q + 2) by omega]
            by_cases hq2 : q + 2 < T.length
            · refine wf_icmp_ge 141 dc_Mod_items_110 (by decide) (fun hc => absurd ((nI_leI (by omega) (by omega)).mp hc) (by omega)) (fun hc => ?_)
              have hq20 := hz _ hq2
              -- to the loop's head again
              have nxt : ∀ i3 : Wi, Wf l E n0 mt_Mod_items (d + 1) 0 0 Q0 0 0 29 [(0, .ref (m + 0)), (2, .int (nI (b + T.length))), (3, .int (nI (b + (q + 3)))), (4, .int (nI (n + 1)))] [] nx t r i3 g → Wf l E n0 mt_Mod_items (d + 1) 0 0 Q0 0 0 141 [(0, .ref (m + 0)), (2, .int (nI (b + T.length))), (3, .int (nI (b + (q + 2)))), (4, .int (nI (n + 1)))] [] nx t r i3 g := fun i3 h => by
                refine wf_iload_n dc_Mod_items_141 rfl ?_
                refine wf_iload_n dc_Mod_items_142 rfl ?_
                refine wf_icmp_ge 151 dc_Mod_items_143 (by decide) (fun hc => absurd ((nI_leI (by omega) (by omega)).mp hc) (by omega)) (fun hc => ?_)
                refine wf_iload dc_Mod_items_146 rfl ?_
                refine wf_goto 152 dc_Mod_items_148 (by decide) ?_
                refine wf_istore dc_Mod_items_152 (by decide) ?_
                refine wf_iload_n dc_Mod_items_154 rfl ?_
                refine wf_iload_n dc_Mod_items_155 rfl ?_
                refine wf_icmp_ge 165 dc_Mod_items_156 (by decide) (fun hc => absurd ((nI_leI (by omega) (by omega)).mp hc) (by omega)) (fun hc => ?_)
                refine wf_iload_n dc_Mod_items_159 rfl ?_
                refine wf_iconst 1 dc_Mod_items_160 (by decide) ?_
                refine wf_iadd dc_Mod_items_161 ?_
                rw [nI_1]
                refine wf_goto 166 dc_Mod_items_162 (by decide) ?_
                refine wf_istore_n dc_Mod_items_166 (by decide) ?_
                refine wf_goto 29 dc_Mod_items_167 (by decide) ?_
                exact Wf.to (by exact ⟨rfl, rfl, rfl, rfl, trivial⟩) h
              -- the second sign is wrong
              have wrong : (i1 = i → ps_it (nx_of T (q + 2)) = false ∨ nx_of T (q + 2) < nx_of T q) → Wf l E n0 mt_Mod_items (d + 1) 0 0 Q0 0 0 136 [(0, .ref (m + 0)), (2, .int (nI (b + T.length))), (3, .int (nI (b + (q + 2)))), (4, .int (nI (n + 1)))] [] nx t r i1 g := fun hw => by
                refine wf_aload_n dc_Mod_items_136 rfl ?_
                refine wf_iload_n dc_Mod_items_137 rfl ?_
                refine wf_iv1 (M' := mt_Mod_fail) (c := 8) dc_Mod_items_138 tg_Mod_fail ml_Mod_127 im_Mod_fail se_Mod_fail ⟨_, rfl, rfl⟩ (by assumption) (Nat.le_of_ble_eq_true rfl) (Nat.le_refl _) (Nat.le_refl _) (c_Mod_fail hA) qV_nt (qV_go (fun i2 hp => ?_))
                have fl : ∃ e, ps_set T p = .inl e ∧ e ≤ T.length ∧ i2 = wf_up i (m + 0) 37 (nI (b + e)) := by
                  rcases hst with ⟨rfl, hit⟩ | ⟨e, e1, e2, rfl⟩
                  · rw [if_pos hf] at hp
                    refine ⟨q + 2, hbad _ ?_, by omega, hp⟩
                    unfold ps_item
                    rw [if_neg (by rw [hit]; decide), if_pos h45, if_pos (hw rfl)]
                  · refine ⟨e, e1, e2, ?_⟩
                    rw [wf_up_s, if_neg (hne1 e e2)] at hp
                    rw [hp]
                    funext z k
                    by_cases h : z = m + 0 ∧ k = 37
                    · rw [h.1, h.2, wf_up_s, wf_up_s]
                    · exact (if_neg h).trans rfl
                obtain ⟨e, e1, e2, rfl⟩ := fl
                exact Wf.to (by exact ⟨rfl, rfl, rfl, rfl, trivial⟩) (nxt _ (Wf.to (by exact ⟨rfl, rfl, rfl, rfl, trivial⟩) (out e _ _ e1 e2 (fun hlt => ⟨q + 3, by have := (nI_ltI (by omega) (by omega)).mp hlt; omega, rfl⟩))))
              refine wf_aload_n dc_Mod_items_113 rfl ?_
              refine wf_getr dc_Mod_items_114 fl_Mod_16 rfl (by assumption) (by assumption) ?_
              refine wf_iload_n dc_Mod_items_117 rfl ?_
              refine wf_iaload (y := 0) dc_Mod_items_118 rfl (by assumption) (vp_in_nI (by omega) (by omega)) ?_
              rw [rd1 (q + 2) hq2]
              refine wf_is1 (M' := mt_Mod_isItem) dc_Mod_items_119 tg_Mod_isItem ml_Mod_123 sm_Mod_isItem (Nat.le_of_ble_eq_true rfl) (Nat.le_refl _) (Nat.le_refl _) (c_Mod_isItem hq20) qI_nt (qI_go (fun x2 i2 hp => ?_))
              obtain ⟨rfl, hq'⟩ := hp; subst hq'
              cases hit2 : ps_it (nx_of T (q + 2)) with
              | false =>
                refine wf_if_eq 136 dc_Mod_items_122 (by decide) (fun _ => ?_) (fun hc => absurd rfl hc)
                exact Wf.to (by exact ⟨rfl, rfl, rfl, rfl, trivial⟩) (wrong (fun _ => Or.inl hit2))
              | true =>
                refine wf_if_eq 136 dc_Mod_items_122 (by decide) (fun hc => absurd hc (by decide)) (fun _ => ?_)
                refine wf_aload_n dc_Mod_items_125 rfl ?_
                refine wf_getr dc_Mod_items_126 fl_Mod_16 rfl (by assumption) (by assumption) ?_
                refine wf_iload_n dc_Mod_items_129 rfl ?_
                refine wf_iaload (y := 0) dc_Mod_items_130 rfl (by assumption) (vp_in_nI (by omega) (by omega)) ?_
                refine wf_iload dc_Mod_items_131 rfl ?_
                rw [rd1 (q + 2) hq2]
                refine wf_icmp_ge 141 dc_Mod_items_133 (by decide) (fun hcmp => ?_) (fun hcmp => ?_)
                · rcases hst with ⟨rfl, hit⟩ | ⟨e, e1, e2, rfl⟩
                  · refine Wf.to (by exact ⟨rfl, rfl, rfl, rfl, trivial⟩) (nxt _ (hgo (q + 3) (ps_rg mm (nxN T q) (nxN T (q + 2))) ?_))
                    unfold ps_item
                    rw [if_neg (by rw [hit]; decide), if_pos h45, if_neg (fun z => z.elim (fun z => by rw [hit2] at z; cases z) (fun z => absurd z (Int32.not_lt.mpr hcmp)))]
                  · exact Wf.to (by exact ⟨rfl, rfl, rfl, rfl, trivial⟩) (nxt _ (Wf.to (by exact ⟨rfl, rfl, rfl, rfl, trivial⟩) (out e _ _ e1 e2 (fun hlt => ⟨q + 3, by have := (nI_ltI (by omega) (by omega)).mp hlt; omega, rfl⟩))))
                · exact Wf.to (by exact ⟨rfl, rfl, rfl, rfl, trivial⟩) (wrong (fun _ => Or.inr (Int32.not_le.mp hcmp)))
            · have hq2e : q + 2 = T.length := by omega
              refine wf_icmp_ge 141 dc_Mod_items_110 (by decide) (fun hc => ?_) (fun hc => absurd ((nI_leI (by omega) (by omega)).mpr (by omega)) hc)
              refine wf_iload_n dc_Mod_items_141 rfl ?_
              refine wf_iload_n dc_Mod_items_142 rfl ?_
              refine wf_icmp_ge 151 dc_Mod_items_143 (by decide) (fun hc => ?_) (fun hc => absurd ((nI_leI (by omega) (by omega)).mpr (by omega)) hc)
              refine wf_iconst 0 dc_Mod_items_151 (by decide) ?_
              refine wf_istore dc_Mod_items_152 (by decide) ?_
              refine wf_iload_n dc_Mod_items_154 rfl ?_
              refine wf_iload_n dc_Mod_items_155 rfl ?_
              refine wf_icmp_ge 165 dc_Mod_items_156 (by decide) (fun hc => ?_) (fun hc => absurd ((nI_leI (by omega) (by omega)).mpr (by omega)) hc)
              refine wf_iload_n dc_Mod_items_165 rfl ?_
              refine wf_istore_n dc_Mod_items_166 (by decide) ?_
              refine wf_goto 29 dc_Mod_items_167 (by decide) ?_
              rcases hst with ⟨rfl, hit⟩ | ⟨e, e1, e2, rfl⟩
              · have hs : ps_set T p = .inl T.length := by
                  rw [← hq2e]
                  refine hbad _ ?_
                  unfold ps_item
                  rw [if_neg (by rw [hit]; decide), if_pos h45, if_pos (Or.inl (by rw [nx_end (by omega)]; rfl))]
                rw [hq2e]
                exact Wf.to (by exact ⟨rfl, rfl, rfl, rfl, trivial⟩) (endL 0 hs)
              · exact Wf.to (by exact ⟨rfl, rfl, rfl, rfl, trivial⟩) (out e _ _ e1 e2 (fun hlt => absurd ((nI_ltI (by omega) (by omega)).mp hlt) (by omega)))
          · refine wf_icmp_ne 167 dc_Mod_items_102 (by decide) (fun hc => ?_) (fun hc => absurd hc h45)
            refine wf_goto 29 dc_Mod_items_167 (by decide) ?_
            rcases hst with ⟨rfl, hit⟩ | ⟨e, e1, e2, rfl⟩
            · refine Wf.to (by exact ⟨rfl, rfl, rfl, rfl, trivial⟩) (hgo (q + 1) (ps_rg mm (nxN T q) (nxN T q)) ?_)
              unfold ps_item
              rw [if_neg (by rw [hit]; decide), if_neg h45]
            · exact Wf.to (by exact ⟨rfl, rfl, rfl, rfl, trivial⟩) (out e _ _ e1 e2 (fun hlt => ⟨q + 1, hq1, rfl⟩))
        · have hq1e : q + 1 = T.length := by omega
          refine wf_icmp_ge 167 dc_Mod_items_91 (by decide) (fun hc => ?_) (fun hc => absurd ((nI_leI (by omega) (by omega)).mpr (by omega)) hc)
          refine wf_goto 29 dc_Mod_items_167 (by decide) ?_
          rcases hst with ⟨rfl, hit⟩ | ⟨e, e1, e2, rfl⟩
          · refine Wf.to (by exact ⟨rfl, rfl, rfl, rfl, trivial⟩) (hgo (q + 1) (ps_rg mm (nxN T q) (nxN T q)) ?_)
            unfold ps_item
            rw [if_neg (by rw [hit]; decide), if_neg (by rw [nx_end (by omega)]; decide)]
          · exact Wf.to (by exact ⟨rfl, rfl, rfl, rfl, trivial⟩) (out e _ _ e1 e2 (fun hlt => absurd ((nI_ltI (by omega) (by omega)).mp hlt) (by omega)))
      refine wf_aload_n dc_Mod_items_58 rfl ?_
      refine wf_getr dc_Mod_items_59 fl_Mod_16 rfl (by assumption) (by assumption) ?_
      refine wf_iload_n dc_Mod_items_62 rfl ?_
      refine wf_iaload (y := 0) dc_Mod_items_63 rfl (by assumption) (vp_in_nI (by omega) (by omega)) ?_
      rw [rd q hq]
      refine wf_is1 (M' := mt_Mod_isItem) dc_Mod_items_64 tg_Mod_isItem ml_Mod_123 sm_Mod_isItem (Nat.le_of_ble_eq_true rfl) (Nat.le_refl _) (Nat.le_refl _) (c_Mod_isItem hq0) qI_nt (qI_go (fun x2 i2 hp => ?_))
      obtain ⟨rfl, hq'⟩ := hp; subst hq'
      cases hit : ps_it (nx_of T q) with
      | true =>
        refine wf_if_ne 75 dc_Mod_items_67 (by decide) (fun _ => ?_) (fun hc => absurd hc (by decide))
        exact Wf.to (by exact ⟨rfl, rfl, rfl, rfl, trivial⟩) (behind _ (fun z k => Or.inr rfl) (Or.inl ⟨rfl, hit⟩))
      | false =>
        refine wf_if_ne 75 dc_Mod_items_67 (by decide) (fun hc => absurd rfl hc) (fun _ => ?_)
        refine wf_aload_n dc_Mod_items_70 rfl ?_
        refine wf_iload_n dc_Mod_items_71 rfl ?_
        refine wf_iv1 (M' := mt_Mod_fail) (c := 8) dc_Mod_items_72 tg_Mod_fail ml_Mod_127 im_Mod_fail se_Mod_fail ⟨_, rfl, rfl⟩ (by assumption) (Nat.le_of_ble_eq_true rfl) (Nat.le_refl _) (Nat.le_refl _) (c_Mod_fail hA) qV_nt (qV_go (fun i2 hp => ?_))
        rw [if_pos hf] at hp
        subst hp
        refine Wf.to (by exact ⟨rfl, rfl, rfl, rfl, trivial⟩) (behind _ (fun z k => ?_) (Or.inr ⟨q, hbad _ ?_, by omega, rfl⟩))
        · by_cases h : z = m + 0 ∧ k = 37
          · exact Or.inl h
          · exact Or.inr (if_neg h)
        · unfold ps_item
          rw [if_pos hit]
    have at50 : Wf l E n0 mt_Mod_items (d + 1) 0 0 Q0 0 0 50 [(0, .ref (m + 0)), (2, .int (nI (b + T.length))), (3, .int (nI (b + q))), (4, .int (nI n))] [] nx t r i g := by
      refine wf_aload_n dc_Mod_items_50 rfl ?_
      refine wf_geti dc_Mod_items_51 fl_Mod_120 rfl (by assumption) ?_
      refine wf_iconst (-1) dc_Mod_items_54 (by decide) ?_
      refine wf_icmp_ne 170 dc_Mod_items_55 (by decide) (fun hc => absurd hf hc) (fun hc => ?_)
      exact Wf.to (by exact ⟨rfl, rfl, rfl, rfl, trivial⟩) at58
    refine wf_iload_n dc_Mod_items_29 rfl ?_
    refine wf_iload_n dc_Mod_items_30 rfl ?_
    refine wf_icmp_ge 170 dc_Mod_items_31 (by decide) (fun hc => absurd ((nI_leI (by omega) (by omega)).mp hc) (by omega)) (fun hc => ?_)
    refine wf_iload dc_Mod_items_34 rfl ?_
    by_cases hn0 : n = 0
    · refine wf_if_eq 50 dc_Mod_items_36 (by decide) (fun _ => ?_) (fun hc => absurd (by rw [hn0]; rfl) hc)
      exact Wf.to (by exact ⟨rfl, rfl, rfl, rfl, trivial⟩) at50
    · refine wf_if_eq 50 dc_Mod_items_36 (by decide) (fun hc => absurd hc (nI_ne0 (by omega) (by omega))) (fun _ => ?_)
      refine wf_aload_n dc_Mod_items_39 rfl ?_
      refine wf_getr dc_Mod_items_40 fl_Mod_16 rfl (by assumption) (by assumption) ?_
      refine wf_iload_n dc_Mod_items_43 rfl ?_
      refine wf_iaload (y := 0) dc_Mod_items_44 rfl (by assumption) (vp_in_nI (by omega) (by omega)) ?_
      refine wf_bipush 93 dc_Mod_items_45 (by decide) ?_
      rw [rd q hq]
      refine wf_icmp_eq 170 dc_Mod_items_47 (by decide) (fun hc => absurd hc (h93.elim (fun z => absurd z hn0) id)) (fun hc => ?_)
      exact Wf.to (by exact ⟨rfl, rfl, rfl, rfl, trivial⟩) at50
  -- more items
  have more : ∀ (f q n : Nat) (mm : Nat → Bool), q ≤ T.length → T.length ≤ q + f → 1 ≤ n → n ≤ q → (ps_set T p = (match ps_items T f q mm with
      | .inl e => .inl e
      | .inr (p2, m2) => if nx_of T p2 = 93 then .inr (p2 + 1, if nx_of T p = 94 then ps_cm m2 else m2) else .inl p2)) → Wf l E n0 mt_Mod_items (d + 1) 0 0 Q0 0 0 29 [(0, .ref (m + 0)), (2, .int (nI (b + T.length))), (3, .int (nI (b + q))), (4, .int (nI n))] [] nx t r i g := by
    intro f
    have stop : ∀ (q n : Nat) (mm : Nat → Bool), q ≤ T.length → 1 ≤ n → n ≤ q → (nx_of T q = 0 ∨ nx_of T q = 93) → (ps_set T p = if nx_of T q = 93 then .inr (q + 1, if nx_of T p = 94 then ps_cm mm else mm) else .inl q) → Wf l E n0 mt_Mod_items (d + 1) 0 0 Q0 0 0 29 [(0, .ref (m + 0)), (2, .int (nI (b + T.length))), (3, .int (nI (b + q))), (4, .int (nI n))] [] nx t r i g := by
      intro q n mm hq hn hnq ht hs
      by_cases h93 : nx_of T q = 93
      · rw [if_pos h93] at hs
        have hlt : q < T.length := nx_lt2 h93 (by decide)
        refine wf_iload_n dc_Mod_items_29 rfl ?_
        refine wf_iload_n dc_Mod_items_30 rfl ?_
        refine wf_icmp_ge 170 dc_Mod_items_31 (by decide) (fun hc => absurd ((nI_leI (by omega) (by omega)).mp hc) (by omega)) (fun hc => ?_)
        refine wf_iload dc_Mod_items_34 rfl ?_
        refine wf_if_eq 50 dc_Mod_items_36 (by decide) (fun hc => absurd hc (nI_ne0 (by omega) (by omega))) (fun _ => ?_)
        refine wf_aload_n dc_Mod_items_39 rfl ?_
        refine wf_getr dc_Mod_items_40 fl_Mod_16 rfl (by assumption) (by assumption) ?_
        refine wf_iload_n dc_Mod_items_43 rfl ?_
        refine wf_iaload (y := 0) dc_Mod_items_44 rfl (by assumption) (vp_in_nI (by omega) (by omega)) ?_
        refine wf_bipush 93 dc_Mod_items_45 (by decide) ?_
        rw [rd q hlt, h93]
        refine wf_icmp_eq 170 dc_Mod_items_47 (by decide) (fun hc => ?_) (fun hc => absurd rfl hc)
        refine wf_iload_n dc_Mod_items_170 rfl ?_
        refine wf_iload_n dc_Mod_items_171 rfl ?_
        refine wf_icmp_lt 180 dc_Mod_items_172 (by decide) (fun hc => ?_) (fun hc => absurd ((nI_ltI (by omega) (by omega)).mpr (by omega)) hc)
        refine wf_iload_n dc_Mod_items_180 rfl ?_
        exact wf_ireturn rfl dc_Mod_items_181 (yes q _ hs)
      · rw [if_neg h93] at hs
        have h0 : nx_of T q = 0 := ht.elim id (fun z => absurd z h93)
        have hqe : q = T.length := by
          have : ¬ q < T.length := fun z => hz q z h0
          omega
        rw [hqe] at hs ⊢
        exact endL _ hs
    induction f with
    | zero =>
      intro q n mm hq hf hn hnq hs
      exact stop q n mm hq hn hnq (Or.inl (nx_end (by omega))) hs
    | succ f ih =>
      intro q n mm hq hf' hn hnq hs
      unfold ps_items at hs
      by_cases ht : nx_of T q = 0 ∨ nx_of T q = 93
      · rw [if_pos ht] at hs
        exact stop q n mm hq hn hnq ht hs
      · rw [if_neg ht] at hs
        have hlt : q < T.length := nx_lt (fun z => ht (Or.inl z))
        obtain ⟨k1, k2⟩ := ps_item_ok mm hq
        refine item q n mm hlt (by omega) (Or.inr (fun z => ht (Or.inr z))) (fun e he => ?_) (fun q' m' he => ?_)
        · rw [he] at hs
          exact hs
        · rw [he] at hs
          have := k2 _ he
          simp only at this hs
          exact ih q' (n + 1) m' this.2 (by omega) (by omega) (by omega) hs
  -- the first item
  have first : ∀ q, q = (if nx_of T p = 94 then p + 1 else p) → q ≤ T.length → Wf l E n0 mt_Mod_items (d + 1) 0 0 Q0 0 0 25 [(0, .ref (m + 0)), (2, .int (nI (b + T.length)))] [.int (nI (b + q))] nx t r i g := by
    intro q hq hql
    have hs : ps_set T p = _ := rfl
    unfold ps_set at hs
    rw [← hq] at hs
    refine wf_istore_n dc_Mod_items_25 (by decide) ?_
    refine wf_iconst 0 dc_Mod_items_26 (by decide) ?_
    refine wf_istore dc_Mod_items_27 (by decide) ?_
    by_cases hlt : q < T.length
    · obtain ⟨k1, k2⟩ := ps_item_ok ps_no hql
      refine Wf.to (by exact ⟨rfl, rfl, rfl, rfl, trivial⟩) (item q 0 ps_no hlt (by omega) (Or.inl rfl) (fun e he => ?_) (fun q' m' he => ?_))
      · unfold ps_set
        rw [← hq, he]
      · have hk := k2 _ he
        simp only at hk
        refine more 60 q' 1 m' hk.2 (by omega) (by omega) (by omega) ?_
        unfold ps_set
        rw [← hq, he]
        rfl
    · have hqe : q = T.length := by omega
      have h1 : ps_set T p = .inl T.length := by
        unfold ps_set
        rw [← hq]
        unfold ps_item
        rw [if_pos (by rw [nx_end (by omega)]; rfl), hqe]
      rw [hqe]
      exact Wf.to (by exact ⟨rfl, rfl, rfl, rfl, trivial⟩) (endL 0 h1)
  refine wf_iload_n dc_Mod_items_0 rfl ?_
  refine wf_istore_n dc_Mod_items_1 (by decide) ?_
  refine wf_iload_n dc_Mod_items_2 rfl ?_
  refine wf_iload_n dc_Mod_items_3 rfl ?_
  by_cases hpl : p < T.length
  · refine wf_icmp_ge 24 dc_Mod_items_4 (by decide) (fun hc => absurd ((nI_leI (by omega) (by omega)).mp hc) (by omega)) (fun hc => ?_)
    refine wf_aload_n dc_Mod_items_7 rfl ?_
    refine wf_getr dc_Mod_items_8 fl_Mod_16 rfl (by assumption) (by assumption) ?_
    refine wf_iload_n dc_Mod_items_11 rfl ?_
    refine wf_iaload (y := 0) dc_Mod_items_12 rfl (by assumption) (vp_in_nI (by omega) (by omega)) ?_
    refine wf_bipush 94 dc_Mod_items_13 (by decide) ?_
    rw [rd p hpl]
    by_cases h94 : nx_of T p = 94
    · refine wf_icmp_ne 24 dc_Mod_items_15 (by decide) (fun hc => absurd h94 hc) (fun hc => ?_)
      refine wf_iload_n dc_Mod_items_18 rfl ?_
      refine wf_iconst 1 dc_Mod_items_19 (by decide) ?_
      refine wf_iadd dc_Mod_items_20 ?_
      rw [nI_1]
      refine wf_goto 25 dc_Mod_items_21 (by decide) ?_
      exact Wf.to (by exact ⟨rfl, rfl, trivial⟩) (first (p + 1) (by rw [if_pos h94]) (by omega))
    · refine wf_icmp_ne 24 dc_Mod_items_15 (by decide) (fun hc => ?_) (fun hc => absurd hc h94)
      refine wf_iload_n dc_Mod_items_24 rfl ?_
      exact Wf.to (by exact ⟨rfl, rfl, trivial⟩) (first p (by rw [if_neg h94]) hp)
  · refine wf_icmp_ge 24 dc_Mod_items_4 (by decide) (fun hc => ?_) (fun hc => absurd ((nI_leI (by omega) (by omega)).mpr (by omega)) hc)
    refine wf_iload_n dc_Mod_items_24 rfl ?_
    exact Wf.to (by exact ⟨rfl, rfl, trivial⟩) (first p (by rw [if_neg (by rw [nx_end (by omega)]; decide)]) hp)
end
