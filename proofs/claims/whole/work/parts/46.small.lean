/-! class LineRules: what looks at ints alone -/
def bw (x : Int32) (lo hi : Int) : Bool := decide (lo ≤ x.toInt) && decide (x.toInt ≤ hi)
theorem bw_t {x : Int32} {lo hi : Int} : bw x lo hi = true ↔ lo ≤ x.toInt ∧ x.toInt ≤ hi := by
  unfold bw
  rw [Bool.and_eq_true, decide_eq_true_eq, decide_eq_true_eq]
theorem bw_f {x : Int32} {lo hi : Int} (h : ¬ (lo ≤ x.toInt ∧ x.toInt ≤ hi)) : bw x lo hi = false := by
  cases hb : bw x lo hi with
  | false => rfl
  | true => exact absurd (bw_t.mp hb) h
def pt_ok (p a b : Int32) : Bool := if p = 0 ∨ p = 5 ∨ p = 6 then true else if p = 1 then bw a 0 5 else if p = 2 then bw a 0 5 && bw b 1 30 else if p = 3 ∨ p = 4 then bw a 1 30 else false
def ac_ok (p a b : Int32) : Bool := if p = 0 ∨ p = 10 then true else if p = 1 ∨ p = 3 then bw a 1 30 else if p = 2 ∨ p = 5 then bw a 1 30 && bw b 0 7 else if p = 4 then bw a 1 30 && bw b 1 30 else if p = 6 ∨ p = 7 then bw a 0 5 && bw b 0 5 else if p = 8 then bw a 0 5 else if p = 9 ∨ p = 11 ∨ p = 12 then bw a 0 7 else false
/-- byte k of a word -/
def sb_of (v : Int32) (k : Nat) : Int32 := (v.toUInt32 >>> ((nI (8 * k)).toUInt32 &&& Int32.toUInt32 31)).toInt32 &&& 255
/-- the signs of a word from byte k on, so many bytes -/
def ws_go (v : Int32) : Nat → Nat → List Int32
  | 0, _ => []
  | n + 1, k => if sb_of v k = 0 then ws_go v n (k + 1) else sb_of v k :: ws_go v n (k + 1)
def ws_of (v : Int32) : List Int32 := ws_go v 4 0
theorem ws_len (v : Int32) (n : Nat) : ∀ k, (ws_go v n k).length ≤ n := by
  induction n with
  | zero => exact fun k => Nat.le_refl _
  | succ n ih =>
    intro k
    unfold ws_go
    split
    · exact Nat.le_succ_of_le (ih _)
    · exact Nat.succ_le_succ (ih _)
section
variable {l : Launch} {E : We} {n0 d nx : Nat} {t : Wt} {r : Wr} {i : Wi} {g : Wl}
theorem c_LR_isExpression {x : Int32} : Ct l E n0 mt_LR_isExpression d 0 0 [.int x] nx t r i g (qI nx t r g (fun z i' => z = wt_b (bw x 0 5) ∧ i' = i)) := by
  refine Ct.of (by decide) (Nat.le_of_ble_eq_true rfl) ?_
  have no : bw x 0 5 = false → Wf l E n0 mt_LR_isExpression d 0 0 (qI nx t r g (fun z i' => z = wt_b (bw x 0 5) ∧ i' = i)) 0 0 14 [(0, .int x)] [] nx t r i g := fun h => by
    refine wf_iconst 0 dc_LR_isExpression_14 (by decide) ?_
    exact wf_zreturn rfl rfl dc_LR_isExpression_15 ⟨0, rfl, rfl, rfl, rfl, rfl, by rw [h]; rfl, rfl⟩
  refine wf_iload_n dc_LR_isExpression_0 rfl ?_
  refine wf_if_lt 14 dc_LR_isExpression_1 (by decide) (fun h1 => ?_) (fun h1 => ?_)
  · exact Wf.to (by exact ⟨rfl, trivial⟩) (no (bw_f (by have : x.toInt < 0 := Int32.lt_iff_toInt_lt.mp h1; omega)))
  refine wf_iload_n dc_LR_isExpression_4 rfl ?_
  refine wf_bipush 6 dc_LR_isExpression_5 (by decide) ?_
  refine wf_icmp_ge 14 dc_LR_isExpression_7 (by decide) (fun h2 => ?_) (fun h2 => ?_)
  · exact Wf.to (by exact ⟨rfl, trivial⟩) (no (bw_f (by have : 6 ≤ x.toInt := Int32.le_iff_toInt_le.mp h2; omega)))
  refine wf_iconst 1 dc_LR_isExpression_10 (by decide) ?_
  refine wf_goto 15 dc_LR_isExpression_11 (by decide) ?_
  exact wf_zreturn rfl rfl dc_LR_isExpression_15 ⟨1, rfl, rfl, rfl, rfl, rfl, by rw [bw_t.mpr ⟨by have : ¬ x.toInt < 0 := fun z => h1 (Int32.lt_iff_toInt_lt.mpr z); omega, by have : ¬ 6 ≤ x.toInt := fun z => h2 (Int32.le_iff_toInt_le.mpr z); omega⟩]; rfl, rfl⟩
theorem c_LR_isText {x : Int32} : Ct l E n0 mt_LR_isText d 0 0 [.int x] nx t r i g (qI nx t r g (fun z i' => z = wt_b (bw x 0 5) ∧ i' = i)) := by
  refine Ct.of (by decide) (Nat.le_of_ble_eq_true rfl) ?_
  have no : bw x 0 5 = false → Wf l E n0 mt_LR_isText d 0 0 (qI nx t r g (fun z i' => z = wt_b (bw x 0 5) ∧ i' = i)) 0 0 14 [(0, .int x)] [] nx t r i g := fun h => by
    refine wf_iconst 0 dc_LR_isText_14 (by decide) ?_
    exact wf_zreturn rfl rfl dc_LR_isText_15 ⟨0, rfl, rfl, rfl, rfl, rfl, by rw [h]; rfl, rfl⟩
  refine wf_iload_n dc_LR_isText_0 rfl ?_
  refine wf_if_lt 14 dc_LR_isText_1 (by decide) (fun h1 => ?_) (fun h1 => ?_)
  · exact Wf.to (by exact ⟨rfl, trivial⟩) (no (bw_f (by have : x.toInt < 0 := Int32.lt_iff_toInt_lt.mp h1; omega)))
  refine wf_iload_n dc_LR_isText_4 rfl ?_
  refine wf_bipush 6 dc_LR_isText_5 (by decide) ?_
  refine wf_icmp_ge 14 dc_LR_isText_7 (by decide) (fun h2 => ?_) (fun h2 => ?_)
  · exact Wf.to (by exact ⟨rfl, trivial⟩) (no (bw_f (by have : 6 ≤ x.toInt := Int32.le_iff_toInt_le.mp h2; omega)))
  refine wf_iconst 1 dc_LR_isText_10 (by decide) ?_
  refine wf_goto 15 dc_LR_isText_11 (by decide) ?_
  exact wf_zreturn rfl rfl dc_LR_isText_15 ⟨1, rfl, rfl, rfl, rfl, rfl, by rw [bw_t.mpr ⟨by have : ¬ x.toInt < 0 := fun z => h1 (Int32.lt_iff_toInt_lt.mpr z); omega, by have : ¬ 6 ≤ x.toInt := fun z => h2 (Int32.le_iff_toInt_le.mpr z); omega⟩]; rfl, rfl⟩
theorem c_LR_isCounter {x : Int32} : Ct l E n0 mt_LR_isCounter d 0 0 [.int x] nx t r i g (qI nx t r g (fun z i' => z = wt_b (bw x 0 7) ∧ i' = i)) := by
  refine Ct.of (by decide) (Nat.le_of_ble_eq_true rfl) ?_
  have no : bw x 0 7 = false → Wf l E n0 mt_LR_isCounter d 0 0 (qI nx t r g (fun z i' => z = wt_b (bw x 0 7) ∧ i' = i)) 0 0 14 [(0, .int x)] [] nx t r i g := fun h => by
    refine wf_iconst 0 dc_LR_isCounter_14 (by decide) ?_
    exact wf_zreturn rfl rfl dc_LR_isCounter_15 ⟨0, rfl, rfl, rfl, rfl, rfl, by rw [h]; rfl, rfl⟩
  refine wf_iload_n dc_LR_isCounter_0 rfl ?_
  refine wf_if_lt 14 dc_LR_isCounter_1 (by decide) (fun h1 => ?_) (fun h1 => ?_)
  · exact Wf.to (by exact ⟨rfl, trivial⟩) (no (bw_f (by have : x.toInt < 0 := Int32.lt_iff_toInt_lt.mp h1; omega)))
  refine wf_iload_n dc_LR_isCounter_4 rfl ?_
  refine wf_bipush 8 dc_LR_isCounter_5 (by decide) ?_
  refine wf_icmp_ge 14 dc_LR_isCounter_7 (by decide) (fun h2 => ?_) (fun h2 => ?_)
  · exact Wf.to (by exact ⟨rfl, trivial⟩) (no (bw_f (by have : 8 ≤ x.toInt := Int32.le_iff_toInt_le.mp h2; omega)))
  refine wf_iconst 1 dc_LR_isCounter_10 (by decide) ?_
  refine wf_goto 15 dc_LR_isCounter_11 (by decide) ?_
  exact wf_zreturn rfl rfl dc_LR_isCounter_15 ⟨1, rfl, rfl, rfl, rfl, rfl, by rw [bw_t.mpr ⟨by have : ¬ x.toInt < 0 := fun z => h1 (Int32.lt_iff_toInt_lt.mpr z); omega, by have : ¬ 8 ≤ x.toInt := fun z => h2 (Int32.le_iff_toInt_le.mpr z); omega⟩]; rfl, rfl⟩
theorem c_LR_isField {x : Int32} : Ct l E n0 mt_LR_isField d 0 0 [.int x] nx t r i g (qI nx t r g (fun z i' => z = wt_b (bw x 1 30) ∧ i' = i)) := by
  refine Ct.of (by decide) (Nat.le_of_ble_eq_true rfl) ?_
  have no : bw x 1 30 = false → Wf l E n0 mt_LR_isField d 0 0 (qI nx t r g (fun z i' => z = wt_b (bw x 1 30) ∧ i' = i)) 0 0 15 [(0, .int x)] [] nx t r i g := fun h => by
    refine wf_iconst 0 dc_LR_isField_15 (by decide) ?_
    exact wf_zreturn rfl rfl dc_LR_isField_16 ⟨0, rfl, rfl, rfl, rfl, rfl, by rw [h]; rfl, rfl⟩
  refine wf_iload_n dc_LR_isField_0 rfl ?_
  refine wf_iconst 1 dc_LR_isField_1 (by decide) ?_
  refine wf_icmp_lt 15 dc_LR_isField_2 (by decide) (fun h1 => ?_) (fun h1 => ?_)
  · exact Wf.to (by exact ⟨rfl, trivial⟩) (no (bw_f (by have : x.toInt < 1 := Int32.lt_iff_toInt_lt.mp h1; omega)))
  refine wf_iload_n dc_LR_isField_5 rfl ?_
  refine wf_bipush 30 dc_LR_isField_6 (by decide) ?_
  refine wf_icmp_gt 15 dc_LR_isField_8 (by decide) (fun h2 => ?_) (fun h2 => ?_)
  · exact Wf.to (by exact ⟨rfl, trivial⟩) (no (bw_f (by have : 30 < x.toInt := Int32.lt_iff_toInt_lt.mp h2; omega)))
  refine wf_iconst 1 dc_LR_isField_11 (by decide) ?_
  refine wf_goto 16 dc_LR_isField_12 (by decide) ?_
  exact wf_zreturn rfl rfl dc_LR_isField_16 ⟨1, rfl, rfl, rfl, rfl, rfl, by rw [bw_t.mpr ⟨by have : ¬ x.toInt < 1 := fun z => h1 (Int32.lt_iff_toInt_lt.mpr z); omega, by have : ¬ 30 < x.toInt := fun z => h2 (Int32.lt_iff_toInt_lt.mpr z); omega⟩]; rfl, rfl⟩
theorem c_LR_signsIn {v : Int32} : Ct l E n0 mt_LR_signsIn d 0 0 [.int v] nx t r i g (qI nx t r g (fun z i' => z = nI (ws_of v).length ∧ i' = i)) := by
  refine Ct.of (by decide) (Nat.le_of_ble_eq_true rfl) ?_
  have loop : ∀ (n k c : Nat), k + n = 4 → c + (ws_go v n k).length = (ws_of v).length → Wf l E n0 mt_LR_signsIn d 0 0 (qI nx t r g (fun z i' => z = nI (ws_of v).length ∧ i' = i)) 0 0 4 [(0, .int v), (1, .int (nI c)), (2, .int (nI (8 * k)))] [] nx t r i g := by
    intro n
    induction n with
    | zero =>
      intro k c hk hc0
      refine wf_iload_n dc_LR_signsIn_4 rfl ?_
      refine wf_bipush 32 dc_LR_signsIn_5 (by decide) ?_
      refine wf_icmp_ge 29 dc_LR_signsIn_7 (by decide) (fun hc => ?_) (fun hc => absurd ((nI_leI (a := 32) (by omega) (by omega)).mpr (by omega)) hc)
      refine wf_iload_n dc_LR_signsIn_29 rfl ?_
      exact wf_ireturn rfl dc_LR_signsIn_30 ⟨_, rfl, rfl, rfl, rfl, rfl, by rw [← hc0]; rfl, rfl⟩
    | succ n ih =>
      intro k c hk hc0
      unfold ws_go at hc0
      refine wf_iload_n dc_LR_signsIn_4 rfl ?_
      refine wf_bipush 32 dc_LR_signsIn_5 (by decide) ?_
      refine wf_icmp_ge 29 dc_LR_signsIn_7 (by decide) (fun hc => absurd ((nI_leI (a := 32) (by omega) (by omega)).mp hc) (by omega)) (fun hc => ?_)
      refine wf_iload_n dc_LR_signsIn_10 rfl ?_
      refine wf_iload_n dc_LR_signsIn_11 rfl ?_
      refine wf_iushr dc_LR_signsIn_12 ?_
      refine wf_sipush 255 dc_LR_signsIn_13 (by decide) ?_
      refine wf_iand dc_LR_signsIn_16 ?_
      refine wf_if_eq 23 dc_LR_signsIn_17 (by decide) (fun h0 => ?_) (fun h0 => ?_)
      · rw [if_pos (show sb_of v k = 0 from h0)] at hc0
        refine wf_iinc _ dc_LR_signsIn_23 rfl (nI_add (8 * k) 8) (by decide) ?_
        refine wf_goto 4 dc_LR_signsIn_26 (by decide) ?_
        exact Wf.to (by exact ⟨rfl, rfl, rfl, trivial⟩) (ih (k + 1) c (by omega) hc0)
      · rw [if_neg (show ¬ sb_of v k = 0 from h0), List.length_cons] at hc0
        refine wf_iinc _ dc_LR_signsIn_20 rfl (nI_1 c) (by decide) ?_
        refine wf_iinc _ dc_LR_signsIn_23 rfl (nI_add (8 * k) 8) (by decide) ?_
        refine wf_goto 4 dc_LR_signsIn_26 (by decide) ?_
        exact Wf.to (by exact ⟨rfl, rfl, rfl, trivial⟩) (ih (k + 1) (c + 1) (by omega) (by omega))
  refine wf_iconst 0 dc_LR_signsIn_0 (by decide) ?_
  refine wf_istore_n dc_LR_signsIn_1 (by decide) ?_
  refine wf_iconst 0 dc_LR_signsIn_2 (by decide) ?_
  refine wf_istore_n dc_LR_signsIn_3 (by decide) ?_
  exact Wf.to (by exact ⟨rfl, rfl, rfl, trivial⟩) (loop 4 0 0 rfl (Nat.zero_add _))
theorem c_LR_addToPad {a b s n : Nat} {v : Int32} {w : List Int32} (ha : t a = some (.inl 0)) (hr : r a 0 = some b) (hB : rw_at t r b s n) (hw : rw_is i b s w) (hl : w.length + (ws_of v).length ≤ n) : Ct l E n0 mt_LR_addToPad (d + 1) 0 0 [.ref a, .int v] nx t r i g (qV nx t r g (fun i' => rw_is i' b s (w ++ ws_of v) ∧ fr_is [b, s] i i')) := by
  refine Ct.of (by decide) (Nat.le_of_ble_eq_true rfl) ?_
  have tB := hB.1
  have loop : ∀ (m k : Nat) (i1 : Wi) (u : List Int32), k + m = 4 → u ++ ws_go v m k = w ++ ws_of v → rw_is i1 b s u → fr_is [b, s] i i1 → Wf l E n0 mt_LR_addToPad (d + 1) 0 0 (qV nx t r g (fun i' => rw_is i' b s (w ++ ws_of v) ∧ fr_is [b, s] i i')) 0 0 2 [(0, .ref a), (1, .int v), (2, .int (nI (8 * k)))] [] nx t r i1 g := by
    intro m
    induction m with
    | zero =>
      intro k i1 u hk hu hI hf
      refine wf_iload_n dc_LR_addToPad_2 rfl ?_
      refine wf_bipush 32 dc_LR_addToPad_3 (by decide) ?_
      refine wf_icmp_ge 34 dc_LR_addToPad_5 (by decide) (fun hc => ?_) (fun hc => absurd ((nI_leI (a := 32) (by omega) (by omega)).mpr (by omega)) hc)
      refine wf_return rfl dc_LR_addToPad_34 ⟨rfl, rfl, rfl, rfl, rfl, ?_, hf⟩
      rw [← hu]
      rwa [show u ++ ws_go v 0 k = u from List.append_nil u]
    | succ m ih =>
      intro k i1 u hk hu hI hf
      have hlen : u.length + (ws_go v (m + 1) k).length = w.length + (ws_of v).length := by
        rw [← List.length_append, hu, List.length_append]
      unfold ws_go at hu hlen
      refine wf_iload_n dc_LR_addToPad_2 rfl ?_
      refine wf_bipush 32 dc_LR_addToPad_3 (by decide) ?_
      refine wf_icmp_ge 34 dc_LR_addToPad_5 (by decide) (fun hc => absurd ((nI_leI (a := 32) (by omega) (by omega)).mp hc) (by omega)) (fun hc => ?_)
      refine wf_iload_n dc_LR_addToPad_8 rfl ?_
      refine wf_iload_n dc_LR_addToPad_9 rfl ?_
      refine wf_iushr dc_LR_addToPad_10 ?_
      refine wf_sipush 255 dc_LR_addToPad_11 (by decide) ?_
      refine wf_iand dc_LR_addToPad_14 ?_
      refine wf_istore_n dc_LR_addToPad_15 (by decide) ?_
      refine wf_iload_n dc_LR_addToPad_16 rfl ?_
      refine wf_if_eq 28 dc_LR_addToPad_17 (by decide) (fun h0 => ?_) (fun h0 => ?_)
      · rw [if_pos (show sb_of v k = 0 from h0)] at hu
        refine wf_iinc _ dc_LR_addToPad_28 rfl (nI_add (8 * k) 8) (by decide) ?_
        refine wf_goto 2 dc_LR_addToPad_31 (by decide) ?_
        exact Wf.to (by exact ⟨rfl, rfl, rfl, trivial⟩) (ih (k + 1) i1 u (by omega) hu hI hf)
      · rw [if_neg (show ¬ sb_of v k = 0 from h0)] at hu hlen
        rw [List.length_cons] at hlen
        refine wf_aload_n dc_LR_addToPad_20 rfl ?_
        refine wf_getr dc_LR_addToPad_21 fl_LR_14 rfl (by assumption) (by assumption) ?_
        refine wf_iload_n dc_LR_addToPad_24 rfl ?_
        refine wf_iv1 (M' := mt_Row_add) (c := 5) dc_LR_addToPad_25 tg_Row_add ml_LR_234 im_Row_add se_Row_add ⟨_, rfl, rfl⟩ (by assumption) (Nat.le_of_ble_eq_true rfl) (Nat.le_refl _) (Nat.le_refl _) (c_Row_add hB hI (by omega)) qV_nt (qV_go (fun i2 hp => ?_))
        obtain ⟨hI2, hf2⟩ := hp
        rw [if_pos (by omega)] at hI2
        refine wf_iinc _ dc_LR_addToPad_28 rfl (nI_add (8 * k) 8) (by decide) ?_
        refine wf_goto 2 dc_LR_addToPad_31 (by decide) ?_
        refine Wf.to (by exact ⟨rfl, rfl, rfl, trivial⟩) (ih (k + 1) _ (u ++ [sb_of v k]) (by omega) ?_ hI2 (fr_ss hf hf2))
        rw [List.append_assoc]
        exact hu
  refine wf_iconst 0 dc_LR_addToPad_0 (by decide) ?_
  refine wf_istore_n dc_LR_addToPad_1 (by decide) ?_
  exact Wf.to (by exact ⟨rfl, rfl, rfl, trivial⟩) (loop 4 0 i w rfl rfl hw fr_rf)
theorem tw_in {x : Int32} {n : Nat} (hn : n < 2 ^ 31) : (x.toInt < 0 ∨ (n : Int) < x.toInt) ∨ ∃ j, j ≤ n ∧ x = nI j := by
  by_cases h : x.toInt < 0 ∨ (n : Int) < x.toInt
  · exact .inl h
  · right
    obtain ⟨j, h1, h2⟩ := nI_of (x := x) (fun z => h (.inl (Int32.lt_iff_toInt_lt.mp z)))
    refine ⟨j, ?_, h2⟩
    rw [h2, nI_toInt h1] at h
    omega
theorem c_LR_isPattern {p a b : Int32} : Ct l E n0 mt_LR_isPattern (d + 1) 0 0 [.int p, .int a, .int b] nx t r i g (qI nx t r g (fun z i' => z = wt_b (pt_ok p a b) ∧ i' = i)) := by
  refine Ct.of (by decide) (Nat.le_of_ble_eq_true rfl) ?_
  refine wf_iload_n dc_LR_isPattern_0 rfl ?_
  rcases tw_in (x := p) (n := 6) (by omega) with h | ⟨j, hj, rfl⟩
  · refine wf_tableOut 76 dc_LR_isPattern_1 h (by decide) ?_
    refine wf_iconst 0 dc_LR_isPattern_76 (by decide) ?_
    refine wf_zreturn rfl rfl dc_LR_isPattern_77 ⟨0, rfl, rfl, rfl, rfl, rfl, ?_, rfl⟩
    have ne : ∀ j : Nat, j ≤ 6 → ¬ p = nI j := fun j hj z => by rw [z, nI_toInt (by omega)] at h; omega
    have n0 : ¬ p = 0 := ne 0 (by omega)
    have n1 : ¬ p = 1 := ne 1 (by omega)
    have n2 : ¬ p = 2 := ne 2 (by omega)
    have n3 : ¬ p = 3 := ne 3 (by omega)
    have n4 : ¬ p = 4 := ne 4 (by omega)
    have n5 : ¬ p = 5 := ne 5 (by omega)
    have n6 : ¬ p = 6 := ne 6 (by omega)
    rw [pt_ok, if_neg (fun z => z.elim n0 (fun z => z.elim n5 n6)), if_neg n1, if_neg n2, if_neg (fun z => z.elim n3 n4)]
    rfl
  · have hc : j = 0 ∨ j = 5 ∨ j = 6 ∨ j = 1 ∨ j = 2 ∨ j = 3 ∨ j = 4 := by omega
    rcases hc with z | z | z | z | z | z | z <;> subst z
    · refine wf_tableIn (off := 43) 44 dc_LR_isPattern_1 (by decide) (by decide) rfl (by decide) ?_
      refine wf_iconst 1 dc_LR_isPattern_44 (by decide) ?_
      exact wf_zreturn rfl rfl dc_LR_isPattern_45 ⟨1, rfl, rfl, rfl, rfl, rfl, rfl, rfl⟩
    · refine wf_tableIn (off := 43) 44 dc_LR_isPattern_1 (by decide) (by decide) rfl (by decide) ?_
      refine wf_iconst 1 dc_LR_isPattern_44 (by decide) ?_
      exact wf_zreturn rfl rfl dc_LR_isPattern_45 ⟨1, rfl, rfl, rfl, rfl, rfl, rfl, rfl⟩
    · refine wf_tableIn (off := 43) 44 dc_LR_isPattern_1 (by decide) (by decide) rfl (by decide) ?_
      refine wf_iconst 1 dc_LR_isPattern_44 (by decide) ?_
      exact wf_zreturn rfl rfl dc_LR_isPattern_45 ⟨1, rfl, rfl, rfl, rfl, rfl, rfl, rfl⟩
    · refine wf_tableIn (off := 45) 46 dc_LR_isPattern_1 (by decide) (by decide) rfl (by decide) ?_
      refine wf_iload_n dc_LR_isPattern_46 rfl ?_
      refine wf_is1 (M' := mt_LR_isExpression) dc_LR_isPattern_47 tg_LR_isExpression ml_LR_98 sm_LR_isExpression (Nat.le_of_ble_eq_true rfl) (Nat.le_refl _) (Nat.le_refl _) (c_LR_isExpression) qI_nt (qI_go (fun x2 i2 hp => ?_))
      obtain ⟨rfl, rfl⟩ := hp
      exact wf_zreturn rfl (wt_bn2 _) dc_LR_isPattern_50 ⟨_, rfl, rfl, rfl, rfl, rfl, rfl, rfl⟩
    · refine wf_tableIn (off := 50) 51 dc_LR_isPattern_1 (by decide) (by decide) rfl (by decide) ?_
      refine wf_iload_n dc_LR_isPattern_51 rfl ?_
      refine wf_is1 (M' := mt_LR_isExpression) dc_LR_isPattern_52 tg_LR_isExpression ml_LR_98 sm_LR_isExpression (Nat.le_of_ble_eq_true rfl) (Nat.le_refl _) (Nat.le_refl _) (c_LR_isExpression) qI_nt (qI_go (fun x2 i2 hp => ?_))
      obtain ⟨rfl, rfl⟩ := hp
      have e : pt_ok (nI 2) a b = (bw a 0 5 && bw b 1 30) := rfl
      rw [e]
      cases bw a 0 5 with
      | false =>
        refine wf_if_eq 69 dc_LR_isPattern_55 (by decide) (fun _ => ?_) (fun hc => absurd rfl hc)
        refine wf_iconst 0 dc_LR_isPattern_69 (by decide) ?_
        exact wf_zreturn rfl rfl dc_LR_isPattern_70 ⟨0, rfl, rfl, rfl, rfl, rfl, rfl, rfl⟩
      | true =>
        refine wf_if_eq 69 dc_LR_isPattern_55 (by decide) (fun hc => absurd hc (by decide)) (fun _ => ?_)
        refine wf_iload_n dc_LR_isPattern_58 rfl ?_
        refine wf_is1 (M' := mt_LR_isField) dc_LR_isPattern_59 tg_LR_isField ml_LR_236 sm_LR_isField (Nat.le_of_ble_eq_true rfl) (Nat.le_refl _) (Nat.le_refl _) (c_LR_isField) qI_nt (qI_go (fun x2 i2 hp => ?_))
        obtain ⟨rfl, rfl⟩ := hp
        cases bw b 1 30 with
        | false =>
          refine wf_if_eq 69 dc_LR_isPattern_62 (by decide) (fun _ => ?_) (fun hc => absurd rfl hc)
          refine wf_iconst 0 dc_LR_isPattern_69 (by decide) ?_
          exact wf_zreturn rfl rfl dc_LR_isPattern_70 ⟨0, rfl, rfl, rfl, rfl, rfl, rfl, rfl⟩
        | true =>
          refine wf_if_eq 69 dc_LR_isPattern_62 (by decide) (fun hc => absurd hc (by decide)) (fun _ => ?_)
          refine wf_iconst 1 dc_LR_isPattern_65 (by decide) ?_
          refine wf_goto 70 dc_LR_isPattern_66 (by decide) ?_
          exact wf_zreturn rfl rfl dc_LR_isPattern_70 ⟨1, rfl, rfl, rfl, rfl, rfl, rfl, rfl⟩
    · refine wf_tableIn (off := 70) 71 dc_LR_isPattern_1 (by decide) (by decide) rfl (by decide) ?_
      refine wf_iload_n dc_LR_isPattern_71 rfl ?_
      refine wf_is1 (M' := mt_LR_isField) dc_LR_isPattern_72 tg_LR_isField ml_LR_236 sm_LR_isField (Nat.le_of_ble_eq_true rfl) (Nat.le_refl _) (Nat.le_refl _) (c_LR_isField) qI_nt (qI_go (fun x2 i2 hp => ?_))
      obtain ⟨rfl, rfl⟩ := hp
      exact wf_zreturn rfl (wt_bn2 _) dc_LR_isPattern_75 ⟨_, rfl, rfl, rfl, rfl, rfl, rfl, rfl⟩
    · refine wf_tableIn (off := 70) 71 dc_LR_isPattern_1 (by decide) (by decide) rfl (by decide) ?_
      refine wf_iload_n dc_LR_isPattern_71 rfl ?_
      refine wf_is1 (M' := mt_LR_isField) dc_LR_isPattern_72 tg_LR_isField ml_LR_236 sm_LR_isField (Nat.le_of_ble_eq_true rfl) (Nat.le_refl _) (Nat.le_refl _) (c_LR_isField) qI_nt (qI_go (fun x2 i2 hp => ?_))
      obtain ⟨rfl, rfl⟩ := hp
      exact wf_zreturn rfl (wt_bn2 _) dc_LR_isPattern_75 ⟨_, rfl, rfl, rfl, rfl, rfl, rfl, rfl⟩
theorem c_LR_isAction {p a b : Int32} : Ct l E n0 mt_LR_isAction (d + 1) 0 0 [.int p, .int a, .int b] nx t r i g (qI nx t r g (fun z i' => z = wt_b (ac_ok p a b) ∧ i' = i)) := by
  refine Ct.of (by decide) (Nat.le_of_ble_eq_true rfl) ?_
  refine wf_iload_n dc_LR_isAction_0 rfl ?_
  rcases tw_in (x := p) (n := 12) (by omega) with h | ⟨j, hj, rfl⟩
  · refine wf_tableOut 145 dc_LR_isAction_1 h (by decide) ?_
    refine wf_iconst 0 dc_LR_isAction_145 (by decide) ?_
    refine wf_zreturn rfl rfl dc_LR_isAction_146 ⟨0, rfl, rfl, rfl, rfl, rfl, ?_, rfl⟩
    have ne : ∀ j : Nat, j ≤ 12 → ¬ p = nI j := fun j hj z => by rw [z, nI_toInt (by omega)] at h; omega
    have n0 : ¬ p = 0 := ne 0 (by omega)
    have n1 : ¬ p = 1 := ne 1 (by omega)
    have n2 : ¬ p = 2 := ne 2 (by omega)
    have n3 : ¬ p = 3 := ne 3 (by omega)
    have n4 : ¬ p = 4 := ne 4 (by omega)
    have n5 : ¬ p = 5 := ne 5 (by omega)
    have n6 : ¬ p = 6 := ne 6 (by omega)
    have n7 : ¬ p = 7 := ne 7 (by omega)
    have n8 : ¬ p = 8 := ne 8 (by omega)
    have n9 : ¬ p = 9 := ne 9 (by omega)
    have n10 : ¬ p = 10 := ne 10 (by omega)
    have n11 : ¬ p = 11 := ne 11 (by omega)
    have n12 : ¬ p = 12 := ne 12 (by omega)
    rw [ac_ok, if_neg (fun z => z.elim n0 n10), if_neg (fun z => z.elim n1 n3), if_neg (fun z => z.elim n2 n5), if_neg n4, if_neg (fun z => z.elim n6 n7), if_neg n8, if_neg (fun z => z.elim n9 (fun z => z.elim n11 n12))]
    rfl
  · have hc : j = 0 ∨ j = 1 ∨ j = 2 ∨ j = 3 ∨ j = 4 ∨ j = 5 ∨ j = 6 ∨ j = 7 ∨ j = 8 ∨ j = 9 ∨ j = 10 ∨ j = 11 ∨ j = 12 := by omega
    rcases hc with z | z | z | z | z | z | z | z | z | z | z | z | z <;> subst z
    · refine wf_tableIn (off := 67) 68 dc_LR_isAction_1 (by decide) (by decide) rfl (by decide) ?_
      refine wf_iconst 1 dc_LR_isAction_68 (by decide) ?_
      exact wf_zreturn rfl rfl dc_LR_isAction_69 ⟨1, rfl, rfl, rfl, rfl, rfl, rfl, rfl⟩
    · refine wf_tableIn (off := 69) 70 dc_LR_isAction_1 (by decide) (by decide) rfl (by decide) ?_
      refine wf_iload_n dc_LR_isAction_70 rfl ?_
      refine wf_is1 (M' := mt_LR_isField) dc_LR_isAction_71 tg_LR_isField ml_LR_236 sm_LR_isField (Nat.le_of_ble_eq_true rfl) (Nat.le_refl _) (Nat.le_refl _) (c_LR_isField) qI_nt (qI_go (fun x2 i2 hp => ?_))
      obtain ⟨rfl, rfl⟩ := hp
      exact wf_zreturn rfl (wt_bn2 _) dc_LR_isAction_74 ⟨_, rfl, rfl, rfl, rfl, rfl, rfl, rfl⟩
    · refine wf_tableIn (off := 74) 75 dc_LR_isAction_1 (by decide) (by decide) rfl (by decide) ?_
      refine wf_iload_n dc_LR_isAction_75 rfl ?_
      refine wf_is1 (M' := mt_LR_isField) dc_LR_isAction_76 tg_LR_isField ml_LR_236 sm_LR_isField (Nat.le_of_ble_eq_true rfl) (Nat.le_refl _) (Nat.le_refl _) (c_LR_isField) qI_nt (qI_go (fun x2 i2 hp => ?_))
      obtain ⟨rfl, rfl⟩ := hp
      rw [show ac_ok _ a b = (bw a 1 30 && bw b 0 7) from rfl]
      cases bw a 1 30 with
      | false =>
        refine wf_if_eq 93 dc_LR_isAction_79 (by decide) (fun _ => ?_) (fun hc => absurd rfl hc)
        refine wf_iconst 0 dc_LR_isAction_93 (by decide) ?_
        exact wf_zreturn rfl rfl dc_LR_isAction_94 ⟨0, rfl, rfl, rfl, rfl, rfl, rfl, rfl⟩
      | true =>
        refine wf_if_eq 93 dc_LR_isAction_79 (by decide) (fun hc => absurd hc (by decide)) (fun _ => ?_)
        refine wf_iload_n dc_LR_isAction_82 rfl ?_
        refine wf_is1 (M' := mt_LR_isCounter) dc_LR_isAction_83 tg_LR_isCounter ml_LR_213 sm_LR_isCounter (Nat.le_of_ble_eq_true rfl) (Nat.le_refl _) (Nat.le_refl _) (c_LR_isCounter) qI_nt (qI_go (fun x2 i2 hp => ?_))
        obtain ⟨rfl, rfl⟩ := hp
        cases bw b 0 7 with
        | false =>
          refine wf_if_eq 93 dc_LR_isAction_86 (by decide) (fun _ => ?_) (fun hc => absurd rfl hc)
          refine wf_iconst 0 dc_LR_isAction_93 (by decide) ?_
          exact wf_zreturn rfl rfl dc_LR_isAction_94 ⟨0, rfl, rfl, rfl, rfl, rfl, rfl, rfl⟩
        | true =>
          refine wf_if_eq 93 dc_LR_isAction_86 (by decide) (fun hc => absurd hc (by decide)) (fun _ => ?_)
          refine wf_iconst 1 dc_LR_isAction_89 (by decide) ?_
          refine wf_goto 94 dc_LR_isAction_90 (by decide) ?_
          exact wf_zreturn rfl rfl dc_LR_isAction_94 ⟨1, rfl, rfl, rfl, rfl, rfl, rfl, rfl⟩
    · refine wf_tableIn (off := 69) 70 dc_LR_isAction_1 (by decide) (by decide) rfl (by decide) ?_
      refine wf_iload_n dc_LR_isAction_70 rfl ?_
      refine wf_is1 (M' := mt_LR_isField) dc_LR_isAction_71 tg_LR_isField ml_LR_236 sm_LR_isField (Nat.le_of_ble_eq_true rfl) (Nat.le_refl _) (Nat.le_refl _) (c_LR_isField) qI_nt (qI_go (fun x2 i2 hp => ?_))
      obtain ⟨rfl, rfl⟩ := hp
      exact wf_zreturn rfl (wt_bn2 _) dc_LR_isAction_74 ⟨_, rfl, rfl, rfl, rfl, rfl, rfl, rfl⟩
    · refine wf_tableIn (off := 94) 95 dc_LR_isAction_1 (by decide) (by decide) rfl (by decide) ?_
      refine wf_iload_n dc_LR_isAction_95 rfl ?_
      refine wf_is1 (M' := mt_LR_isField) dc_LR_isAction_96 tg_LR_isField ml_LR_236 sm_LR_isField (Nat.le_of_ble_eq_true rfl) (Nat.le_refl _) (Nat.le_refl _) (c_LR_isField) qI_nt (qI_go (fun x2 i2 hp => ?_))
      obtain ⟨rfl, rfl⟩ := hp
      rw [show ac_ok _ a b = (bw a 1 30 && bw b 1 30) from rfl]
      cases bw a 1 30 with
      | false =>
        refine wf_if_eq 113 dc_LR_isAction_99 (by decide) (fun _ => ?_) (fun hc => absurd rfl hc)
        refine wf_iconst 0 dc_LR_isAction_113 (by decide) ?_
        exact wf_zreturn rfl rfl dc_LR_isAction_114 ⟨0, rfl, rfl, rfl, rfl, rfl, rfl, rfl⟩
      | true =>
        refine wf_if_eq 113 dc_LR_isAction_99 (by decide) (fun hc => absurd hc (by decide)) (fun _ => ?_)
        refine wf_iload_n dc_LR_isAction_102 rfl ?_
        refine wf_is1 (M' := mt_LR_isField) dc_LR_isAction_103 tg_LR_isField ml_LR_236 sm_LR_isField (Nat.le_of_ble_eq_true rfl) (Nat.le_refl _) (Nat.le_refl _) (c_LR_isField) qI_nt (qI_go (fun x2 i2 hp => ?_))
        obtain ⟨rfl, rfl⟩ := hp
        cases bw b 1 30 with
        | false =>
          refine wf_if_eq 113 dc_LR_isAction_106 (by decide) (fun _ => ?_) (fun hc => absurd rfl hc)
          refine wf_iconst 0 dc_LR_isAction_113 (by decide) ?_
          exact wf_zreturn rfl rfl dc_LR_isAction_114 ⟨0, rfl, rfl, rfl, rfl, rfl, rfl, rfl⟩
        | true =>
          refine wf_if_eq 113 dc_LR_isAction_106 (by decide) (fun hc => absurd hc (by decide)) (fun _ => ?_)
          refine wf_iconst 1 dc_LR_isAction_109 (by decide) ?_
          refine wf_goto 114 dc_LR_isAction_110 (by decide) ?_
          exact wf_zreturn rfl rfl dc_LR_isAction_114 ⟨1, rfl, rfl, rfl, rfl, rfl, rfl, rfl⟩
    · refine wf_tableIn (off := 74) 75 dc_LR_isAction_1 (by decide) (by decide) rfl (by decide) ?_
      refine wf_iload_n dc_LR_isAction_75 rfl ?_
      refine wf_is1 (M' := mt_LR_isField) dc_LR_isAction_76 tg_LR_isField ml_LR_236 sm_LR_isField (Nat.le_of_ble_eq_true rfl) (Nat.le_refl _) (Nat.le_refl _) (c_LR_isField) qI_nt (qI_go (fun x2 i2 hp => ?_))
      obtain ⟨rfl, rfl⟩ := hp
      rw [show ac_ok _ a b = (bw a 1 30 && bw b 0 7) from rfl]
      cases bw a 1 30 with
      | false =>
        refine wf_if_eq 93 dc_LR_isAction_79 (by decide) (fun _ => ?_) (fun hc => absurd rfl hc)
        refine wf_iconst 0 dc_LR_isAction_93 (by decide) ?_
        exact wf_zreturn rfl rfl dc_LR_isAction_94 ⟨0, rfl, rfl, rfl, rfl, rfl, rfl, rfl⟩
      | true =>
        refine wf_if_eq 93 dc_LR_isAction_79 (by decide) (fun hc => absurd hc (by decide)) (fun _ => ?_)
        refine wf_iload_n dc_LR_isAction_82 rfl ?_
        refine wf_is1 (M' := mt_LR_isCounter) dc_LR_isAction_83 tg_LR_isCounter ml_LR_213 sm_LR_isCounter (Nat.le_of_ble_eq_true rfl) (Nat.le_refl _) (Nat.le_refl _) (c_LR_isCounter) qI_nt (qI_go (fun x2 i2 hp => ?_))
        obtain ⟨rfl, rfl⟩ := hp
        cases bw b 0 7 with
        | false =>
          refine wf_if_eq 93 dc_LR_isAction_86 (by decide) (fun _ => ?_) (fun hc => absurd rfl hc)
          refine wf_iconst 0 dc_LR_isAction_93 (by decide) ?_
          exact wf_zreturn rfl rfl dc_LR_isAction_94 ⟨0, rfl, rfl, rfl, rfl, rfl, rfl, rfl⟩
        | true =>
          refine wf_if_eq 93 dc_LR_isAction_86 (by decide) (fun hc => absurd hc (by decide)) (fun _ => ?_)
          refine wf_iconst 1 dc_LR_isAction_89 (by decide) ?_
          refine wf_goto 94 dc_LR_isAction_90 (by decide) ?_
          exact wf_zreturn rfl rfl dc_LR_isAction_94 ⟨1, rfl, rfl, rfl, rfl, rfl, rfl, rfl⟩
    · refine wf_tableIn (off := 114) 115 dc_LR_isAction_1 (by decide) (by decide) rfl (by decide) ?_
      refine wf_iload_n dc_LR_isAction_115 rfl ?_
      refine wf_is1 (M' := mt_LR_isExpression) dc_LR_isAction_116 tg_LR_isExpression ml_LR_98 sm_LR_isExpression (Nat.le_of_ble_eq_true rfl) (Nat.le_refl _) (Nat.le_refl _) (c_LR_isExpression) qI_nt (qI_go (fun x2 i2 hp => ?_))
      obtain ⟨rfl, rfl⟩ := hp
      rw [show ac_ok _ a b = (bw a 0 5 && bw b 0 5) from rfl]
      cases bw a 0 5 with
      | false =>
        refine wf_if_eq 133 dc_LR_isAction_119 (by decide) (fun _ => ?_) (fun hc => absurd rfl hc)
        refine wf_iconst 0 dc_LR_isAction_133 (by decide) ?_
        exact wf_zreturn rfl rfl dc_LR_isAction_134 ⟨0, rfl, rfl, rfl, rfl, rfl, rfl, rfl⟩
      | true =>
        refine wf_if_eq 133 dc_LR_isAction_119 (by decide) (fun hc => absurd hc (by decide)) (fun _ => ?_)
        refine wf_iload_n dc_LR_isAction_122 rfl ?_
        refine wf_is1 (M' := mt_LR_isText) dc_LR_isAction_123 tg_LR_isText ml_LR_117 sm_LR_isText (Nat.le_of_ble_eq_true rfl) (Nat.le_refl _) (Nat.le_refl _) (c_LR_isText) qI_nt (qI_go (fun x2 i2 hp => ?_))
        obtain ⟨rfl, rfl⟩ := hp
        cases bw b 0 5 with
        | false =>
          refine wf_if_eq 133 dc_LR_isAction_126 (by decide) (fun _ => ?_) (fun hc => absurd rfl hc)
          refine wf_iconst 0 dc_LR_isAction_133 (by decide) ?_
          exact wf_zreturn rfl rfl dc_LR_isAction_134 ⟨0, rfl, rfl, rfl, rfl, rfl, rfl, rfl⟩
        | true =>
          refine wf_if_eq 133 dc_LR_isAction_126 (by decide) (fun hc => absurd hc (by decide)) (fun _ => ?_)
          refine wf_iconst 1 dc_LR_isAction_129 (by decide) ?_
          refine wf_goto 134 dc_LR_isAction_130 (by decide) ?_
          exact wf_zreturn rfl rfl dc_LR_isAction_134 ⟨1, rfl, rfl, rfl, rfl, rfl, rfl, rfl⟩
    · refine wf_tableIn (off := 114) 115 dc_LR_isAction_1 (by decide) (by decide) rfl (by decide) ?_
      refine wf_iload_n dc_LR_isAction_115 rfl ?_
      refine wf_is1 (M' := mt_LR_isExpression) dc_LR_isAction_116 tg_LR_isExpression ml_LR_98 sm_LR_isExpression (Nat.le_of_ble_eq_true rfl) (Nat.le_refl _) (Nat.le_refl _) (c_LR_isExpression) qI_nt (qI_go (fun x2 i2 hp => ?_))
      obtain ⟨rfl, rfl⟩ := hp
      rw [show ac_ok _ a b = (bw a 0 5 && bw b 0 5) from rfl]
      cases bw a 0 5 with
      | false =>
        refine wf_if_eq 133 dc_LR_isAction_119 (by decide) (fun _ => ?_) (fun hc => absurd rfl hc)
        refine wf_iconst 0 dc_LR_isAction_133 (by decide) ?_
        exact wf_zreturn rfl rfl dc_LR_isAction_134 ⟨0, rfl, rfl, rfl, rfl, rfl, rfl, rfl⟩
      | true =>
        refine wf_if_eq 133 dc_LR_isAction_119 (by decide) (fun hc => absurd hc (by decide)) (fun _ => ?_)
        refine wf_iload_n dc_LR_isAction_122 rfl ?_
        refine wf_is1 (M' := mt_LR_isText) dc_LR_isAction_123 tg_LR_isText ml_LR_117 sm_LR_isText (Nat.le_of_ble_eq_true rfl) (Nat.le_refl _) (Nat.le_refl _) (c_LR_isText) qI_nt (qI_go (fun x2 i2 hp => ?_))
        obtain ⟨rfl, rfl⟩ := hp
        cases bw b 0 5 with
        | false =>
          refine wf_if_eq 133 dc_LR_isAction_126 (by decide) (fun _ => ?_) (fun hc => absurd rfl hc)
          refine wf_iconst 0 dc_LR_isAction_133 (by decide) ?_
          exact wf_zreturn rfl rfl dc_LR_isAction_134 ⟨0, rfl, rfl, rfl, rfl, rfl, rfl, rfl⟩
        | true =>
          refine wf_if_eq 133 dc_LR_isAction_126 (by decide) (fun hc => absurd hc (by decide)) (fun _ => ?_)
          refine wf_iconst 1 dc_LR_isAction_129 (by decide) ?_
          refine wf_goto 134 dc_LR_isAction_130 (by decide) ?_
          exact wf_zreturn rfl rfl dc_LR_isAction_134 ⟨1, rfl, rfl, rfl, rfl, rfl, rfl, rfl⟩
    · refine wf_tableIn (off := 134) 135 dc_LR_isAction_1 (by decide) (by decide) rfl (by decide) ?_
      refine wf_iload_n dc_LR_isAction_135 rfl ?_
      refine wf_is1 (M' := mt_LR_isExpression) dc_LR_isAction_136 tg_LR_isExpression ml_LR_98 sm_LR_isExpression (Nat.le_of_ble_eq_true rfl) (Nat.le_refl _) (Nat.le_refl _) (c_LR_isExpression) qI_nt (qI_go (fun x2 i2 hp => ?_))
      obtain ⟨rfl, rfl⟩ := hp
      exact wf_zreturn rfl (wt_bn2 _) dc_LR_isAction_139 ⟨_, rfl, rfl, rfl, rfl, rfl, rfl, rfl⟩
    · refine wf_tableIn (off := 139) 140 dc_LR_isAction_1 (by decide) (by decide) rfl (by decide) ?_
      refine wf_iload_n dc_LR_isAction_140 rfl ?_
      refine wf_is1 (M' := mt_LR_isCounter) dc_LR_isAction_141 tg_LR_isCounter ml_LR_213 sm_LR_isCounter (Nat.le_of_ble_eq_true rfl) (Nat.le_refl _) (Nat.le_refl _) (c_LR_isCounter) qI_nt (qI_go (fun x2 i2 hp => ?_))
      obtain ⟨rfl, rfl⟩ := hp
      exact wf_zreturn rfl (wt_bn2 _) dc_LR_isAction_144 ⟨_, rfl, rfl, rfl, rfl, rfl, rfl, rfl⟩
    · refine wf_tableIn (off := 67) 68 dc_LR_isAction_1 (by decide) (by decide) rfl (by decide) ?_
      refine wf_iconst 1 dc_LR_isAction_68 (by decide) ?_
      exact wf_zreturn rfl rfl dc_LR_isAction_69 ⟨1, rfl, rfl, rfl, rfl, rfl, rfl, rfl⟩
    · refine wf_tableIn (off := 139) 140 dc_LR_isAction_1 (by decide) (by decide) rfl (by decide) ?_
      refine wf_iload_n dc_LR_isAction_140 rfl ?_
      refine wf_is1 (M' := mt_LR_isCounter) dc_LR_isAction_141 tg_LR_isCounter ml_LR_213 sm_LR_isCounter (Nat.le_of_ble_eq_true rfl) (Nat.le_refl _) (Nat.le_refl _) (c_LR_isCounter) qI_nt (qI_go (fun x2 i2 hp => ?_))
      obtain ⟨rfl, rfl⟩ := hp
      exact wf_zreturn rfl (wt_bn2 _) dc_LR_isAction_144 ⟨_, rfl, rfl, rfl, rfl, rfl, rfl, rfl⟩
    · refine wf_tableIn (off := 139) 140 dc_LR_isAction_1 (by decide) (by decide) rfl (by decide) ?_
      refine wf_iload_n dc_LR_isAction_140 rfl ?_
      refine wf_is1 (M' := mt_LR_isCounter) dc_LR_isAction_141 tg_LR_isCounter ml_LR_213 sm_LR_isCounter (Nat.le_of_ble_eq_true rfl) (Nat.le_refl _) (Nat.le_refl _) (c_LR_isCounter) qI_nt (qI_go (fun x2 i2 hp => ?_))
      obtain ⟨rfl, rfl⟩ := hp
      exact wf_zreturn rfl (wt_bn2 _) dc_LR_isAction_144 ⟨_, rfl, rfl, rfl, rfl, rfl, rfl, rfl⟩
end
