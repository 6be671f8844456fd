/-! class LineRules: the calls that look, and action, find -/
/-- a call that looks: an answer, or an exception -/
def an_q (X : String) (nx : Nat) (t : Wt) (r : Wr) (i : Wi) (g : Wl) (o : Option Int32) : Wq := match o with
  | some v => qI nx t r g (fun z i' => z = v ∧ i' = i)
  | none => qX X nx t r i g
def an_row (w : List Int32) (j : Int32) : Option Int32 := if j = -1 then some (nI w.length) else if bw j 0 ((w.length : Int) - 1) = true then some (w.getD j.toNatClampNeg 0) else none
def an_sign (W : List Int32) (F : List (List Int32)) (f j : Int32) : Option Int32 := if f = 0 then an_row W j else if bw f 1 F.length = true then an_row (F.getD (f.toNatClampNeg - 1) []) j else none
def an_printed (out : List Int32) (j : Int32) : Option Int32 := if bw j 0 ((out.length : Int) - 1) = true ∧ (out.length : Int) - 1500 ≤ j.toInt then some (out.getD j.toNatClampNeg 0) else none
def an_counter (co : Nat → Int32) (k : Int32) : Option Int32 := if bw k 0 7 = true then some (co k.toNatClampNeg) else none
def an_key (K : KtS) (k j : Int32) : Option Int32 := if bw k 0 ((K.length : Int) - 1) = true then (if j = -2 then some (kt_at K k.toNatClampNeg).2 else an_row (kt_at K k.toNatClampNeg).1 j) else none
def an_count (n0 n1 n2 n3 n4 n5 : Nat) (x : Int32) : Option Int32 := if x = 0 then some (nI n0) else if x = 1 then some (nI n1) else if x = 2 then some (nI n2) else if x = 3 then some (nI n3) else if x = 4 then some (nI n4) else if x = 5 then some (nI n5) else none
/-- where a search ends -/
noncomputable def fn_of (X : Rel) (w : List Int32) (q : Nat) : Option Nat := match fd_of X w q with
  | none => none
  | some s => en_of X w s
section
variable {l : Launch} {E : We} {n0 d nx : Nat} {t : Wt} {r : Wr} {i i' : Wi} {g : Wl} {b : Nat} {pm : Nat → Nat}
theorem bw_row {j : Int32} {n : Nat} (hn : n < 2 ^ 31) : (¬ j < 0 ∧ j < nI n) ↔ bw j 0 ((n : Int) - 1) = true := by
  rw [bw_t, Int32.lt_iff_toInt_lt, Int32.lt_iff_toInt_lt, nI_toInt hn]
  have : (0 : Int32).toInt = 0 := rfl
  omega
theorem bw_k {j : Int32} {n : Nat} (hn : n < 2 ^ 31) (h : bw j 0 ((n : Int) - 1) = true) : ∃ k, k < n ∧ j = nI k := by
  obtain ⟨h1, h2⟩ := (bw_row hn).mpr h
  obtain ⟨k, h3, rfl⟩ := nI_of h1
  exact ⟨k, (nI_ltI h3 hn).mp h2, rfl⟩
theorem k_LR_counter {co : Nat → Int32} {x : Int32} (hl : l.stackTraces = false) (hA : lr_at t r b pm) (hN : lp_cnt i b co) : Ct l E n0 mt_LR_counter (d + 7) 1 6 [.ref (b + 0), .int x] nx t r i g (an_q xNE nx t r i g (an_counter co x)) := by
  have t0 := hA.1.1
  have r6 : r (b + 0) 6 = some (b + 89) := hA.2.1 (0, 6, 89) (by decide +kernel)
  have t89 := hA.1.2 89 (89, .inr (0, 8)) (by decide +kernel)
  unfold an_counter
  refine Ct.of (by decide) (Nat.le_of_ble_eq_true rfl) ?_
  refine wf_iload_n dc_LR_counter_0 rfl ?_
  refine wf_is1 (M' := mt_LR_isCounter) dc_LR_counter_1 tg_LR_isCounter ml_LR_213 sm_LR_isCounter (Nat.le_of_ble_eq_true rfl) (Nat.le_refl _) (Nat.le_refl _) (c_LR_isCounter) qI_nt (qI_go (fun x2 i2 hp => ?_))
  obtain ⟨rfl, hq⟩ := hp; subst i2
  cases hb : bw x 0 7 with
  | false =>
    refine wf_if_ne 17 dc_LR_counter_4 (by decide) (fun hc => absurd rfl hc) (fun hc => ?_)
    rw [if_neg (by decide)]
    exact wf_throw hl xw_LR_216 (by decide +kernel) dc_LR_counter_7 dc_LR_counter_10 dc_LR_counter_11 dc_LR_counter_13 dc_LR_counter_16 (by omega) (by omega) (by omega) ⟨rfl, rfl, rfl, rfl, rfl, rfl⟩
  | true =>
    refine wf_if_ne 17 dc_LR_counter_4 (by decide) (fun hc => ?_) (fun hc => absurd hc (by decide))
    rw [if_pos rfl]
    obtain ⟨k, -, hk, rfl⟩ := bw_n (lo := 0) (hi := 7) hb
    have hcl : (nI k).toNatClampNeg = k := nI_clamp (by omega)
    refine wf_aload_n dc_LR_counter_17 rfl ?_
    refine wf_getr dc_LR_counter_18 fl_LR_48 rfl (by assumption) (by assumption) ?_
    refine wf_iload_n dc_LR_counter_21 rfl ?_
    refine wf_iaload (y := 0) dc_LR_counter_22 rfl (by assumption) (vp_in_nI (by omega) (by omega)) ?_
    exact wf_ireturn rfl dc_LR_counter_23 ⟨_, rfl, rfl, rfl, rfl, rfl, by rw [hcl]; exact hN k (by omega), rfl⟩
theorem k_LR_printed {out : List Int32} {x : Int32} (hl : l.stackTraces = false) (hA : lr_at t r b pm) (hO : ou_is i (b + 93) (b + 94) out) (hlo : out.length < 2000000000) : Ct l E n0 mt_LR_printed (d + 7) 1 6 [.ref (b + 0), .int x] nx t r i g (an_q xNE nx t r i g (an_printed out x)) := by
  have t0 := hA.1.1
  have r8 : r (b + 0) 8 = some (b + 93) := hA.2.1 (0, 8, 93) (by decide +kernel)
  have hou := lr_out hA
  have tO := hou.1
  have hiff : (¬ x < 0 ∧ x < nI out.length ∧ nI out.length - 1500 ≤ x) ↔ (bw x 0 ((out.length : Int) - 1) = true ∧ (out.length : Int) - 1500 ≤ x.toInt) := by
    rw [← bw_row (by omega), and_assoc, Int32.le_iff_toInt_le]
    have e1 : (nI out.length - 1500).toInt = (out.length : Int) - 1500 := by
      rw [Int32.toInt_sub, nI_toInt (by omega), show (1500 : Int32).toInt = 1500 from rfl]
      exact Int.bmod_eq_of_le (by omega) (by omega)
    rw [e1]
  unfold an_printed
  refine Ct.of (by decide) (Nat.le_of_ble_eq_true rfl) ?_
  refine wf_aload_n dc_LR_printed_0 rfl ?_
  refine wf_getr dc_LR_printed_1 fl_LR_62 rfl (by assumption) (by assumption) ?_
  refine wf_iload_n dc_LR_printed_4 rfl ?_
  refine wf_iv1 (M' := mt_Out_has) (c := 3) dc_LR_printed_5 tg_Out_has ml_LR_207 im_Out_has se_Out_has ⟨_, rfl, rfl⟩ (by assumption) (Nat.le_of_ble_eq_true rfl) (Nat.le_refl _) (Nat.le_refl _) (c_Out_has hou hO) qI_nt (qI_go (fun x2 i2 hp => ?_))
  obtain ⟨rfl, hq⟩ := hp; subst i2
  by_cases hb : bw x 0 ((out.length : Int) - 1) = true ∧ (out.length : Int) - 1500 ≤ x.toInt
  · rw [if_pos (hiff.mpr hb), if_pos hb]
    refine wf_if_ne 21 dc_LR_printed_8 (by decide) (fun hc => ?_) (fun hc => absurd hc (by decide))
    obtain ⟨k, hk, rfl⟩ := bw_k (by omega) hb.1
    have h2 := hb.2
    rw [nI_toInt (by omega)] at h2
    have hcl : (nI k).toNatClampNeg = k := nI_clamp (by omega)
    rw [hcl]
    refine wf_aload_n dc_LR_printed_21 rfl ?_
    refine wf_getr dc_LR_printed_22 fl_LR_62 rfl (by assumption) (by assumption) ?_
    refine wf_iload_n dc_LR_printed_25 rfl ?_
    refine wf_iv1 (M' := mt_Out_signAt) (c := 3) dc_LR_printed_26 tg_Out_signAt ml_LR_210 im_Out_signAt se_Out_signAt ⟨_, rfl, rfl⟩ (by assumption) (Nat.le_of_ble_eq_true rfl) (Nat.le_refl _) (Nat.le_refl _) (c_Out_signAt hou hO hk (by omega) hlo) qI_nt (qI_go (fun x2 i2 hp => ?_))
    obtain ⟨rfl, hq⟩ := hp; subst i2
    exact wf_ireturn rfl dc_LR_printed_29 ⟨_, rfl, rfl, rfl, rfl, rfl, rfl, rfl⟩
  · rw [if_neg (fun z => hb (hiff.mp z)), if_neg hb]
    refine wf_if_ne 21 dc_LR_printed_8 (by decide) (fun hc => absurd rfl hc) (fun hc => ?_)
    exact wf_throw hl xw_LR_208 (by decide +kernel) dc_LR_printed_11 dc_LR_printed_14 dc_LR_printed_15 dc_LR_printed_17 dc_LR_printed_20 (by omega) (by omega) (by omega) ⟨rfl, rfl, rfl, rfl, rfl, rfl⟩
theorem k_LR_sign {W : List Int32} {F : List (List Int32)} {f j : Int32} (hl : l.stackTraces = false) (hA : lr_at t r b pm) (hC : lp_cut i b W F) : Ct l E n0 mt_LR_sign (d + 7) 1 6 [.ref (b + 0), .int f, .int j] nx t r i g (an_q xNE nx t r i g (an_sign W F f j)) := by
  have t0 := hA.1.1
  have r5 : r (b + 0) 5 = some (b + 21) := hA.2.1 (0, 5, 21) (by decide +kernel)
  have hcu := lr_cut hA
  obtain ⟨tC, rC, -⟩ := lr_cut hA
  have hI := hC.1
  have hF := hI.2.1
  refine Ct.of (by decide) (Nat.le_of_ble_eq_true rfl) ?_
  have tail : ∀ (a s n : Nat) (w : List Int32), rw_at t r a s n → rw_is i a s w → w.length ≤ n → Wf l E n0 mt_LR_sign (d + 7) 1 6 (an_q xNE nx t r i g (an_row w j)) 1 6 47 [(0, .ref (b + 0)), (1, .int f), (2, .int j)] [.ref a] nx t r i g := by
    intro a s n w hR hw hln
    obtain ⟨q1, q2, q3, q4⟩ := id hR
    refine wf_astore_n dc_LR_sign_47 (by decide) ?_
    refine wf_iload_n dc_LR_sign_48 rfl ?_
    refine wf_iconst (-1) dc_LR_sign_49 (by decide) ?_
    unfold an_row
    by_cases hj : j = -1
    · rw [if_pos hj]
      refine wf_icmp_ne 58 dc_LR_sign_50 (by decide) (fun hc => absurd hj hc) (fun hc => ?_)
      refine wf_aload_n dc_LR_sign_53 rfl ?_
      refine wf_geti dc_LR_sign_54 fl_LR_82 rfl (by assumption) ?_
      rw [hw.1]
      exact wf_ireturn rfl dc_LR_sign_57 ⟨_, rfl, rfl, rfl, rfl, rfl, rfl, rfl⟩
    · rw [if_neg hj]
      refine wf_icmp_ne 58 dc_LR_sign_50 (by decide) (fun hc => ?_) (fun hc => absurd (hc) hj)
      refine wf_aload_n dc_LR_sign_58 rfl ?_
      refine wf_iload_n dc_LR_sign_59 rfl ?_
      refine wf_iv1 (M' := mt_Row_has) (c := 5) dc_LR_sign_60 tg_Row_has ml_LR_199 im_Row_has se_Row_has ⟨_, rfl, rfl⟩ (by assumption) (Nat.le_of_ble_eq_true rfl) (Nat.le_refl _) (Nat.le_refl _) (c_Row_has hR hw hln) qI_nt (qI_go (fun x2 i2 hp => ?_))
      obtain ⟨rfl, hq⟩ := hp; subst i2
      by_cases hb : bw j 0 ((w.length : Int) - 1) = true
      · rw [if_pos ((bw_row (by omega)).mpr hb), if_pos hb]
        refine wf_if_ne 76 dc_LR_sign_63 (by decide) (fun hc => ?_) (fun hc => absurd hc (by decide))
        obtain ⟨k, hk, rfl⟩ := bw_k (by omega) hb
        have hcl : (nI k).toNatClampNeg = k := nI_clamp (by omega)
        refine wf_aload_n dc_LR_sign_76 rfl ?_
        refine wf_getr dc_LR_sign_77 fl_LR_204 rfl (by assumption) (by assumption) ?_
        refine wf_iload_n dc_LR_sign_80 rfl ?_
        refine wf_iaload (y := 0) dc_LR_sign_81 rfl (by assumption) (vp_in_nI (by omega) (by omega)) ?_
        exact wf_ireturn rfl dc_LR_sign_82 ⟨_, rfl, rfl, rfl, rfl, rfl, by rw [hcl]; exact hw.2 k hk, rfl⟩
      · rw [if_neg (fun z => hb ((bw_row (by omega)).mp z)), if_neg hb]
        refine wf_if_ne 76 dc_LR_sign_63 (by decide) (fun hc => absurd rfl hc) (fun hc => ?_)
        exact wf_throw hl xw_LR_202 (by decide +kernel) dc_LR_sign_66 dc_LR_sign_69 dc_LR_sign_70 dc_LR_sign_72 dc_LR_sign_75 (by omega) (by omega) (by omega) ⟨rfl, rfl, rfl, rfl, rfl, rfl⟩
  have no : f ≠ 0 → bw f 1 F.length = false → Wf l E n0 mt_LR_sign (d + 7) 1 6 (an_q xNE nx t r i g (an_sign W F f j)) 1 6 15 [(0, .ref (b + 0)), (1, .int f), (2, .int j)] [] nx t r i g := fun h1 h2 => by
    unfold an_sign
    rw [if_neg h1, if_neg (by rw [h2]; decide)]
    exact wf_throw hl xw_LR_190 (by decide +kernel) dc_LR_sign_15 dc_LR_sign_18 dc_LR_sign_19 dc_LR_sign_21 dc_LR_sign_24 (by omega) (by omega) (by omega) ⟨rfl, rfl, rfl, rfl, rfl, rfl⟩
  refine wf_iload_n dc_LR_sign_0 rfl ?_
  refine wf_if_lt 15 dc_LR_sign_1 (by decide) (fun h1 => ?_) (fun h1 => ?_)
  · exact Wf.to (by exact ⟨rfl, rfl, rfl, trivial⟩) (no (fun z => by rw [z] at h1; exact absurd h1 (by decide)) (bw_f (by have : f.toInt < 0 := Int32.lt_iff_toInt_lt.mp h1; omega)))
  obtain ⟨k, hk, rfl⟩ := nI_of h1
  refine wf_iload_n dc_LR_sign_4 rfl ?_
  refine wf_aload_n dc_LR_sign_5 rfl ?_
  refine wf_getr dc_LR_sign_6 fl_LR_44 rfl (by assumption) (by assumption) ?_
  refine wf_geti dc_LR_sign_9 fl_LR_187 rfl (by assumption) ?_
  rw [hI.1]
  refine wf_icmp_le 25 dc_LR_sign_12 (by decide) (fun h2 => ?_) (fun h2 => ?_)
  · have hkF : k ≤ F.length := (nI_leI hk (by omega)).mp h2
    refine wf_iload_n dc_LR_sign_25 rfl ?_
    by_cases hk0 : k = 0
    · subst hk0
      refine wf_if_ne 39 dc_LR_sign_26 (by decide) (fun hc => absurd rfl hc) (fun hc => ?_)
      have hW := hI.2.2.1
      refine wf_aload_n dc_LR_sign_29 rfl ?_
      refine wf_getr dc_LR_sign_30 fl_LR_44 rfl (by assumption) (by assumption) ?_
      refine wf_getr dc_LR_sign_33 fl_LR_192 rfl (by assumption) (by assumption) ?_
      refine wf_goto 47 dc_LR_sign_36 (by decide) ?_
      exact Wf.to (by exact ⟨rfl, rfl, rfl, trivial⟩) (tail _ _ _ W (hcu.2.2.2.2.2.2.2.1 30 (by omega)) hW.1 hW.2)
    · have hne : nI k ≠ 0 := nI_ne0 (by omega) hk
      refine wf_if_ne 39 dc_LR_sign_26 (by decide) (fun hc => ?_) (fun hc => absurd (hc) hne)
      have hcl : (nI k).toNatClampNeg = k := nI_clamp hk
      have hb : bw (nI k) 1 F.length = true := bw_t.mpr (by rw [nI_toInt hk]; omega)
      refine wf_aload_n dc_LR_sign_39 rfl ?_
      refine wf_getr dc_LR_sign_40 fl_LR_44 rfl (by assumption) (by assumption) ?_
      refine wf_iload_n dc_LR_sign_43 rfl ?_
      refine wf_iv1 (M' := mt_Cut_fieldText) (c := 1) dc_LR_sign_44 tg_Cut_fieldText ml_LR_195 im_Cut_fieldText se_Cut_fieldText ⟨_, rfl, rfl⟩ (by assumption) (Nat.le_of_ble_eq_true rfl) (Nat.le_refl _) (Nat.le_refl _) (c_Cut_fieldText hcu hI hk) qR_nt (qR_go (fun x2 i2 hp => ?_))
      obtain ⟨rfl, hq⟩ := hp; subst i2
      rw [if_pos ⟨by omega, hkF⟩]
      have hf := hI.2.2.2.1 (k - 1) (by omega)
      unfold an_sign
      rw [if_neg hne, if_pos hb, hcl]
      exact Wf.to (by exact ⟨rfl, rfl, rfl, trivial⟩) (tail _ _ _ _ (hcu.2.2.2.2.2.2.2.1 (k - 1) (by omega)) hf.1 hf.2)
  · have hkF : ¬ k ≤ F.length := fun z => h2 ((nI_leI hk (by omega)).mpr z)
    exact Wf.to (by exact ⟨rfl, rfl, rfl, trivial⟩) (no (nI_ne0 (by omega) hk) (bw_f (by rw [nI_toInt hk]; omega)))
theorem k_LR_key {K : KtS} {x j : Int32} (hl : l.stackTraces = false) (hA : lr_at t r b pm) (hK : lp_tab t r i b K) : Ct l E n0 mt_LR_key (d + 7) 1 6 [.ref (b + 0), .int x, .int j] nx t r i g (an_q xNE nx t r i g (an_key K x j)) := by
  have t0 := hA.1.1
  have r7 : r (b + 0) 7 = some (b + 90) := hA.2.1 (0, 7, 90) (by decide +kernel)
  obtain ⟨tT, rK, tK, rI, tI⟩ := lr_tab hA
  have hI := hK.1
  have hKl := hI.2.1
  refine Ct.of (by decide) (Nat.le_of_ble_eq_true rfl) ?_
  have no : bw x 0 ((K.length : Int) - 1) = false → Wf l E n0 mt_LR_key (d + 7) 1 6 (an_q xNE nx t r i g (an_key K x j)) 1 6 15 [(0, .ref (b + 0)), (1, .int x), (2, .int j)] [] nx t r i g := fun h2 => by
    unfold an_key
    rw [if_neg (by rw [h2]; decide)]
    exact wf_throw hl xw_LR_221 (by decide +kernel) dc_LR_key_15 dc_LR_key_18 dc_LR_key_19 dc_LR_key_21 dc_LR_key_24 (by omega) (by omega) (by omega) ⟨rfl, rfl, rfl, rfl, rfl, rfl⟩
  refine wf_iload_n dc_LR_key_0 rfl ?_
  refine wf_if_lt 15 dc_LR_key_1 (by decide) (fun h1 => ?_) (fun h1 => ?_)
  · exact Wf.to (by exact ⟨rfl, rfl, rfl, trivial⟩) (no (bw_f (by have : x.toInt < 0 := Int32.lt_iff_toInt_lt.mp h1; omega)))
  refine wf_iload_n dc_LR_key_4 rfl ?_
  refine wf_aload_n dc_LR_key_5 rfl ?_
  refine wf_getr dc_LR_key_6 fl_LR_55 rfl (by assumption) (by assumption) ?_
  refine wf_geti dc_LR_key_9 fl_LR_218 rfl (by assumption) ?_
  rw [hI.1]
  refine wf_icmp_lt 25 dc_LR_key_12 (by decide) (fun h2 => ?_) (fun h2 => ?_)
  · have hb := (bw_row (by omega)).mp ⟨h1, h2⟩
    obtain ⟨k, hk, rfl⟩ := bw_k (by omega) hb
    have hcl : (nI k).toNatClampNeg = k := nI_clamp (by omega)
    obtain ⟨hv, ka, sa, hr, -, -, hR, hw⟩ := hI.2.2 k hk
    unfold an_key
    rw [if_pos hb, hcl]
    refine wf_iload_n dc_LR_key_25 rfl ?_
    refine wf_bipush (-2) dc_LR_key_26 (by decide) ?_
    by_cases hj2 : j = -2
    · rw [if_pos hj2]
      refine wf_icmp_ne 41 dc_LR_key_28 (by decide) (fun hc => absurd hj2 hc) (fun hc => ?_)
      refine wf_aload_n dc_LR_key_31 rfl ?_
      refine wf_getr dc_LR_key_32 fl_LR_55 rfl (by assumption) (by assumption) ?_
      refine wf_getr dc_LR_key_35 fl_LR_223 rfl (by assumption) (by assumption) ?_
      refine wf_iload_n dc_LR_key_38 rfl ?_
      refine wf_iaload (y := 0) dc_LR_key_39 rfl (by assumption) (vp_in_nI (by omega) (by omega)) ?_
      exact wf_ireturn rfl dc_LR_key_40 ⟨_, rfl, rfl, rfl, rfl, rfl, by rw [hcl]; exact hv, rfl⟩
    rw [if_neg hj2]
    refine wf_icmp_ne 41 dc_LR_key_28 (by decide) (fun hc => ?_) (fun hc => absurd (hc) hj2)
    obtain ⟨q1, q2, q3, q4⟩ := id hR
    refine wf_aload_n dc_LR_key_41 rfl ?_
    refine wf_getr dc_LR_key_42 fl_LR_55 rfl (by assumption) (by assumption) ?_
    refine wf_getr dc_LR_key_45 fl_LR_226 rfl (by assumption) (by assumption) ?_
    refine wf_iload_n dc_LR_key_48 rfl ?_
    refine wf_aaload (y := 3) dc_LR_key_49 rfl rfl (by assumption) (vp_in_nI (by omega) (by omega)) (by rw [hcl]; exact hr) ?_
    refine wf_astore_n dc_LR_key_50 (by decide) ?_
    refine wf_iload_n dc_LR_key_51 rfl ?_
    refine wf_iconst (-1) dc_LR_key_52 (by decide) ?_
    unfold an_row
    by_cases hj : j = -1
    · rw [if_pos hj]
      refine wf_icmp_ne 61 dc_LR_key_53 (by decide) (fun hc => absurd hj hc) (fun hc => ?_)
      refine wf_aload_n dc_LR_key_56 rfl ?_
      refine wf_geti dc_LR_key_57 fl_LR_82 rfl (by assumption) ?_
      rw [hw.1]
      exact wf_ireturn rfl dc_LR_key_60 ⟨_, rfl, rfl, rfl, rfl, rfl, rfl, rfl⟩
    · rw [if_neg hj]
      refine wf_icmp_ne 61 dc_LR_key_53 (by decide) (fun hc => ?_) (fun hc => absurd (hc) hj)
      have hwl : (kt_at K k).1.length < 2 ^ 31 := by omega
      refine wf_aload_n dc_LR_key_61 rfl ?_
      refine wf_iload_n dc_LR_key_62 rfl ?_
      refine wf_iv1 (M' := mt_Row_has) (c := 5) dc_LR_key_63 tg_Row_has ml_LR_199 im_Row_has se_Row_has ⟨_, rfl, rfl⟩ (by assumption) (Nat.le_of_ble_eq_true rfl) (Nat.le_refl _) (Nat.le_refl _) (c_Row_has hR hw (Nat.le_refl _)) qI_nt (qI_go (fun x2 i2 hp => ?_))
      obtain ⟨rfl, hq⟩ := hp; subst i2
      by_cases hb : bw j 0 (((kt_at K k).1.length : Int) - 1) = true
      · rw [if_pos ((bw_row hwl).mpr hb), if_pos hb]
        refine wf_if_ne 79 dc_LR_key_66 (by decide) (fun hc => ?_) (fun hc => absurd hc (by decide))
        obtain ⟨m, hm, rfl⟩ := bw_k hwl hb
        have hcm : (nI m).toNatClampNeg = m := nI_clamp (by omega)
        refine wf_aload_n dc_LR_key_79 rfl ?_
        refine wf_getr dc_LR_key_80 fl_LR_204 rfl (by assumption) (by assumption) ?_
        refine wf_iload_n dc_LR_key_83 rfl ?_
        refine wf_iaload (y := 0) dc_LR_key_84 rfl (by assumption) (vp_in_nI (by omega) (by omega)) ?_
        exact wf_ireturn rfl dc_LR_key_85 ⟨_, rfl, rfl, rfl, rfl, rfl, by rw [hcm]; exact hw.2 m hm, rfl⟩
      · rw [if_neg (fun z => hb ((bw_row hwl).mp z)), if_neg hb]
        refine wf_if_ne 79 dc_LR_key_66 (by decide) (fun hc => absurd rfl hc) (fun hc => ?_)
        exact wf_throw hl xw_LR_202 (by decide +kernel) dc_LR_key_69 dc_LR_key_72 dc_LR_key_73 dc_LR_key_75 dc_LR_key_78 (by omega) (by omega) (by omega) ⟨rfl, rfl, rfl, rfl, rfl, rfl⟩
  · refine Wf.to (by exact ⟨rfl, rfl, rfl, trivial⟩) (no ?_)
    cases hb : bw x 0 ((K.length : Int) - 1) with
    | false => rfl
    | true => exact absurd ((bw_row (by omega)).mpr hb).2 h2
theorem k_LR_find {sx : Nat → List Int32} {w : List Int32} {x q : Int32} (hl : l.stackTraces = false) (hA : lr_at t r b pm) (hP : lp_pad i b w) (hX : lp_exp t r i g b pm sx) : Ct l E n0 mt_LR_find (d + 7) 1 6 [.ref (b + 0), .int x, .int q] nx t r i g (if bw x 0 5 = true ∧ bw q 0 w.length = true then qI nx t r g (fun z i' => z = oI (fd_of (ps_rel (sx x.toNatClampNeg)) w q.toNatClampNeg) ∧ i' = wf_up i (b + 0) 13 (oI (fn_of (ps_rel (sx x.toNatClampNeg)) w q.toNatClampNeg)) ∧ lp_end i' b (fn_of (ps_rel (sx x.toNatClampNeg)) w q.toNatClampNeg)) else qX xNE nx t r i g) := by
  have t0 := hA.1.1
  have r0 : r (b + 0) 0 = some (b + 1) := hA.2.1 (0, 0, 1) (by decide +kernel)
  have r2 : r (b + 0) 2 = some (b + 4) := hA.2.1 (0, 2, 4) (by decide +kernel)
  have t4 := hA.1.2 4 (4, .inr (4, 6)) (by decide +kernel)
  have hpd := lr_pad hA
  have tP := hpd.1
  have hw := hP.2.1
  generalize hQ : (if bw x 0 5 = true ∧ bw q 0 w.length = true then qI nx t r g (fun z i' => z = oI (fd_of (ps_rel (sx x.toNatClampNeg)) w q.toNatClampNeg) ∧ i' = wf_up i (b + 0) 13 (oI (fn_of (ps_rel (sx x.toNatClampNeg)) w q.toNatClampNeg)) ∧ lp_end i' b (fn_of (ps_rel (sx x.toNatClampNeg)) w q.toNatClampNeg)) else qX xNE nx t r i g) = Q0
  refine Ct.of (by decide) (Nat.le_of_ble_eq_true rfl) ?_
  have no : ¬ (bw x 0 5 = true ∧ bw q 0 w.length = true) → Wf l E n0 mt_LR_find (d + 7) 1 6 Q0 1 6 22 [(0, .ref (b + 0)), (1, .int x), (2, .int q)] [] nx t r i g := fun h => by
    rw [← hQ, if_neg h]
    exact wf_throw hl xw_LR_178 (by decide +kernel) dc_LR_find_22 dc_LR_find_25 dc_LR_find_26 dc_LR_find_28 dc_LR_find_31 (by omega) (by omega) (by omega) ⟨rfl, rfl, rfl, rfl, rfl, rfl⟩
  refine wf_iload_n dc_LR_find_0 rfl ?_
  refine wf_is1 (M' := mt_LR_isExpression) dc_LR_find_1 tg_LR_isExpression ml_LR_98 sm_LR_isExpression (Nat.le_of_ble_eq_true rfl) (Nat.le_refl _) (Nat.le_refl _) (c_LR_isExpression) qI_nt (qI_go (fun x2 i2 hp => ?_))
  obtain ⟨rfl, hq⟩ := hp; subst i2
  cases hb : bw x 0 5 with
  | false =>
    refine wf_if_eq 22 dc_LR_find_4 (by decide) (fun hc => ?_) (fun hc => absurd rfl hc)
    exact Wf.to (by exact ⟨rfl, rfl, rfl, trivial⟩) (no (fun z => by rw [hb] at z; cases z.1))
  | true =>
    refine wf_if_eq 22 dc_LR_find_4 (by decide) (fun hc => absurd hc (by decide)) (fun hc => ?_)
    refine wf_iload_n dc_LR_find_7 rfl ?_
    refine wf_if_lt 22 dc_LR_find_8 (by decide) (fun h1 => ?_) (fun h1 => ?_)
    · exact Wf.to (by exact ⟨rfl, rfl, rfl, trivial⟩) (no (fun z => by have z1 := (bw_t.mp z.2).1; have : q.toInt < 0 := Int32.lt_iff_toInt_lt.mp h1; omega))
    obtain ⟨p, hp31, rfl⟩ := nI_of h1
    refine wf_iload_n dc_LR_find_11 rfl ?_
    refine wf_aload_n dc_LR_find_12 rfl ?_
    refine wf_getr dc_LR_find_13 fl_LR_14 rfl (by assumption) (by assumption) ?_
    refine wf_geti dc_LR_find_16 fl_LR_82 rfl (by assumption) ?_
    rw [hP.1.1]
    refine wf_icmp_le 32 dc_LR_find_19 (by decide) (fun h2 => ?_) (fun h2 => ?_)
    · have hpw : p ≤ w.length := (nI_leI hp31 (by omega)).mp h2
      have hbq : bw (nI p) 0 w.length = true := bw_t.mpr (by rw [nI_toInt hp31]; omega)
      rw [← hQ, if_pos ⟨hb, hbq⟩]
      obtain ⟨k, -, hk, rfl⟩ := bw_n (lo := 0) (hi := 5) hb
      have hcl : (nI k).toNatClampNeg = k := nI_clamp (by omega)
      have hcp : (nI p).toNatClampNeg = p := nI_clamp (by omega)
      rw [hcl, hcp]
      have rX : r (b + 4) (nI k).toNatClampNeg = some (b + xo (pm k)) := by rw [hcl]; exact hA.2.2.2.2.1 k (by omega)
      have hXk := (hX k (by omega)).1
      have tX := (lr_exp hA (hA.2.2.1 k (by omega))).1
      have hsg := s1_ok hP.2
      refine wf_aload_n dc_LR_find_32 rfl ?_
      refine wf_getr dc_LR_find_33 fl_LR_24 rfl (by assumption) (by assumption) ?_
      refine wf_iload_n dc_LR_find_36 rfl ?_
      refine wf_aaload (y := 4) dc_LR_find_37 rfl rfl (by assumption) (vp_in_nI (by omega) (by omega)) (rX) ?_
      refine wf_aload_n dc_LR_find_38 rfl ?_
      refine wf_getr dc_LR_find_39 fl_LR_14 rfl (by assumption) (by assumption) ?_
      refine wf_iload_n dc_LR_find_42 rfl ?_
      refine wf_iv2 (M' := mt_Exp_firstFrom) (c := 2) dc_LR_find_43 tg_Exp_firstFrom ml_LR_180 im_Exp_firstFrom se_Exp_firstFrom ⟨_, rfl, rfl⟩ (by assumption) (Nat.le_of_ble_eq_true rfl) (Nat.le_refl _) (Nat.le_refl _) (k_Exp_firstFrom hXk hpd hP.1 hw hsg (by omega)) qI_nt (qI_go (fun x2 i2 hp => ?_))
      obtain ⟨rfl, hq⟩ := hp; subst i2
      refine wf_istore_n dc_LR_find_46 (by decide) ?_
      refine wf_aload_n dc_LR_find_47 rfl ?_
      refine wf_iload_n dc_LR_find_48 rfl ?_
      refine wf_iconst (-1) dc_LR_find_49 (by decide) ?_
      unfold fn_of
      cases hfd : fd_of (ps_rel (sx k)) w p with
      | none =>
        refine wf_icmp_ne 57 dc_LR_find_50 (by decide) (fun hc => absurd rfl hc) (fun hc => ?_)
        refine wf_iconst (-1) dc_LR_find_53 (by decide) ?_
        refine wf_goto 71 dc_LR_find_54 (by decide) ?_
        refine wf_puti dc_LR_find_71 fl_LR_73 (Or.inl nf_LR_13) rfl rfl rfl (by assumption) ?_
        refine wf_iload_n dc_LR_find_74 rfl ?_
        exact wf_ireturn rfl dc_LR_find_75 ⟨_, rfl, rfl, rfl, rfl, rfl, rfl, rfl, wf_up_s, fun f hf => by cases hf⟩
      | some s =>
        obtain ⟨z1, z2, e2, z3⟩ := fd_some hfd
        have he := mx_of_some z3
        refine wf_icmp_ne 57 dc_LR_find_50 (by decide) (fun hc => ?_) (fun hc => absurd hc.symm (mx_m1 (by omega)))
        refine wf_aload_n dc_LR_find_57 rfl ?_
        refine wf_getr dc_LR_find_58 fl_LR_24 rfl (by assumption) (by assumption) ?_
        refine wf_iload_n dc_LR_find_61 rfl ?_
        refine wf_aaload (y := 4) dc_LR_find_62 rfl rfl (by assumption) (vp_in_nI (by omega) (by omega)) (rX) ?_
        refine wf_aload_n dc_LR_find_63 rfl ?_
        refine wf_getr dc_LR_find_64 fl_LR_14 rfl (by assumption) (by assumption) ?_
        refine wf_iload_n dc_LR_find_67 rfl ?_
        refine wf_iv2 (M' := mt_Exp_longestFrom) (c := 2) dc_LR_find_68 tg_Exp_longestFrom ml_LR_184 im_Exp_longestFrom se_Exp_longestFrom ⟨_, rfl, rfl⟩ (by assumption) (Nat.le_of_ble_eq_true rfl) (Nat.le_refl _) (Nat.le_refl _) (k_Exp_longestFrom (b := s) hXk hpd hP.1 hw hsg z2) qI_nt (qI_go (fun x2 i2 hp => ?_))
        obtain ⟨rfl, hq⟩ := hp; subst i2
        simp only [z3]
        refine wf_puti dc_LR_find_71 fl_LR_73 (Or.inl nf_LR_13) rfl rfl rfl (by assumption) ?_
        refine wf_iload_n dc_LR_find_74 rfl ?_
        exact wf_ireturn rfl dc_LR_find_75 ⟨_, rfl, rfl, rfl, rfl, rfl, rfl, rfl, wf_up_s, fun f hf => by cases hf; have := he.1; omega⟩
    · have hpw : ¬ p ≤ w.length := fun z => h2 ((nI_leI hp31 (by omega)).mpr z)
      exact Wf.to (by exact ⟨rfl, rfl, rfl, trivial⟩) (no (fun z => by have z1 := (bw_t.mp z.2).2; rw [nI_toInt hp31] at z1; omega))
theorem k_LR_action {ru : List RuS} {x p y z : Int32} (hl : l.stackTraces = false) (hA : lr_at t r b pm) (hR : lp_rul i b ru) : Ct l E n0 mt_LR_action (d + 7) 1 6 [.ref (b + 0), .int x, .int p, .int y, .int z] nx t r i g (if bw x 0 ((ru.length : Int) - 1) = true ∧ ac_ok p y z = true then (if (ru_d ru x.toNatClampNeg).2.2.2.length = 10 then qX xSE nx t r i g else qI nx t r g (fun v i' => v = nI ((ru_d ru x.toNatClampNeg).2.2.2.length + 1) ∧ lp_rul i' b (ru.set x.toNatClampNeg ((ru_d ru x.toNatClampNeg).1, (ru_d ru x.toNatClampNeg).2.1, (ru_d ru x.toNatClampNeg).2.2.1, (ru_d ru x.toNatClampNeg).2.2.2 ++ [(p, y, z)])) ∧ fr_is [b + (145 + 4 * x.toNatClampNeg), b + (145 + 4 * x.toNatClampNeg + 1), b + (145 + 4 * x.toNatClampNeg + 2), b + (145 + 4 * x.toNatClampNeg + 3)] i i')) else qX xNE nx t r i g) := by
  have t0 := hA.1.1
  have r4 : r (b + 0) 4 = some (b + 20) := hA.2.1 (0, 4, 20) (by decide +kernel)
  have t20 := hA.1.2 20 (20, .inr (5, 12)) (by decide +kernel)
  have h12 := hR.2.1
  generalize hQ : (if bw x 0 ((ru.length : Int) - 1) = true ∧ ac_ok p y z = true then (if (ru_d ru x.toNatClampNeg).2.2.2.length = 10 then qX xSE nx t r i g else qI nx t r g (fun v i' => v = nI ((ru_d ru x.toNatClampNeg).2.2.2.length + 1) ∧ lp_rul i' b (ru.set x.toNatClampNeg ((ru_d ru x.toNatClampNeg).1, (ru_d ru x.toNatClampNeg).2.1, (ru_d ru x.toNatClampNeg).2.2.1, (ru_d ru x.toNatClampNeg).2.2.2 ++ [(p, y, z)])) ∧ fr_is [b + (145 + 4 * x.toNatClampNeg), b + (145 + 4 * x.toNatClampNeg + 1), b + (145 + 4 * x.toNatClampNeg + 2), b + (145 + 4 * x.toNatClampNeg + 3)] i i')) else qX xNE nx t r i g) = Q0
  refine Ct.of (by decide) (Nat.le_of_ble_eq_true rfl) ?_
  have no : ¬ (bw x 0 ((ru.length : Int) - 1) = true ∧ ac_ok p y z = true) → Wf l E n0 mt_LR_action (d + 7) 1 6 Q0 1 6 22 [(0, .ref (b + 0)), (1, .int x), (2, .int p), (3, .int y), (4, .int z)] [] nx t r i g := fun h => by
    rw [← hQ, if_neg h]
    exact wf_throw hl xw_LR_153 (by decide +kernel) dc_LR_action_22 dc_LR_action_25 dc_LR_action_26 dc_LR_action_28 dc_LR_action_31 (by omega) (by omega) (by omega) ⟨rfl, rfl, rfl, rfl, rfl, rfl⟩
  refine wf_iload_n dc_LR_action_0 rfl ?_
  refine wf_if_lt 22 dc_LR_action_1 (by decide) (fun h1 => ?_) (fun h1 => ?_)
  · exact Wf.to (by exact ⟨rfl, rfl, rfl, rfl, rfl, trivial⟩) (no (fun v => by have z1 := (bw_t.mp v.1).1; have : x.toInt < 0 := Int32.lt_iff_toInt_lt.mp h1; omega))
  refine wf_iload_n dc_LR_action_4 rfl ?_
  refine wf_aload_n dc_LR_action_5 rfl ?_
  refine wf_geti dc_LR_action_6 fl_LR_141 rfl (by assumption) ?_
  rw [hR.1]
  refine wf_icmp_ge 22 dc_LR_action_9 (by decide) (fun h2 => ?_) (fun h2 => ?_)
  · exact Wf.to (by exact ⟨rfl, rfl, rfl, rfl, rfl, trivial⟩) (no (fun v => by have v1 := ((bw_row (by omega)).mpr v.1).2; exact absurd (Int32.lt_iff_toInt_lt.mp v1) (by have := Int32.le_iff_toInt_le.mp h2; omega)))
  have hlt : x < nI ru.length := Int32.lt_iff_toInt_lt.mpr (by have : ¬ (nI ru.length).toInt ≤ x.toInt := fun v => h2 (Int32.le_iff_toInt_le.mpr v); omega)
  have hbx := (bw_row (by omega)).mp ⟨h1, hlt⟩
  refine wf_iload_n dc_LR_action_12 rfl ?_
  refine wf_iload_n dc_LR_action_13 rfl ?_
  refine wf_iload dc_LR_action_14 rfl ?_
  refine wf_is3 (M' := mt_LR_isAction) dc_LR_action_16 tg_LR_isAction ml_LR_150 sm_LR_isAction (Nat.le_of_ble_eq_true rfl) (Nat.le_refl _) (Nat.le_refl _) (c_LR_isAction) qI_nt (qI_go (fun x2 i2 hp => ?_))
  obtain ⟨rfl, hq⟩ := hp; subst i2
  cases hb : ac_ok p y z with
  | false =>
    refine wf_if_ne 32 dc_LR_action_19 (by decide) (fun hc => absurd rfl hc) (fun hc => ?_)
    exact Wf.to (by exact ⟨rfl, rfl, rfl, rfl, rfl, trivial⟩) (no (fun v => by rw [hb] at v; cases v.2))
  | true =>
    refine wf_if_ne 32 dc_LR_action_19 (by decide) (fun hc => ?_) (fun hc => absurd hc (by decide))
    rw [← hQ, if_pos ⟨hbx, hb⟩]
    clear no hQ
    obtain ⟨k, hk, rfl⟩ := bw_k (by omega) hbx
    have hcl : (nI k).toNatClampNeg = k := nI_clamp (by omega)
    rw [hcl]
    have w20 : ∀ k, k < 12 → (20, k, 145 + 4 * k) ∈ lr_Wf := by decide +kernel
    have r20 : r (b + 20) (nI k).toNatClampNeg = some (b + (145 + 4 * k)) := by rw [hcl]; exact hA.2.1 _ (w20 _ (by omega))
    have hru := lr_rul hA (k := k) (by omega)
    have tR := hru.1
    obtain ⟨hu, ho⟩ := hR.2.2 k hk
    refine wf_aload_n dc_LR_action_32 rfl ?_
    refine wf_getr dc_LR_action_33 fl_LR_37 rfl (by assumption) (by assumption) ?_
    refine wf_iload_n dc_LR_action_36 rfl ?_
    refine wf_aaload (y := 5) dc_LR_action_37 rfl rfl (by assumption) (vp_in_nI (by omega) (by omega)) (r20) ?_
    refine wf_iv0 (M' := mt_Rul_isFull) (c := 6) dc_LR_action_38 tg_Rul_isFull ml_LR_155 im_Rul_isFull se_Rul_isFull ⟨_, rfl, rfl⟩ (by assumption) (Nat.le_of_ble_eq_true rfl) (Nat.le_refl _) (Nat.le_refl _) (c_Rul_isFull hru hu ho.1) qI_nt (qI_go (fun x2 i2 hp => ?_))
    obtain ⟨rfl, hq⟩ := hp; subst i2
    by_cases he : (ru_d ru k).2.2.2.length = 10
    · rw [if_pos he, if_pos he]
      refine wf_if_eq 54 dc_LR_action_41 (by decide) (fun hc => absurd hc (by decide)) (fun hc => ?_)
      exact wf_throw hl xw_LR_159 (by decide +kernel) dc_LR_action_44 dc_LR_action_47 dc_LR_action_48 dc_LR_action_50 dc_LR_action_53 (by omega) (by omega) (by omega) ⟨rfl, rfl, rfl, rfl, rfl, rfl⟩
    · rw [if_neg he, if_neg he]
      refine wf_if_eq 54 dc_LR_action_41 (by decide) (fun hc => ?_) (fun hc => absurd rfl hc)
      refine wf_aload_n dc_LR_action_54 rfl ?_
      refine wf_getr dc_LR_action_55 fl_LR_37 rfl (by assumption) (by assumption) ?_
      refine wf_iload_n dc_LR_action_58 rfl ?_
      refine wf_aaload (y := 5) dc_LR_action_59 rfl rfl (by assumption) (vp_in_nI (by omega) (by omega)) (r20) ?_
      refine wf_iload_n dc_LR_action_60 rfl ?_
      refine wf_iload_n dc_LR_action_61 rfl ?_
      refine wf_iload dc_LR_action_62 rfl ?_
      refine wf_iv3 (M' := mt_Rul_add) (c := 6) dc_LR_action_64 tg_Rul_add ml_LR_161 im_Rul_add se_Rul_add ⟨_, rfl, rfl⟩ (by assumption) (Nat.le_of_ble_eq_true rfl) (Nat.le_refl _) (Nat.le_refl _) (c_Rul_add hru hu (by have := ho.1; omega)) qI_nt (qI_go (fun x2 i2 hp => ?_))
      obtain ⟨rfl, m1, f1⟩ := hp
      refine wf_ireturn rfl dc_LR_action_67 ⟨_, rfl, rfl, rfl, rfl, rfl, rfl, ⟨by rw [List.length_set]; exact (f1 _ (by simp only [List.mem_cons, List.not_mem_nil, or_false]; omega) 10).trans hR.1, by rw [List.length_set]; exact h12, fun j hj => ?_⟩, f1⟩
      rw [List.length_set] at hj
      by_cases hjk : j = k
      · subst hjk
        have hd : ru_d (ru.set j ((ru_d ru j).1, (ru_d ru j).2.1, (ru_d ru j).2.2.1, (ru_d ru j).2.2.2 ++ [(p, y, z)])) j = ((ru_d ru j).1, (ru_d ru j).2.1, (ru_d ru j).2.2.1, (ru_d ru j).2.2.2 ++ [(p, y, z)]) := by
          conv => lhs; unfold ru_d
          rw [List.getD_eq_getElem?_getD, List.getElem?_set_self hj]
          rfl
        rw [hd]
        refine ⟨m1, by simp only [List.length_append, List.length_singleton]; have := ho.1; omega, ho.2.1, fun a ha => ?_⟩
        simp only [List.length_append, List.length_singleton] at ha
        simp only
        by_cases hal : a < (ru_d ru j).2.2.2.length
        · rw [List.getD_eq_getElem?_getD, List.getElem?_append_left hal, ← List.getD_eq_getElem?_getD]
          exact ho.2.2 a hal
        · have hae : a = (ru_d ru j).2.2.2.length := by omega
          subst hae
          rw [List.getD_eq_getElem?_getD, List.getElem?_append_right (Nat.le_refl _), Nat.sub_self]
          exact hb
      · have hd : ru_d (ru.set k ((ru_d ru k).1, (ru_d ru k).2.1, (ru_d ru k).2.2.1, (ru_d ru k).2.2.2 ++ [(p, y, z)])) j = ru_d ru j := by
          conv => lhs; unfold ru_d
          rw [List.getD_eq_getElem?_getD, List.getElem?_set_ne (fun v => hjk v.symm), ← List.getD_eq_getElem?_getD]
          rfl
        rw [hd]
        exact ⟨(hR.2.2 j hj).1.fr f1 (by simp only [List.mem_cons, List.not_mem_nil, or_false]; omega) (by simp only [List.mem_cons, List.not_mem_nil, or_false]; omega) (by simp only [List.mem_cons, List.not_mem_nil, or_false]; omega) (by simp only [List.mem_cons, List.not_mem_nil, or_false]; omega), (hR.2.2 j hj).2⟩
end
