/-! Math.floorMod by 1500; class Output: all that was printed (p), the latest 1500 kept -/
theorem nI_xor (a b : Nat) : nI a ^^^ nI b = nI (a ^^^ b) := by
  apply Int32.toBitVec_inj.mp
  simp [nI, BitVec.ofNat_xor]
section
variable {l : Launch} {E : We} {n0 d nx : Nat} {t : Wt} {r : Wr} {i : Wi} {g : Wl}
theorem c_Mth_floorMod {x y : Nat} (hx : x < 2 ^ 31) (hy : y < 2 ^ 31) (h0 : 0 < y) : Ct l E n0 mt_Mth_floorMod d 0 0 [.int (nI x), .int (nI y)] nx t r i g (qI nx t r g (fun z i' => z = nI (x % y) ∧ i' = i)) := by
  refine Ct.ofF (by decide +kernel) (Nat.le_of_ble_eq_true rfl) ?_
  refine wf_iload_n dc_Mth_floorMod_0 rfl ?_
  refine wf_iload_n dc_Mth_floorMod_1 rfl ?_
  refine wf_irem dc_Mth_floorMod_2 (nI_ne0 h0 hy) ?_
  rw [pk_rem hx h0 hy]
  refine wf_istore_n dc_Mth_floorMod_3 (by decide) ?_
  refine wf_iload_n dc_Mth_floorMod_4 rfl ?_
  refine wf_iload_n dc_Mth_floorMod_5 rfl ?_
  refine wf_ixor dc_Mth_floorMod_6 ?_
  rw [nI_xor]
  refine wf_if_ge 18 dc_Mth_floorMod_7 (by decide) (fun hc => ?_) (fun hc => absurd (nI_pos' (Nat.xor_lt_two_pow hx hy)) hc)
  refine wf_iload_n dc_Mth_floorMod_18 rfl ?_
  exact wf_ireturn rfl dc_Mth_floorMod_19 ⟨_, rfl, rfl, rfl, rfl, rfl, rfl, rfl⟩
def ou_at (t : Wt) (r : Wr) (a s : Nat) : Prop := t a = some (.inl 3) ∧ r a 0 = some s ∧ t s = some (.inr (0, 1500))
def ou_is (i : Wi) (a s : Nat) (p : List Int32) : Prop := i a 1 = nI p.length ∧ ∀ k, k < p.length → p.length ≤ k + 1500 → i s (k % 1500) = p.getD k 0
theorem ou_at.ne {a s : Nat} (h : ou_at t r a s) : a ≠ s := fun q => by
  obtain ⟨h1, -, h3⟩ := h
  rw [q, h3] at h1
  cases h1
theorem ou_is.fr {i' : Wi} {a s : Nat} {p : List Int32} {S : List Nat} (h : ou_is i a s p) (hf : fr_is S i i') (ha : a ∉ S) (hs : s ∉ S) : ou_is i' a s p := ⟨(hf a ha 1).trans h.1, fun k h1 h2 => (hf s hs _).trans (h.2 k h1 h2)⟩
theorem c_Out_add {a s : Nat} {x : Int32} {p : List Int32} (hA : ou_at t r a s) (hp : ou_is i a s p) (hl : p.length < 2000000000) : Ct l E n0 mt_Out_add (d + 1) 0 0 [.ref a, .int x] nx t r i g (qV nx t r g (fun i' => ou_is i' a s (p ++ [x]) ∧ fr_is [a, s] i i')) := by
  have hne := hA.ne
  obtain ⟨ha, hr, hs⟩ := hA
  obtain ⟨h1, h2⟩ := hp
  refine Ct.of (by decide) (Nat.le_of_ble_eq_true rfl) ?_
  refine wf_aload_n dc_Out_add_0 rfl ?_
  refine wf_getr dc_Out_add_1 fl_Out_9 rfl (by assumption) (by assumption) ?_
  refine wf_aload_n dc_Out_add_4 rfl ?_
  refine wf_geti dc_Out_add_5 fl_Out_32 rfl (by assumption) ?_
  rw [h1]
  refine wf_sipush 1500 dc_Out_add_8 (by decide) ?_
  refine wf_is2 (M' := mt_Mth_floorMod) dc_Out_add_11 tg_Mth_floorMod ml_Out_35 sm_Mth_floorMod (Nat.le_of_ble_eq_true rfl) (Nat.le_refl _) (Nat.le_refl _) (c_Mth_floorMod (x := p.length) (y := 1500) (by omega) (by omega) (by omega)) qI_nt (qI_go (fun x2 i2 hp => ?_))
  obtain ⟨rfl, rfl⟩ := hp
  have hm : p.length % 1500 < 1500 := Nat.mod_lt _ (by omega)
  refine wf_iload_n dc_Out_add_14 rfl ?_
  refine wf_iastore (y := 0) dc_Out_add_15 rfl (by decide) (by assumption) (vp_in_nI hm (by omega)) ?_
  rw [nI_clamp (by omega)]
  refine wf_aload_n dc_Out_add_16 rfl ?_
  refine wf_dup dc_Out_add_17 rfl ?_
  refine wf_geti dc_Out_add_18 fl_Out_32 rfl (by assumption) ?_
  refine wf_iconst 1 dc_Out_add_21 (by decide) ?_
  refine wf_iadd dc_Out_add_22 ?_
  rw [wf_up_a hne, h1, nI_1]
  refine wf_puti dc_Out_add_23 fl_Out_32 (Or.inl nf_Out_1) rfl rfl rfl (by assumption) ?_
  refine wf_return rfl dc_Out_add_26 ⟨rfl, rfl, rfl, rfl, rfl, ⟨?_, ?_⟩, ?_⟩
  · rw [wf_up_s, List.length_append]
    rfl
  · intro k hk hk2
    rw [List.length_append] at hk hk2
    have hk : k < p.length + 1 := hk
    have hk2 : p.length + 1 ≤ k + 1500 := hk2
    rw [wf_up_a hne.symm]
    by_cases hkp : k = p.length
    · rw [hkp, wf_up_s]
      exact (gd_r (w := p) (v := [x]) (j := 0)).symm
    · rw [wf_up_k (by omega), h2 k (by omega) (by omega), gd_l (by omega)]
  · exact fr_up (fr_up fr_rf (by simp)) (by simp)
theorem c_Out_printPart {a s b s2 n2 lo hi : Nat} {p w : List Int32} (hA : ou_at t r a s) (hp : ou_is i a s p) (hl : p.length < 1999999000) (hB : rw_at t r b s2 n2) (hw : rw_is i b s2 w) (hl2 : w.length ≤ n2) (hs2 : s2 ≠ s ∧ s2 ≠ a ∧ b ≠ s ∧ b ≠ a) (hlo : lo ≤ hi) (hhi : hi ≤ w.length) :
    Ct l E n0 mt_Out_printPart (d + 2) 0 0 [.ref a, .ref b, .int (nI lo), .int (nI hi)] nx t r i g (qV nx t r g (fun i' => ou_is i' a s (p ++ (w.drop lo).take (hi - lo) ++ [10]) ∧ fr_is [a, s] i i')) := by
  have ha := hA.1
  have hn2 := hB.2.2.2
  obtain ⟨hb, hrb, hsb, -⟩ := hB
  refine Ct.of (by decide) (Nat.le_of_ble_eq_true rfl) ?_
  refine wf_iload_n dc_Out_printPart_0 rfl ?_
  refine wf_istore dc_Out_printPart_1 (by decide) ?_
  have loop : ∀ (k j : Nat) (i1 : Wi) (p1 : List Int32), j + k = hi → lo ≤ j → ou_is i1 a s p1 → fr_is [a, s] i i1 → p1.length + k < 2000000000 - 1 → p1 ++ (w.drop j).take k = p ++ (w.drop lo).take (hi - lo) →
      Wf l E n0 mt_Out_printPart (d + 2) 0 0 (qV nx t r g (fun i' => ou_is i' a s (p ++ (w.drop lo).take (hi - lo) ++ [10]) ∧ fr_is [a, s] i i')) 0 0 3 [(0, .ref a), (1, .ref b), (3, .int (nI hi)), (4, .int (nI j))] [] nx t r i1 g := by
    intro k
    induction k with
    | zero =>
      intro j i1 p1 hj hlj h1 hf hlen he
      rw [List.take_zero, List.append_nil] at he
      refine wf_iload dc_Out_printPart_3 rfl ?_
      refine wf_iload_n dc_Out_printPart_5 rfl ?_
      refine wf_icmp_ge 26 dc_Out_printPart_6 (by decide) (fun hc => ?_) (fun hc => absurd ((nI_leI (by omega) (by omega)).mpr (by omega)) hc)
      refine wf_aload_n dc_Out_printPart_26 rfl ?_
      refine wf_bipush 10 dc_Out_printPart_27 (by decide) ?_
      refine wf_iv1 (M' := mt_Out_add) (c := 3) dc_Out_printPart_29 tg_Out_add ml_Out_28 im_Out_add se_Out_add ⟨_, rfl, rfl⟩ (by assumption) (Nat.le_of_ble_eq_true rfl) (Nat.le_refl _) (Nat.le_refl _) (c_Out_add hA h1 (by omega)) qV_nt (qV_go (fun i2 hp => ?_))
      exact wf_return rfl dc_Out_printPart_32 ⟨rfl, rfl, rfl, rfl, rfl, by rw [← he]; exact hp.1, fr_ss hf hp.2⟩
    | succ k ih =>
      intro j i1 p1 hj hlj h1 hf hlen he
      have hw1 : rw_is i1 b s2 w := hw.fr hf (by simp [hs2]) (by simp [hs2])
      refine wf_iload dc_Out_printPart_3 rfl ?_
      refine wf_iload_n dc_Out_printPart_5 rfl ?_
      refine wf_icmp_ge 26 dc_Out_printPart_6 (by decide) (fun hc => absurd ((nI_leI (by omega) (by omega)).mp hc) (by omega)) (fun hc => ?_)
      refine wf_aload_n dc_Out_printPart_9 rfl ?_
      refine wf_aload_n dc_Out_printPart_10 rfl ?_
      refine wf_getr dc_Out_printPart_11 fl_Out_25 rfl (by assumption) (by assumption) ?_
      refine wf_iload dc_Out_printPart_14 rfl ?_
      refine wf_iaload (y := 0) dc_Out_printPart_16 rfl (by assumption) (vp_in_nI (by omega) (by omega)) ?_
      rw [nI_clamp (by omega), hw1.2 j (by omega)]
      refine wf_iv1 (M' := mt_Out_add) (c := 3) dc_Out_printPart_17 tg_Out_add ml_Out_28 im_Out_add se_Out_add ⟨_, rfl, rfl⟩ (by assumption) (Nat.le_of_ble_eq_true rfl) (Nat.le_refl _) (Nat.le_refl _) (c_Out_add hA h1 (by omega)) qV_nt (qV_go (fun i2 hp => ?_))
      refine wf_iinc _ dc_Out_printPart_20 rfl (nI_1 j) (by decide) ?_
      refine wf_goto 3 dc_Out_printPart_23 (by decide) ?_
      refine Wf.to (by exact ⟨rfl, rfl, rfl, rfl, trivial⟩) (ih (j + 1) i2 _ (by omega) (by omega) hp.1 (fr_ss hf hp.2) (by rw [List.length_append]; show p1.length + 1 + k < _; omega) ?_)
      rw [← he, List.append_assoc]
      congr 1
      have hjw : j < w.length := by omega
      rw [List.drop_eq_getElem_cons hjw, List.take_succ_cons, List.getD_eq_getElem?_getD, List.getElem?_eq_getElem hjw]
      rfl
  exact Wf.to (by exact ⟨rfl, rfl, rfl, rfl, trivial⟩) (loop (hi - lo) lo i p (by omega) (by omega) hp fr_rf (by omega) rfl)
theorem c_Out_print {a s b s2 n2 : Nat} {p w : List Int32} (hA : ou_at t r a s) (hp : ou_is i a s p) (hl : p.length < 1999999000) (hB : rw_at t r b s2 n2) (hw : rw_is i b s2 w) (hl2 : w.length ≤ n2) (hs2 : s2 ≠ s ∧ s2 ≠ a ∧ b ≠ s ∧ b ≠ a) :
    Ct l E n0 mt_Out_print (d + 3) 0 0 [.ref a, .ref b] nx t r i g (qV nx t r g (fun i' => ou_is i' a s (p ++ w ++ [10]) ∧ fr_is [a, s] i i')) := by
  have ha := hA.1
  have hb := hB.1
  refine Ct.of (by decide) (Nat.le_of_ble_eq_true rfl) ?_
  refine wf_aload_n dc_Out_print_0 rfl ?_
  refine wf_aload_n dc_Out_print_1 rfl ?_
  refine wf_iconst 0 dc_Out_print_2 (by decide) ?_
  refine wf_aload_n dc_Out_print_3 rfl ?_
  refine wf_geti dc_Out_print_4 fl_Out_15 rfl (by assumption) ?_
  rw [hw.1]
  refine wf_iv3 (M' := mt_Out_printPart) (c := 3) dc_Out_print_7 tg_Out_printPart ml_Out_21 im_Out_printPart se_Out_printPart ⟨_, rfl, rfl⟩ (by assumption) (Nat.le_of_ble_eq_true rfl) (Nat.le_refl _) (Nat.le_refl _) (c_Out_printPart (lo := 0) hA hp hl hB hw hl2 hs2 (Nat.zero_le _) (Nat.le_refl _)) qV_nt (qV_go (fun i2 hp => ?_))
  have h := hp.1
  rw [List.drop_zero, Nat.sub_zero, List.take_length] at h
  exact wf_return rfl dc_Out_print_10 ⟨rfl, rfl, rfl, rfl, rfl, h, hp.2⟩
theorem c_Out_has {a s : Nat} {j : Int32} {p : List Int32} (hA : ou_at t r a s) (hp : ou_is i a s p) : Ct l E n0 mt_Out_has d 0 0 [.ref a, .int j] nx t r i g (qI nx t r g (fun z i' => z = (if ¬ j < 0 ∧ j < nI p.length ∧ nI p.length - 1500 ≤ j then 1 else 0) ∧ i' = i)) := by
  obtain ⟨ha, hr, hs⟩ := hA
  obtain ⟨h1, h2⟩ := hp
  refine Ct.of (by decide) (Nat.le_of_ble_eq_true rfl) ?_
  refine wf_iload_n dc_Out_has_0 rfl ?_
  refine wf_if_lt 28 dc_Out_has_1 (by decide) (fun hc => ?_) (fun hc => ?_)
  · refine wf_iconst 0 dc_Out_has_28 (by decide) ?_
    exact wf_zreturn rfl rfl dc_Out_has_29 ⟨0, rfl, rfl, rfl, rfl, rfl, by rw [if_neg (fun q => q.1 hc)], rfl⟩
  · refine wf_iload_n dc_Out_has_4 rfl ?_
    refine wf_aload_n dc_Out_has_5 rfl ?_
    refine wf_geti dc_Out_has_6 fl_Out_32 rfl (by assumption) ?_
    rw [h1]
    refine wf_icmp_ge 28 dc_Out_has_9 (by decide) (fun hc2 => ?_) (fun hc2 => ?_)
    · refine wf_iconst 0 dc_Out_has_28 (by decide) ?_
      exact wf_zreturn rfl rfl dc_Out_has_29 ⟨0, rfl, rfl, rfl, rfl, rfl, by rw [if_neg (fun q => Int32.not_lt.mpr hc2 q.2.1)], rfl⟩
    · refine wf_iload_n dc_Out_has_12 rfl ?_
      refine wf_aload_n dc_Out_has_13 rfl ?_
      refine wf_geti dc_Out_has_14 fl_Out_32 rfl (by assumption) ?_
      rw [h1]
      refine wf_sipush 1500 dc_Out_has_17 (by decide) ?_
      refine wf_isub dc_Out_has_20 ?_
      refine wf_icmp_lt 28 dc_Out_has_21 (by decide) (fun hc3 => ?_) (fun hc3 => ?_)
      · refine wf_iconst 0 dc_Out_has_28 (by decide) ?_
        exact wf_zreturn rfl rfl dc_Out_has_29 ⟨0, rfl, rfl, rfl, rfl, rfl, by rw [if_neg (fun q => Int32.not_le.mpr hc3 q.2.2)], rfl⟩
      · refine wf_iconst 1 dc_Out_has_24 (by decide) ?_
        refine wf_goto 29 dc_Out_has_25 (by decide) ?_
        exact wf_zreturn rfl rfl dc_Out_has_29 ⟨1, rfl, rfl, rfl, rfl, rfl, by rw [if_pos ⟨hc, Int32.not_le.mp hc2, Int32.not_lt.mp hc3⟩], rfl⟩
theorem c_Out_signAt {a s k : Nat} {p : List Int32} (hA : ou_at t r a s) (hp : ou_is i a s p) (hk : k < p.length) (hk2 : p.length ≤ k + 1500) (hl : p.length < 2000000000) : Ct l E n0 mt_Out_signAt (d + 1) 0 0 [.ref a, .int (nI k)] nx t r i g (qI nx t r g (fun z i' => z = p.getD k 0 ∧ i' = i)) := by
  obtain ⟨ha, hr, hs⟩ := hA
  obtain ⟨h1, h2⟩ := hp
  refine Ct.of (by decide) (Nat.le_of_ble_eq_true rfl) ?_
  refine wf_aload_n dc_Out_signAt_0 rfl ?_
  refine wf_getr dc_Out_signAt_1 fl_Out_9 rfl (by assumption) (by assumption) ?_
  refine wf_iload_n dc_Out_signAt_4 rfl ?_
  refine wf_sipush 1500 dc_Out_signAt_5 (by decide) ?_
  refine wf_is2 (M' := mt_Mth_floorMod) dc_Out_signAt_8 tg_Mth_floorMod ml_Out_35 sm_Mth_floorMod (Nat.le_of_ble_eq_true rfl) (Nat.le_refl _) (Nat.le_refl _) (c_Mth_floorMod (x := k) (y := 1500) (by omega) (by omega) (by omega)) qI_nt (qI_go (fun x2 i2 hp => ?_))
  obtain ⟨rfl, rfl⟩ := hp
  have hm : k % 1500 < 1500 := Nat.mod_lt _ (by omega)
  refine wf_iaload (y := 0) dc_Out_signAt_11 rfl (by assumption) (vp_in_nI hm (by omega)) ?_
  rw [nI_clamp (by omega), h2 k hk hk2]
  exact wf_ireturn rfl dc_Out_signAt_12 ⟨_, rfl, rfl, rfl, rfl, rfl, rfl, rfl⟩
end
