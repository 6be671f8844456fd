/-! the reference: act -/
def ac_S : Ms := rp_S ++ mo_S ++ mK_S ++ [(14, 0, 8)]
theorem ac_no {c lo hi : Nat} (h : (c = 0 ∧ (hi ≤ 15 ∨ (16 ≤ lo ∧ hi ≤ 19) ∨ (20 ≤ lo ∧ hi ≤ 23) ∨ (24 ≤ lo ∧ hi ≤ 26))) ∨ (3 ≤ c ∧ c ≤ 11) ∨ (c = 2 ∧ (hi ≤ 1 ∨ (2 ≤ lo ∧ hi ≤ 8))) ∨ (c = 1 ∧ (hi ≤ 120 ∨ (240 ≤ lo ∧ hi ≤ 960)))) : ms_no ac_S c lo hi := by
  intro q hq z
  unfold ac_S at hq
  rcases List.mem_append.mp hq with hq | hq
  · rcases List.mem_append.mp hq with hq | hq
    · rcases List.mem_append.mp hq with hq | hq
      · exact rp_no (c := c) (lo := lo) (hi := hi) (by omega) q hq z
      · simp only [mo_S, List.mem_cons, List.not_mem_nil, or_false] at hq
        rcases hq with rfl | rfl <;> simp only at z ⊢ <;> omega
    · simp only [mK_S, List.mem_cons, List.not_mem_nil, or_false] at hq
      rcases hq with rfl | rfl | rfl | rfl <;> simp only at z ⊢ <;> omega
  · rw [List.mem_singleton.mp hq] at z ⊢; simp only at z ⊢; omega
theorem ac_rp : ∀ q ∈ rp_S, q ∈ ac_S := fun q hq => by simp [ac_S, hq]
theorem ac_sk : ∀ q ∈ sk_S, q ∈ ac_S := fun q hq => ac_rp q (rp_sk q hq)
theorem ac_r1 : ∀ q ∈ mr_S 1, q ∈ ac_S := fun q hq => ac_rp q (rp_r1 q hq)
theorem ac_r8 : ∀ q ∈ mr_S 8, q ∈ ac_S := fun q hq => ac_rp q (rp_r8 q hq)
theorem ac_F : ∀ q ∈ mF_S, q ∈ ac_S := fun q hq => ac_rp q (rp_F q hq)
theorem ac_o : ∀ q ∈ mo_S, q ∈ ac_S := fun q hq => by simp [ac_S, hq]
theorem ac_K : ∀ q ∈ mK_S, q ∈ ac_S := fun q hq => by simp [ac_S, hq]
def mp_exp (i : Wi) (m : Nat) (sx : Nat → List Int32) : Prop := ∀ k, k < 6 → mx i m k (sx k) ∧ s1 (sx k) ∧ (sx k).length ≤ 60 ∧ ∃ q, ps_read (sx k) = .inr q
def mp_txt (i : Wi) (m : Nat) (tx : Nat → List Int32) : Prop := ∀ k, k < 6 → mr i m (2 + k) (tx k) ∧ s1 (tx k)
def mn_is (i : Wi) (m : Nat) (v : LnS) : Prop := mr i m 1 v.1 ∧ mp_fld i m v.2.1 ∧ mp_cnt i m v.2.2.1 ∧ mp_tab i m v.2.2.2.1 ∧ mp_out i m v.2.2.2.2
def lv_ok (v : LnS) : Prop := s1 v.1 ∧ sF v.2.1 ∧ v.2.1.length ≤ 30 ∧ v.2.2.2.1.length ≤ 40 ∧ sK v.2.2.2.1
theorem fl_add_30 {F : List (List Int32)} {x : List Int32} (h : F.length ≤ 30) : (fl_add F x).length ≤ 30 := by
  unfold fl_add
  split
  · rw [List.length_append, List.length_singleton]; omega
  · exact h
theorem fl_go_30 {W : List Int32} {sp : Int32} (k : Nat) : ∀ (j b : Nat) (F : List (List Int32)), F.length ≤ 30 → (fl_go W sp k j b F).length ≤ 30 := by
  induction k with
  | zero => exact fun j b F h => h
  | succ k ih =>
    intro j b F h
    unfold fl_go
    split
    · exact ih _ _ _ (by split <;> first | exact fl_add_30 h | exact h)
    · exact ih _ _ _ h
theorem fl_cut_30 (W : List Int32) (sp : Int32) : (fl_cut W sp).length ≤ 30 := fl_go_30 _ _ _ _ (Nat.zero_le _)
theorem kt_grow_40 {K : KtS} {v : List Int32} {x : Int32} (h : K.length ≤ 40) : (kt_grow v x K).length ≤ 40 := by
  unfold kt_grow
  split
  · rw [List.length_set]; exact h
  · split
    · rw [List.length_append, List.length_cons, List.length_take, List.length_drop]; omega
    · exact h
section
variable {l : Launch} {E : We} {n0 d nx : Nat} {t : Wt} {r : Wr} {i i1 i2 : Wi} {g : Wl} {m : Nat} {S : Ms}
theorem mp_exp.fr {sx : Nat → List Int32} (h : mp_exp i m sx) (hf : mf m S i i1) (hs : ∀ q ∈ S, q.1 ≠ 3 ∧ q.1 ≠ 4) : mp_exp i1 m sx := fun k hk => ⟨(h k hk).1.fr hf hs, (h k hk).2⟩
theorem mp_exp.ac {sx : Nat → List Int32} (h : mp_exp i m sx) (hf : mf m ac_S i i1) : mp_exp i1 m sx := fun k hk => ⟨⟨(hf.at (ac_no (by omega))).trans (h k hk).1.1, (h k hk).1.2.fr hf (ac_no (by omega))⟩, (h k hk).2⟩
theorem mp_txt.ac {tx : Nat → List Int32} (h : mp_txt i m tx) (hf : mf m ac_S i i1) : mp_txt i1 m tx := fun k hk => ⟨(h k hk).1.fr hf (h k hk).2.1 (ac_no (by omega)) (ac_no (by omega)), (h k hk).2⟩
theorem mn_is.r8 {v : LnS} (h : mn_is i m v) (hl : v.1.length ≤ 120) (hf : mf m (mr_S 8) i i1) : mn_is i1 m v := by
  have ne : ∀ c, 3 ≤ c → ∀ q ∈ mr_S 8, q.1 ≠ c := fun c hc q hq => by
    simp only [mr_S, List.mem_cons, List.not_mem_nil, or_false] at hq
    rcases hq with rfl | rfl <;> simp only <;> omega
  obtain ⟨h1, h2, h3, h4, h5⟩ := h
  exact ⟨h1.fr hf hl (mr_no (by omega)).1 (mr_no (by omega)).2, h2.mr hf, h3.fr hf (ne 14 (by omega)), h4.fr hf (by simp [ms_no, mr_S]) (fun c c1 c2 => ne c (by omega)), h5.fr hf (by simp [ms_no, mr_S]) (ne 18 (by omega))⟩
theorem mn_is.sk {v : LnS} (h : mn_is i m v) (hl : v.1.length ≤ 120) (hf : mf m sk_S i i1) : mn_is i1 m v := by
  obtain ⟨h1, h2, h3, h4, h5⟩ := h
  exact ⟨h1.sk hf hl, h2.fr hf (sk_no0 (by omega)) (fun c c1 c2 => sk_ne (by omega)), h3.fr hf (sk_ne (by omega)), h4.fr hf (sk_no0 (by omega)) (fun c c1 c2 => sk_ne (by omega)), h5.fr hf (sk_no0 (by omega)) (sk_ne (by omega))⟩
theorem mn_is.o {v : LnS} {out' : List Int32} (h : mn_is i m v) (hl : v.1.length ≤ 120) (hf : mf m mo_S i i1) (ho : mp_out i1 m out') : mn_is i1 m (v.1, v.2.1, v.2.2.1, v.2.2.2.1, out') := by
  have ne : ∀ c, 1 ≤ c → c ≤ 17 → ∀ q ∈ mo_S, q.1 ≠ c := fun c hc hc2 q hq => by
    simp only [mo_S, List.mem_cons, List.not_mem_nil, or_false] at hq
    rcases hq with rfl | rfl <;> simp only <;> omega
  obtain ⟨h1, h2, h3, h4, h5⟩ := h
  exact ⟨h1.fr hf hl (fun q hq z => absurd z (ne 2 (by omega) (by omega) q hq)) (fun q hq z => absurd z (ne 1 (by omega) (by omega) q hq)), h2.fr hf (by simp [ms_no, mo_S]) (fun c c1 c2 => ne c (by omega) (by omega)), h3.fr hf (ne 14 (by omega) (by omega)), h4.fr hf (by simp [ms_no, mo_S]) (fun c c1 c2 => ne c (by omega) (by omega)), ho⟩
theorem mn_is.F {v : LnS} {W' : List Int32} {F' : List (List Int32)} (h : mn_is i m v) (hf : mf m rp_S i i1) (hW : mr i1 m 1 W') (hF : mp_fld i1 m F') : mn_is i1 m (W', F', v.2.2) := by
  have ne : ∀ c, 14 ≤ c → c ≤ 18 → ∀ q ∈ rp_S, q.1 ≠ c := fun c hc hc2 q hq z => by
    have := rp_no (c := c) (lo := q.2.1) (hi := q.2.2) (by omega) q hq z
    simp only [rp_S, sk_S, mr_S, mF_S, List.mem_append, List.mem_cons, List.not_mem_nil, or_false] at hq
    rcases hq with ((hq | hq) | hq) | hq
    · rcases hq with rfl | rfl | rfl | rfl | rfl | rfl | rfl | rfl | rfl | rfl | rfl <;> simp only at z <;> omega
    · rcases hq with rfl | rfl <;> simp only at z <;> omega
    · rcases hq with rfl | rfl <;> simp only at z <;> omega
    · rcases hq with rfl | rfl | rfl <;> simp only at z <;> omega
  obtain ⟨h1, h2, h3, h4, h5⟩ := h
  exact ⟨hW, hF, h3.fr hf (ne 14 (by omega) (by omega)), h4.fr hf (rp_no (by omega)) (fun c c1 c2 => ne c (by omega) (by omega)), h5.fr hf (rp_no (by omega)) (ne 18 (by omega) (by omega))⟩
theorem mn_is.K {v : LnS} {K' : KtS} (h : mn_is i m v) (hl : v.1.length ≤ 120) (hf : mf m mK_S i i1) (hK : mp_tab i1 m K') : mn_is i1 m (v.1, v.2.1, v.2.2.1, K', v.2.2.2.2) := by
  have ne : ∀ c, (1 ≤ c ∧ c ≤ 14) ∨ c = 18 → ∀ q ∈ mK_S, q.1 ≠ c := fun c hc q hq => by
    simp only [mK_S, List.mem_cons, List.not_mem_nil, or_false] at hq
    rcases hq with rfl | rfl | rfl | rfl <;> simp only <;> omega
  obtain ⟨h1, h2, h3, h4, h5⟩ := h
  exact ⟨h1.fr hf hl (fun q hq z => absurd z (ne 2 (by omega) q hq)) (fun q hq z => absurd z (ne 1 (by omega) q hq)), h2.fr hf (by simp [ms_no, mK_S]) (fun c c1 c2 => ne c (by omega)), h3.fr hf (ne 14 (by omega)), hK, h5.fr hf (by simp [ms_no, mK_S]) (ne 18 (by omega))⟩
theorem mn_is.C {v : LnS} {k : Nat} {x : Int32} (h : mn_is i m v) (hl : v.1.length ≤ 120) (hk : k < 8) : mn_is (wf_up i (m + 14) k x) m (v.1, v.2.1, co_up v.2.2.1 k x, v.2.2.2) := by
  have hf : mf m [(14, 0, 8)] i (wf_up i (m + 14) k x) := mf_up mf_rf ⟨(14, 0, 8), by simp, rfl, Nat.zero_le _, by simp only; omega⟩
  have ne : ∀ c, c ≠ 14 → ∀ q ∈ ([(14, 0, 8)] : Ms), q.1 ≠ c := fun c hc q hq => by
    rw [List.mem_singleton.mp hq]; simp only; omega
  obtain ⟨h1, h2, h3, h4, h5⟩ := h
  refine ⟨h1.fr hf hl (fun q hq z => absurd z (ne 2 (by omega) q hq)) (fun q hq z => absurd z (ne 1 (by omega) q hq)), h2.fr hf (by simp [ms_no]) (fun c c1 c2 => ne c (by omega)), fun j hj => ?_, h4.fr hf (by simp [ms_no]) (fun c c1 c2 => ne c (by omega)), h5.fr hf (by simp [ms_no]) (ne 18 (by omega))⟩
  show _ = co_up v.2.2.1 k x j
  unfold co_up
  by_cases hjk : j = k
  · rw [if_pos hjk, hjk, wf_up_s]
  · rw [if_neg hjk, wf_up_k hjk]
    exact h3 j hj
theorem ac_cases {p a c : Int32} (ho : ac_ok p a c = true) : ∃ j, j ≤ 12 ∧ p = nI j := by
  rcases tw_in (x := p) (n := 12) (by omega) with h | h
  · exfalso
    have ne : ∀ j : Nat, j ≤ 12 → ¬ p = nI j := fun j hj z => by rw [z, nI_toInt (by omega)] at h; omega
    have n0 : ¬ p = 0 := ne 0 (by omega)
    have n1 : ¬ p = 1 := ne 1 (by omega)
    have n2 : ¬ p = 2 := ne 2 (by omega)
    have n3 : ¬ p = 3 := ne 3 (by omega)
    have n4 : ¬ p = 4 := ne 4 (by omega)
    have n5 : ¬ p = 5 := ne 5 (by omega)
    have n6 : ¬ p = 6 := ne 6 (by omega)
    have n7 : ¬ p = 7 := ne 7 (by omega)
    have n8 : ¬ p = 8 := ne 8 (by omega)
    have n9 : ¬ p = 9 := ne 9 (by omega)
    have n10 : ¬ p = 10 := ne 10 (by omega)
    have n11 : ¬ p = 11 := ne 11 (by omega)
    have n12 : ¬ p = 12 := ne 12 (by omega)
    rw [ac_ok, if_neg (fun z => z.elim n0 n10), if_neg (fun z => z.elim n1 n3), if_neg (fun z => z.elim n2 n5), if_neg n4, if_neg (fun z => z.elim n6 n7), if_neg n8, if_neg (fun z => z.elim n9 (fun z => z.elim n11 n12))] at ho
    cases ho
  · exact h
theorem fdn_s1 {F : List (List Int32)} (h : sF F) (f : Nat) (h1 : 1 ≤ f) : s1 (fdn F f) := by
  unfold fdn
  split
  · exact sF_d h _ (by omega)
  · exact s1_nil
theorem c_Mod_act {sx tx : Nat → List Int32} {sp : Int32} {lc : Nat} {p a c : Int32} {v : LnS} (hA : mo_at t r m) (hX : mp_exp i m sx) (hT : mp_txt i m tx) (hL : i (m + 0) 14 = nI lc) (hS : i (m + 0) 5 = sp) (hI : mn_is i m v) (hv : lv_ok v) (ho : ac_ok p a c = true) (hl : v.2.2.2.2.length < 1999998000) : Ct l E n0 mt_Mod_act (d + 5) 0 0 [.ref (m + 0), .int p, .int a, .int c] nx t r i g (qV nx t r g (fun i' => mn_is i' m (da_of sx tx sp lc p a c v) ∧ mf m ac_S i i')) := by
  have t0 := hA.1.1
  have r2 : r (m + 0) 2 = some (m + 2) := hA.2 (0, 2, 2) (by decide +kernel)
  have t2 := hA.1.2 2 (2, .inr (0, 9)) (by decide +kernel)
  have r18 : r (m + 0) 18 = some (m + 14) := hA.2 (0, 18, 14) (by decide +kernel)
  have t14 := hA.1.2 14 (14, .inr (0, 8)) (by decide +kernel)
  obtain ⟨W, F, co, K, out⟩ := v
  obtain ⟨v1, v2, v3, v4, v5⟩ := hv
  simp only at v1 v2 v3 v4 v5 hl
  have hW1 := v1.1
  have hI' := hI
  obtain ⟨hW, hF, hN, hK, hO⟩ := hI
  simp only at hW hF hN hK hO
  have h120 : ∀ k, k < F.length → (F.getD k []).length ≤ 120 := fun k hk => (sF_d v2 k hk).1
  have i14 : ∀ {k : Nat}, k < 8 → ms_in ac_S 14 k (k + 1) := fun hk => ⟨(14, 0, 8), by simp [ac_S], rfl, Nat.zero_le _, by simp only; omega⟩
  obtain ⟨j, hj, rfl⟩ := ac_cases ho
  refine Ct.of (by decide) (Nat.le_of_ble_eq_true rfl) ?_
  refine wf_iload_n dc_Mod_act_0 rfl ?_
  have hc : j = 0 ∨ j = 1 ∨ j = 2 ∨ j = 3 ∨ j = 4 ∨ j = 5 ∨ j = 6 ∨ j = 7 ∨ j = 8 ∨ j = 9 ∨ j = 10 ∨ j = 11 ∨ j = 12 := by omega
  rcases hc with z | z | z | z | z | z | z | z | z | z | z | z | z <;> subst z
  · refine wf_tableIn (off := 67) 68 dc_Mod_act_1 (by decide) (by decide) rfl (by decide) ?_
    refine wf_aload_n dc_Mod_act_68 rfl ?_
    refine wf_iconst 1 dc_Mod_act_69 (by decide) ?_
    refine wf_iconst 0 dc_Mod_act_70 (by decide) ?_
    refine wf_aload_n dc_Mod_act_71 rfl ?_
    refine wf_getr dc_Mod_act_72 fl_Mod_13 rfl (by assumption) (by assumption) ?_
    refine wf_iconst 1 dc_Mod_act_75 (by decide) ?_
    refine wf_iaload (y := 0) dc_Mod_act_76 rfl (by assumption) (vp_in_nI (n := 1) (by omega) (by omega)) ?_
    rw [show i (m + 2) (Int32.toNatClampNeg 1) = nI W.length from hW.1]
    refine wf_iv3 (M' := mt_Mod_printRow) (c := 8) dc_Mod_act_77 tg_Mod_printRow ml_Mod_218 im_Mod_printRow se_Mod_printRow ⟨_, rfl, rfl⟩ (by assumption) (Nat.le_of_ble_eq_true rfl) (Nat.le_refl _) (Nat.le_refl _) (c_Mod_printRow (k := 1) (lo := 0) hA hO (by omega) (by omega) hW hW1 (by omega) (Nat.le_refl _)) qV_nt (qV_go (fun i2 hp => ?_))
    refine wf_goto 262 dc_Mod_act_80 (by decide) ?_
    obtain ⟨e1, e2⟩ := hp
    rw [List.drop_zero, List.take_of_length_le (l := W) (by omega)] at e1
    exact wf_return rfl dc_Mod_act_262 ⟨rfl, rfl, rfl, rfl, rfl, hI'.o hW1 e2 e1, mf_mo e2 (ms_sub ac_o)⟩
  · refine wf_tableIn (off := 82) 83 dc_Mod_act_1 (by decide) (by decide) rfl (by decide) ?_
    obtain ⟨a', ha1, ha30, rfl⟩ := bw_n (lo := 1) (hi := 30) ho
    have hfd := fdn_s1 v2 a' ha1
    refine wf_aload_n dc_Mod_act_83 rfl ?_
    refine wf_iload_n dc_Mod_act_84 rfl ?_
    refine wf_iv1 (M' := mt_Mod_fieldToRow) (c := 8) dc_Mod_act_85 tg_Mod_fieldToRow ml_Mod_222 im_Mod_fieldToRow se_Mod_fieldToRow ⟨_, rfl, rfl⟩ (by assumption) (Nat.le_of_ble_eq_true rfl) (Nat.le_refl _) (Nat.le_refl _) (c_Mod_fieldToRow hA hF v3 ha1 ha30 hfd.1) qV_nt (qV_go (fun i2 hp => ?_))
    obtain ⟨e1, e2⟩ := hp
    have hI2 := hI'.r8 hW1 e2
    refine wf_aload_n dc_Mod_act_88 rfl ?_
    refine wf_bipush 8 dc_Mod_act_89 (by decide) ?_
    refine wf_iconst 0 dc_Mod_act_91 (by decide) ?_
    refine wf_aload_n dc_Mod_act_92 rfl ?_
    refine wf_getr dc_Mod_act_93 fl_Mod_13 rfl (by assumption) (by assumption) ?_
    refine wf_bipush 8 dc_Mod_act_96 (by decide) ?_
    refine wf_iaload (y := 0) dc_Mod_act_98 rfl (by assumption) (vp_in_nI (n := 8) (by omega) (by omega)) ?_
    rw [show i2 (m + 2) (Int32.toNatClampNeg 8) = nI (fdn F a').length from e1.1]
    refine wf_iv3 (M' := mt_Mod_printRow) (c := 8) dc_Mod_act_99 tg_Mod_printRow ml_Mod_218 im_Mod_printRow se_Mod_printRow ⟨_, rfl, rfl⟩ (by assumption) (Nat.le_of_ble_eq_true rfl) (Nat.le_refl _) (Nat.le_refl _) (c_Mod_printRow (k := 8) (lo := 0) hA hI2.2.2.2.2 (by simp only; omega) (by omega) e1 hfd.1 (by omega) (Nat.le_refl _)) qV_nt (qV_go (fun i2 hp => ?_))
    refine wf_goto 262 dc_Mod_act_102 (by decide) ?_
    obtain ⟨e3, e4⟩ := hp
    rw [List.drop_zero, List.take_of_length_le (l := fdn F a') (by omega)] at e3
    refine wf_return rfl dc_Mod_act_262 ⟨rfl, rfl, rfl, rfl, rfl, ?_, mf_ss (mf_mo e2 (ms_sub ac_r8)) (mf_mo e4 (ms_sub ac_o))⟩
    have := hI2.o hW1 e4 e3
    show mn_is _ m (W, F, co, K, out ++ fld F (nI a') ++ [10])
    rw [fld_n ha1 (by omega)]
    exact this
  · refine wf_tableIn (off := 104) 105 dc_Mod_act_1 (by decide) (by decide) rfl (by decide) ?_
    have ho2 : (bw a 1 30 && bw c 0 7) = true := ho
    rw [Bool.and_eq_true] at ho2
    obtain ⟨a', ha1, ha30, rfl⟩ := bw_n (lo := 1) (hi := 30) ho2.1
    obtain ⟨c', -, hc7, rfl⟩ := bw_n (lo := 0) (hi := 7) ho2.2
    have hcl : (nI c').toNatClampNeg = c' := nI_clamp (by omega)
    have hfd := fdn_s1 v2 a' ha1
    refine wf_aload_n dc_Mod_act_105 rfl ?_
    refine wf_getr dc_Mod_act_106 fl_Mod_53 rfl (by assumption) (by assumption) ?_
    refine wf_iload_n dc_Mod_act_109 rfl ?_
    refine wf_aload_n dc_Mod_act_110 rfl ?_
    refine wf_getr dc_Mod_act_111 fl_Mod_53 rfl (by assumption) (by assumption) ?_
    refine wf_iload_n dc_Mod_act_114 rfl ?_
    refine wf_iaload (y := 0) dc_Mod_act_115 rfl (by assumption) (vp_in_nI (by omega) (by omega)) ?_
    rw [hcl, hN c' (by omega)]
    refine wf_aload_n dc_Mod_act_116 rfl ?_
    refine wf_iload_n dc_Mod_act_117 rfl ?_
    refine wf_iv1 (M' := mt_Mod_numberOf) (c := 8) dc_Mod_act_118 tg_Mod_numberOf ml_Mod_225 im_Mod_numberOf se_Mod_numberOf ⟨_, rfl, rfl⟩ (by assumption) (Nat.le_of_ble_eq_true rfl) (Nat.le_refl _) (Nat.le_refl _) (c_Mod_numberOf hA hF v3 ha1 ha30 hfd.1) qI_nt (qI_go (fun x2 i2 hp => ?_))
    obtain ⟨rfl, hq⟩ := hp
    subst i2
    refine wf_iadd dc_Mod_act_121 ?_
    refine wf_iastore (y := 0) dc_Mod_act_122 rfl (by decide) (by assumption) (vp_in_nI (by omega) (by omega)) ?_
    rw [hcl]
    refine wf_goto 262 dc_Mod_act_123 (by decide) ?_
    refine wf_return rfl dc_Mod_act_262 ⟨rfl, rfl, rfl, rfl, rfl, ?_, mf_up mf_rf (i14 (by omega))⟩
    have := hI'.C (k := c') (x := co c' + nu_of (fdn F a')) hW1 (by omega)
    show mn_is _ m (W, F, co_up co (nI c').toNatClampNeg (co (nI c').toNatClampNeg + nu_of (fld F (nI a'))), K, out)
    rw [fld_n ha1 (by omega), hcl]
    exact this
  · refine wf_tableIn (off := 125) 126 dc_Mod_act_1 (by decide) (by decide) rfl (by decide) ?_
    obtain ⟨a', ha1, ha30, rfl⟩ := bw_n (lo := 1) (hi := 30) ho
    have hfd := fdn_s1 v2 a' ha1
    refine wf_aload_n dc_Mod_act_126 rfl ?_
    refine wf_iload_n dc_Mod_act_127 rfl ?_
    refine wf_iload_n dc_Mod_act_128 rfl ?_
    refine wf_iv2 (M' := mt_Mod_grow) (c := 8) dc_Mod_act_129 tg_Mod_grow ml_Mod_228 im_Mod_grow se_Mod_grow ⟨_, rfl, rfl⟩ (by assumption) (Nat.le_of_ble_eq_true rfl) (Nat.le_refl _) (Nat.le_refl _) (c_Mod_grow hA hF v3 ha1 ha30 hfd hK v4 (sK_d v5)) qV_nt (qV_go (fun i2 hp => ?_))
    refine wf_goto 262 dc_Mod_act_132 (by decide) ?_
    obtain ⟨e1, e2⟩ := hp
    refine wf_return rfl dc_Mod_act_262 ⟨rfl, rfl, rfl, rfl, rfl, ?_, mf_mo e2 (ms_sub ac_K)⟩
    have := hI'.K hW1 e2 e1
    show mn_is _ m (W, F, co, kt_grow (fld F (nI a')) c K, out)
    rw [fld_n ha1 (by omega)]
    exact this
  · refine wf_tableIn (off := 134) 135 dc_Mod_act_1 (by decide) (by decide) rfl (by decide) ?_
    have ho2 : (bw a 1 30 && bw c 1 30) = true := ho
    rw [Bool.and_eq_true] at ho2
    obtain ⟨a', ha1, ha30, rfl⟩ := bw_n (lo := 1) (hi := 30) ho2.1
    obtain ⟨c', hc1, hc30, rfl⟩ := bw_n (lo := 1) (hi := 30) ho2.2
    have hfd := fdn_s1 v2 c' hc1
    refine wf_aload_n dc_Mod_act_135 rfl ?_
    refine wf_iload_n dc_Mod_act_136 rfl ?_
    refine wf_iv1 (M' := mt_Mod_fieldToRow) (c := 8) dc_Mod_act_137 tg_Mod_fieldToRow ml_Mod_222 im_Mod_fieldToRow se_Mod_fieldToRow ⟨_, rfl, rfl⟩ (by assumption) (Nat.le_of_ble_eq_true rfl) (Nat.le_refl _) (Nat.le_refl _) (c_Mod_fieldToRow hA hF v3 hc1 hc30 hfd.1) qV_nt (qV_go (fun i2 hp => ?_))
    obtain ⟨e1, e2⟩ := hp
    have hI2 := hI'.r8 hW1 e2
    have hS2 : i2 (m + 0) 5 = sp := (e2.at (by simp [ms_no, mr_S])).trans hS
    refine wf_aload_n dc_Mod_act_140 rfl ?_
    refine wf_iload_n dc_Mod_act_141 rfl ?_
    refine wf_iv1 (M' := mt_Mod_setField) (c := 8) dc_Mod_act_142 tg_Mod_setField ml_Mod_231 im_Mod_setField se_Mod_setField ⟨_, rfl, rfl⟩ (by assumption) (Nat.le_of_ble_eq_true rfl) (Nat.le_refl _) (Nat.le_refl _) (c_Mod_setField hA hI2.2.1 v3 h120 ha1 ha30 e1 hfd.1 hS2) qV_nt (qV_go (fun i2 hp => ?_))
    refine wf_goto 262 dc_Mod_act_145 (by decide) ?_
    obtain ⟨e3, e4, e5⟩ := hp
    have e6 := mf_mo (S' := rp_S) e5 (ms_sub (fun q hq => (List.mem_append.mp hq).elim (rp_F q) (rp_r1 q)))
    refine wf_return rfl dc_Mod_act_262 ⟨rfl, rfl, rfl, rfl, rfl, ?_, mf_ss (mf_mo e2 (ms_sub ac_r8)) (mf_mo e6 (ms_sub ac_rp))⟩
    have := hI2.F e6 e4 e3
    show mn_is _ m ((fl_cat sp ((fl_fill F (nI a').toNatClampNeg).set ((nI a').toNatClampNeg - 1) (fld F (nI c')))).take 120, (fl_fill F (nI a').toNatClampNeg).set ((nI a').toNatClampNeg - 1) (fld F (nI c')), co, K, out)
    rw [nI_clamp (show a' < 2 ^ 31 by omega), fld_n hc1 (by omega)]
    exact this
  · refine wf_tableIn (off := 147) 148 dc_Mod_act_1 (by decide) (by decide) rfl (by decide) ?_
    have ho2 : (bw a 1 30 && bw c 0 7) = true := ho
    rw [Bool.and_eq_true] at ho2
    obtain ⟨a', ha1, ha30, rfl⟩ := bw_n (lo := 1) (hi := 30) ho2.1
    obtain ⟨c', -, hc7, rfl⟩ := bw_n (lo := 0) (hi := 7) ho2.2
    have hcl : (nI c').toNatClampNeg = c' := nI_clamp (by omega)
    refine wf_aload_n dc_Mod_act_148 rfl ?_
    refine wf_aload_n dc_Mod_act_149 rfl ?_
    refine wf_getr dc_Mod_act_150 fl_Mod_53 rfl (by assumption) (by assumption) ?_
    refine wf_iload_n dc_Mod_act_153 rfl ?_
    refine wf_iaload (y := 0) dc_Mod_act_154 rfl (by assumption) (vp_in_nI (by omega) (by omega)) ?_
    rw [hcl, hN c' (by omega)]
    refine wf_iv1 (M' := mt_Mod_spell) (c := 8) dc_Mod_act_155 tg_Mod_spell ml_Mod_234 im_Mod_spell se_Mod_spell ⟨_, rfl, rfl⟩ (by assumption) (Nat.le_of_ble_eq_true rfl) (Nat.le_refl _) (Nat.le_refl _) (c_Mod_spell (x := co c') hA) qV_nt (qV_go (fun i2 hp => ?_))
    obtain ⟨e1, e2⟩ := hp
    have hI2 := hI'.r8 hW1 e2
    have hS2 : i2 (m + 0) 5 = sp := (e2.at (by simp [ms_no, mr_S])).trans hS
    refine wf_aload_n dc_Mod_act_158 rfl ?_
    refine wf_iload_n dc_Mod_act_159 rfl ?_
    refine wf_iv1 (M' := mt_Mod_setField) (c := 8) dc_Mod_act_160 tg_Mod_setField ml_Mod_231 im_Mod_setField se_Mod_setField ⟨_, rfl, rfl⟩ (by assumption) (Nat.le_of_ble_eq_true rfl) (Nat.le_refl _) (Nat.le_refl _) (c_Mod_setField hA hI2.2.1 v3 h120 ha1 ha30 e1 (s1_nm _).1.1 hS2) qV_nt (qV_go (fun i2 hp => ?_))
    refine wf_goto 262 dc_Mod_act_163 (by decide) ?_
    obtain ⟨e3, e4, e5⟩ := hp
    have e6 := mf_mo (S' := rp_S) e5 (ms_sub (fun q hq => (List.mem_append.mp hq).elim (rp_F q) (rp_r1 q)))
    refine wf_return rfl dc_Mod_act_262 ⟨rfl, rfl, rfl, rfl, rfl, ?_, mf_ss (mf_mo e2 (ms_sub ac_r8)) (mf_mo e6 (ms_sub ac_rp))⟩
    have := hI2.F e6 e4 e3
    show mn_is _ m ((fl_cat sp ((fl_fill F (nI a').toNatClampNeg).set ((nI a').toNatClampNeg - 1) (nm_of (co (nI c').toNatClampNeg)))).take 120, (fl_fill F (nI a').toNatClampNeg).set ((nI a').toNatClampNeg - 1) (nm_of (co (nI c').toNatClampNeg)), co, K, out)
    rw [nI_clamp (show a' < 2 ^ 31 by omega), hcl]
    exact this
  · refine wf_tableIn (off := 165) 166 dc_Mod_act_1 (by decide) (by decide) rfl (by decide) ?_
    have ho2 : (bw a 0 5 && bw c 0 5) = true := ho
    rw [Bool.and_eq_true] at ho2
    obtain ⟨a', -, ha5, rfl⟩ := bw_n (lo := 0) (hi := 5) ho2.1
    obtain ⟨c', -, hc5, rfl⟩ := bw_n (lo := 0) (hi := 5) ho2.2
    have hcl : (nI a').toNatClampNeg = a' := nI_clamp (by omega)
    have hcl2 : (nI c').toNatClampNeg = c' := nI_clamp (by omega)
    obtain ⟨x1, x2, x3, x4⟩ := hX a' (by omega)
    obtain ⟨y1, y2⟩ := hT c' (by omega)
    refine wf_aload_n dc_Mod_act_166 rfl ?_
    refine wf_iload_n dc_Mod_act_167 rfl ?_
    refine wf_iload_n dc_Mod_act_168 rfl ?_
    refine wf_iload_n dc_Mod_act_169 rfl ?_
    refine wf_bipush 7 dc_Mod_act_170 (by decide) ?_
    refine wf_icmp_ne 179 dc_Mod_act_172 (by decide) (fun hc => ?_) (fun hc => absurd hc (by decide))
    refine wf_iconst 0 dc_Mod_act_179 (by decide) ?_
    refine wf_iv3 (M' := mt_Mod_replace) (c := 8) dc_Mod_act_180 tg_Mod_replace ml_Mod_237 im_Mod_replace se_Mod_replace ⟨_, rfl, rfl⟩ (by assumption) (Nat.le_of_ble_eq_true rfl) (Nat.le_refl _) (Nat.le_refl _) (c_Mod_replace (all := false) hA x1 (by omega) x3 x2 x4 hW v1 (by omega) y1 y2.1 hS) qV_nt (qV_go (fun i2 hp => ?_))
    refine wf_goto 262 dc_Mod_act_183 (by decide) ?_
    obtain ⟨e3, e4, e5⟩ := hp
    refine wf_return rfl dc_Mod_act_262 ⟨rfl, rfl, rfl, rfl, rfl, ?_, mf_mo e5 (ms_sub ac_rp)⟩
    have := hI'.F e5 e3 e4
    show mn_is _ m ((rp_go (ps_rel (sx (nI a').toNatClampNeg)) W (tx (nI c').toNatClampNeg) 1 0 (fd_of (ps_rel (sx (nI a').toNatClampNeg)) W 0) []).take 120, fl_cut ((rp_go (ps_rel (sx (nI a').toNatClampNeg)) W (tx (nI c').toNatClampNeg) 1 0 (fd_of (ps_rel (sx (nI a').toNatClampNeg)) W 0) []).take 120) sp, co, K, out)
    rw [hcl, hcl2]
    exact this
  · refine wf_tableIn (off := 165) 166 dc_Mod_act_1 (by decide) (by decide) rfl (by decide) ?_
    have ho2 : (bw a 0 5 && bw c 0 5) = true := ho
    rw [Bool.and_eq_true] at ho2
    obtain ⟨a', -, ha5, rfl⟩ := bw_n (lo := 0) (hi := 5) ho2.1
    obtain ⟨c', -, hc5, rfl⟩ := bw_n (lo := 0) (hi := 5) ho2.2
    have hcl : (nI a').toNatClampNeg = a' := nI_clamp (by omega)
    have hcl2 : (nI c').toNatClampNeg = c' := nI_clamp (by omega)
    obtain ⟨x1, x2, x3, x4⟩ := hX a' (by omega)
    obtain ⟨y1, y2⟩ := hT c' (by omega)
    refine wf_aload_n dc_Mod_act_166 rfl ?_
    refine wf_iload_n dc_Mod_act_167 rfl ?_
    refine wf_iload_n dc_Mod_act_168 rfl ?_
    refine wf_iload_n dc_Mod_act_169 rfl ?_
    refine wf_bipush 7 dc_Mod_act_170 (by decide) ?_
    refine wf_icmp_ne 179 dc_Mod_act_172 (by decide) (fun hc => absurd rfl hc) (fun hc => ?_)
    refine wf_iconst 1 dc_Mod_act_175 (by decide) ?_
    refine wf_goto 180 dc_Mod_act_176 (by decide) ?_
    refine wf_iv3 (M' := mt_Mod_replace) (c := 8) dc_Mod_act_180 tg_Mod_replace ml_Mod_237 im_Mod_replace se_Mod_replace ⟨_, rfl, rfl⟩ (by assumption) (Nat.le_of_ble_eq_true rfl) (Nat.le_refl _) (Nat.le_refl _) (c_Mod_replace (all := true) hA x1 (by omega) x3 x2 x4 hW v1 (by omega) y1 y2.1 hS) qV_nt (qV_go (fun i2 hp => ?_))
    refine wf_goto 262 dc_Mod_act_183 (by decide) ?_
    obtain ⟨e3, e4, e5⟩ := hp
    refine wf_return rfl dc_Mod_act_262 ⟨rfl, rfl, rfl, rfl, rfl, ?_, mf_mo e5 (ms_sub ac_rp)⟩
    have := hI'.F e5 e3 e4
    show mn_is _ m ((rp_go (ps_rel (sx (nI a').toNatClampNeg)) W (tx (nI c').toNatClampNeg) 121 0 (fd_of (ps_rel (sx (nI a').toNatClampNeg)) W 0) []).take 120, fl_cut ((rp_go (ps_rel (sx (nI a').toNatClampNeg)) W (tx (nI c').toNatClampNeg) 121 0 (fd_of (ps_rel (sx (nI a').toNatClampNeg)) W 0) []).take 120) sp, co, K, out)
    rw [hcl, hcl2]
    exact this
  · refine wf_tableIn (off := 185) 186 dc_Mod_act_1 (by decide) (by decide) rfl (by decide) ?_
    obtain ⟨a', -, ha5, rfl⟩ := bw_n (lo := 0) (hi := 5) ho
    have hcl : (nI a').toNatClampNeg = a' := nI_clamp (by omega)
    obtain ⟨x1, x2, x3, x4⟩ := hX a' (by omega)
    have hgl : mn_is i m (W, F, co, K, out ++ pm_of (ps_rel (sx (nI a').toNatClampNeg)) W) = mn_is i m (da_of sx tx sp lc (nI 8) (nI a') c (W, F, co, K, out)) := rfl
    refine wf_aload_n dc_Mod_act_186 rfl ?_
    refine wf_iload_n dc_Mod_act_187 rfl ?_
    refine wf_iconst 1 dc_Mod_act_188 (by decide) ?_
    refine wf_iconst 0 dc_Mod_act_189 (by decide) ?_
    refine wf_iv3 (M' := mt_Mod_seek) (c := 8) dc_Mod_act_190 tg_Mod_seek ml_Mod_212 im_Mod_seek se_Mod_seek ⟨_, rfl, rfl⟩ (by assumption) (Nat.le_of_ble_eq_true rfl) (Nat.le_refl _) (Nat.le_refl _) (c_Mod_seek (k := a') (a := 1) (b := 0) hA x1 (by omega) x3 x2 x4 (by omega) hW v1 (by omega)) qI_nt (qI_go (fun x2 i2 hp => ?_))
    obtain ⟨hsk, hfr⟩ := hp
    have hI2 := hI'.sk hW1 hfr
    rcases hsk with ⟨h1, rfl⟩ | ⟨q, e, h1, h2, rfl, h4, h5, h6, h7⟩
    · refine wf_if_eq 262 dc_Mod_act_193 (by decide) (fun hc => ?_) (fun hc => absurd rfl hc)
      refine wf_return rfl dc_Mod_act_262 ⟨rfl, rfl, rfl, rfl, rfl, ?_, mf_mo hfr (ms_sub ac_sk)⟩
      show mn_is _ m (W, F, co, K, out ++ pm_of (ps_rel (sx (nI a').toNatClampNeg)) W)
      rw [hcl, pm_of, h1]
      dsimp only
      rw [List.append_nil]
      exact hI2
    · refine wf_if_eq 262 dc_Mod_act_193 (by decide) (fun hc => absurd hc (by decide)) (fun hc => ?_)
      refine wf_aload_n dc_Mod_act_196 rfl ?_
      refine wf_iconst 1 dc_Mod_act_197 (by decide) ?_
      refine wf_aload_n dc_Mod_act_198 rfl ?_
      refine wf_geti dc_Mod_act_199 fl_Mod_160 rfl (by assumption) ?_
      refine wf_aload_n dc_Mod_act_202 rfl ?_
      refine wf_geti dc_Mod_act_203 fl_Mod_163 rfl (by assumption) ?_
      rw [h4, h5]
      refine wf_iv3 (M' := mt_Mod_printRow) (c := 8) dc_Mod_act_206 tg_Mod_printRow ml_Mod_218 im_Mod_printRow se_Mod_printRow ⟨_, rfl, rfl⟩ (by assumption) (Nat.le_of_ble_eq_true rfl) (Nat.le_refl _) (Nat.le_refl _) (c_Mod_printRow (k := 1) (lo := q) (hi := e) hA hI2.2.2.2.2 (by simp only; omega) (by omega) hI2.1 hW1 h6 h7) qV_nt (qV_go (fun i2 hp => ?_))
      refine wf_goto 262 dc_Mod_act_209 (by decide) ?_
      obtain ⟨e3, e4⟩ := hp
      refine wf_return rfl dc_Mod_act_262 ⟨rfl, rfl, rfl, rfl, rfl, ?_, mf_ss (mf_mo hfr (ms_sub ac_sk)) (mf_mo e4 (ms_sub ac_o))⟩
      show mn_is _ m (W, F, co, K, out ++ pm_of (ps_rel (sx (nI a').toNatClampNeg)) W)
      rw [hcl, pm_of, h1]
      dsimp only
      rw [h2]
      dsimp only
      rw [← List.append_assoc]
      exact hI2.o hW1 e4 e3
  · refine wf_tableIn (off := 211) 212 dc_Mod_act_1 (by decide) (by decide) rfl (by decide) ?_
    obtain ⟨a', -, ha7, rfl⟩ := bw_n (lo := 0) (hi := 7) ho
    have hcl : (nI a').toNatClampNeg = a' := nI_clamp (by omega)
    refine wf_aload_n dc_Mod_act_212 rfl ?_
    refine wf_aload_n dc_Mod_act_213 rfl ?_
    refine wf_getr dc_Mod_act_214 fl_Mod_53 rfl (by assumption) (by assumption) ?_
    refine wf_iload_n dc_Mod_act_217 rfl ?_
    refine wf_iaload (y := 0) dc_Mod_act_218 rfl (by assumption) (vp_in_nI (by omega) (by omega)) ?_
    rw [hcl, hN a' (by omega)]
    refine wf_iv1 (M' := mt_Mod_spell) (c := 8) dc_Mod_act_219 tg_Mod_spell ml_Mod_234 im_Mod_spell se_Mod_spell ⟨_, rfl, rfl⟩ (by assumption) (Nat.le_of_ble_eq_true rfl) (Nat.le_refl _) (Nat.le_refl _) (c_Mod_spell (x := co a') hA) qV_nt (qV_go (fun i2 hp => ?_))
    obtain ⟨e1, e2⟩ := hp
    have hI2 := hI'.r8 hW1 e2
    have hnl := (s1_nm (co a')).1.1
    refine wf_aload_n dc_Mod_act_222 rfl ?_
    refine wf_bipush 8 dc_Mod_act_223 (by decide) ?_
    refine wf_iconst 0 dc_Mod_act_225 (by decide) ?_
    refine wf_aload_n dc_Mod_act_226 rfl ?_
    refine wf_getr dc_Mod_act_227 fl_Mod_13 rfl (by assumption) (by assumption) ?_
    refine wf_bipush 8 dc_Mod_act_230 (by decide) ?_
    refine wf_iaload (y := 0) dc_Mod_act_232 rfl (by assumption) (vp_in_nI (n := 8) (by omega) (by omega)) ?_
    rw [show i2 (m + 2) (Int32.toNatClampNeg 8) = nI (nm_of (co a')).length from e1.1]
    refine wf_iv3 (M' := mt_Mod_printRow) (c := 8) dc_Mod_act_233 tg_Mod_printRow ml_Mod_218 im_Mod_printRow se_Mod_printRow ⟨_, rfl, rfl⟩ (by assumption) (Nat.le_of_ble_eq_true rfl) (Nat.le_refl _) (Nat.le_refl _) (c_Mod_printRow (k := 8) (lo := 0) hA hI2.2.2.2.2 (by simp only; omega) (by omega) e1 hnl (by omega) (Nat.le_refl _)) qV_nt (qV_go (fun i2 hp => ?_))
    refine wf_goto 262 dc_Mod_act_236 (by decide) ?_
    obtain ⟨e3, e4⟩ := hp
    rw [List.drop_zero, List.take_of_length_le (l := nm_of (co a')) (by omega)] at e3
    refine wf_return rfl dc_Mod_act_262 ⟨rfl, rfl, rfl, rfl, rfl, ?_, mf_ss (mf_mo e2 (ms_sub ac_r8)) (mf_mo e4 (ms_sub ac_o))⟩
    show mn_is _ m (W, F, co, K, out ++ nm_of (co (nI a').toNatClampNeg) ++ [10])
    rw [hcl]
    exact hI2.o hW1 e4 e3
  · refine wf_tableIn (off := 261) 262 dc_Mod_act_1 (by decide) (by decide) rfl (by decide) ?_
    exact wf_return rfl dc_Mod_act_262 ⟨rfl, rfl, rfl, rfl, rfl, hI', mf_rf⟩
  · refine wf_tableIn (off := 238) 239 dc_Mod_act_1 (by decide) (by decide) rfl (by decide) ?_
    obtain ⟨a', -, ha7, rfl⟩ := bw_n (lo := 0) (hi := 7) ho
    have hcl : (nI a').toNatClampNeg = a' := nI_clamp (by omega)
    refine wf_aload_n dc_Mod_act_239 rfl ?_
    refine wf_getr dc_Mod_act_240 fl_Mod_53 rfl (by assumption) (by assumption) ?_
    refine wf_iload_n dc_Mod_act_243 rfl ?_
    refine wf_iload_n dc_Mod_act_244 rfl ?_
    refine wf_iastore (y := 0) dc_Mod_act_245 rfl (by decide) (by assumption) (vp_in_nI (by omega) (by omega)) ?_
    refine wf_goto 262 dc_Mod_act_246 (by decide) ?_
    rw [hcl]
    refine wf_return rfl dc_Mod_act_262 ⟨rfl, rfl, rfl, rfl, rfl, ?_, mf_up mf_rf (i14 (by omega))⟩
    show mn_is _ m (W, F, co_up co (nI a').toNatClampNeg c, K, out)
    rw [hcl]
    exact hI'.C hW1 (by omega)
  · refine wf_tableIn (off := 248) 249 dc_Mod_act_1 (by decide) (by decide) rfl (by decide) ?_
    obtain ⟨a', -, ha7, rfl⟩ := bw_n (lo := 0) (hi := 7) ho
    have hcl : (nI a').toNatClampNeg = a' := nI_clamp (by omega)
    refine wf_aload_n dc_Mod_act_249 rfl ?_
    refine wf_getr dc_Mod_act_250 fl_Mod_53 rfl (by assumption) (by assumption) ?_
    refine wf_iload_n dc_Mod_act_253 rfl ?_
    refine wf_aload_n dc_Mod_act_254 rfl ?_
    refine wf_geti dc_Mod_act_255 fl_Mod_241 rfl (by assumption) ?_
    rw [hL]
    refine wf_iastore (y := 0) dc_Mod_act_258 rfl (by decide) (by assumption) (vp_in_nI (by omega) (by omega)) ?_
    refine wf_goto 262 dc_Mod_act_259 (by decide) ?_
    rw [hcl]
    refine wf_return rfl dc_Mod_act_262 ⟨rfl, rfl, rfl, rfl, rfl, ?_, mf_up mf_rf (i14 (by omega))⟩
    show mn_is _ m (W, F, co_up co (nI a').toNatClampNeg (nI lc), K, out)
    rw [hcl]
    exact hI'.C hW1 (by omega)
end
