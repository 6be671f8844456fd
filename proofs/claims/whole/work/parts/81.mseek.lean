/-! the reference: seek -/
def sk_S : Ms := [(0, 26, 28), (0, 37, 40), (19, 0, 800), (20, 0, 800), (21, 0, 800), (22, 0, 800), (23, 0, 400), (24, 0, 400), (25, 0, 12), (26, 0, 12), (27, 0, 12)]
theorem sk_ne {c : Nat} (h : 1 ≤ c ∧ c ≤ 18) : ∀ q ∈ sk_S, q.1 ≠ c := by
  intro q hq
  simp only [sk_S, List.mem_cons, List.not_mem_nil, or_false] at hq
  rcases hq with rfl | rfl | rfl | rfl | rfl | rfl | rfl | rfl | rfl | rfl | rfl <;> simp only <;> omega
theorem sk_no {c lo hi : Nat} (h : 1 ≤ c ∧ c ≤ 18) : ms_no sk_S c lo hi := fun q hq z => absurd z (sk_ne h q hq)
theorem sk_no0 {lo hi : Nat} (h : hi ≤ 26) : ms_no sk_S 0 lo hi := by
  intro q hq z
  simp only [sk_S, List.mem_cons, List.not_mem_nil, or_false] at hq
  rcases hq with rfl | rfl | rfl | rfl | rfl | rfl | rfl | rfl | rfl | rfl | rfl <;> simp only at z ⊢ <;> omega
theorem s1_sg {T : List Int32} (h : s1 T) : sgT T := fun q hq => h.2 q hq
theorem s1_nz {T : List Int32} (h : s1 T) : ∀ q, q < T.length → nx_of T q ≠ 0 := fun q hq => by
  obtain ⟨c, h1, h2, h3⟩ := h.2 q hq
  unfold nx_of
  rw [h3]
  exact nI_ne0 (by omega) (by omega)
def sk_is (T w : List Int32) (b : Nat) (z : Int32) (i : Wi) (m : Nat) : Prop := (fd_of (ps_rel T) w b = none ∧ z = 0) ∨ ∃ q e, fd_of (ps_rel T) w b = some q ∧ en_of (ps_rel T) w q = some e ∧ z = 1 ∧ i (m + 0) 38 = nI q ∧ i (m + 0) 39 = nI e ∧ q ≤ e ∧ e ≤ w.length
section
variable {l : Launch} {E : We} {n0 d nx : Nat} {t : Wt} {r : Wr} {i i1 i2 : Wi} {g : Wl} {m : Nat} {S : Ms}
theorem mr.sk {k : Nat} {w : List Int32} (h : mr i m k w) (hf : mf m sk_S i i1) (hl : w.length ≤ 120) : mr i1 m k w := h.fr hf hl (sk_no (by omega)) (sk_no (by omega))
theorem c_Mod_seek {k a b : Nat} {T w : List Int32} (hA : mo_at t r m) (hx : mx i m k T) (hk : k < 6) (h60 : T.length ≤ 60) (hsT : s1 T) (ho : ∃ q, ps_read T = .inr q) (ha : a < 9) (hw : mr i m a w) (hs1 : s1 w) (hb : b ≤ w.length + 1) : Ct l E n0 mt_Mod_seek (d + 3) 0 0 [.ref (m + 0), .int (nI k), .int (nI a), .int (nI b)] nx t r i g (qI nx t r g (fun z i' => sk_is T w b z i' m ∧ mf m sk_S i i')) := by
  have t0 := hA.1.1
  have r2 : r (m + 0) 2 = some (m + 2) := hA.2 (0, 2, 2) (by decide +kernel)
  have t2 := hA.1.2 2 (2, .inr (0, 9)) (by decide +kernel)
  have hl := hs1.1
  have ca : (nI a).toNatClampNeg = a := nI_clamp (by omega)
  have inD : ∀ q ∈ dr_S, ms_in sk_S q.1 q.2.1 q.2.2 := by
    intro q hq
    simp only [dr_S, List.mem_cons, List.not_mem_nil, or_false] at hq
    rcases hq with rfl | rfl | rfl | rfl | rfl | rfl | rfl | rfl | rfl
    · exact ⟨(0, 26, 28), by simp [sk_S], rfl, by decide, by decide⟩
    · exact ⟨(0, 37, 40), by simp [sk_S], rfl, by decide, by decide⟩
    · exact ⟨(19, 0, 800), by simp [sk_S], rfl, by decide, by decide⟩
    · exact ⟨(20, 0, 800), by simp [sk_S], rfl, by decide, by decide⟩
    · exact ⟨(21, 0, 800), by simp [sk_S], rfl, by decide, by decide⟩
    · exact ⟨(22, 0, 800), by simp [sk_S], rfl, by decide, by decide⟩
    · exact ⟨(25, 0, 12), by simp [sk_S], rfl, by decide, by decide⟩
    · exact ⟨(26, 0, 12), by simp [sk_S], rfl, by decide, by decide⟩
    · exact ⟨(27, 0, 12), by simp [sk_S], rfl, by decide, by decide⟩
  have inL : ∀ q ∈ lo_S, ms_in sk_S q.1 q.2.1 q.2.2 := by
    intro q hq
    simp only [lo_S, List.mem_cons, List.not_mem_nil, or_false] at hq
    rcases hq with rfl | rfl
    · exact ⟨(23, 0, 400), by simp [sk_S], rfl, by decide, by decide⟩
    · exact ⟨(24, 0, 400), by simp [sk_S], rfl, by decide, by decide⟩
  have in0 : ∀ {j}, 37 ≤ j → j < 40 → ms_in sk_S 0 j (j + 1) := fun h1 h2 => ⟨(0, 37, 40), by simp [sk_S], rfl, by simp only; omega, by simp only; omega⟩
  refine Ct.of (by decide) (Nat.le_of_ble_eq_true rfl) ?_
  refine wf_aload_n dc_Mod_seek_0 rfl ?_
  refine wf_iload_n dc_Mod_seek_1 rfl ?_
  refine wf_iv1 (M' := mt_Mod_draw) (c := 8) dc_Mod_seek_2 tg_Mod_draw ml_Mod_146 im_Mod_draw se_Mod_draw ⟨_, rfl, rfl⟩ (by assumption) (Nat.le_of_ble_eq_true rfl) (Nat.le_refl _) (Nat.le_refl _) (c_Mod_draw hA hx hk h60 (s1_nz hsT)) qV_nt (qV_go (fun i2 hp => ?_))
  obtain ⟨h1, h2⟩ := hp
  obtain ⟨q0, ho⟩ := ho
  rw [ho] at h2
  obtain ⟨-, h2⟩ := h2
  have f1 : mf m sk_S i i2 := mf_mo h1 inD
  have loop : ∀ (c p : Nat) (i1 : Wi), p + c = w.length + 1 → ff_of (ps_rel T w) w.length c p = fd_of (ps_rel T) w b → gd_ok i1 m (60 * k) T → mf m sk_S i i1 → Wf l E n0 mt_Mod_seek (d + 3) 0 0 (qI nx t r g (fun z i' => sk_is T w b z i' m ∧ mf m sk_S i i')) 0 0 8 [(0, .ref (m + 0)), (2, .int (nI a)), (4, .int (nI p))] [] nx t r i1 g := by
    intro c
    induction c with
    | zero =>
      intro p i1 hp hf q1 q2
      refine wf_iload dc_Mod_seek_8 rfl ?_
      refine wf_aload_n dc_Mod_seek_10 rfl ?_
      refine wf_getr dc_Mod_seek_11 fl_Mod_13 rfl (by assumption) (by assumption) ?_
      refine wf_iload_n dc_Mod_seek_14 rfl ?_
      refine wf_iaload (y := 0) dc_Mod_seek_15 rfl (by assumption) (vp_in_nI (by omega) (by omega)) ?_
      rw [ca, (hw.sk q2 hl).1]
      refine wf_icmp_gt 54 dc_Mod_seek_16 (by decide) (fun hc => ?_) (fun hc => absurd ((nI_ltI (by omega) (by omega)).mpr (by omega)) hc)
      refine wf_iconst 0 dc_Mod_seek_54 (by decide) ?_
      exact wf_zreturn rfl rfl dc_Mod_seek_55 ⟨_, rfl, rfl, rfl, rfl, rfl, Or.inl ⟨hf.symm, rfl⟩, q2⟩
    | succ c ih =>
      intro p i1 hp hf q1 q2
      have hw1 := hw.sk q2 hl
      have hx1 := hx.fr q2 (fun q hq => ⟨sk_ne (c := 3) (by omega) q hq, sk_ne (c := 4) (by omega) q hq⟩)
      refine wf_iload dc_Mod_seek_8 rfl ?_
      refine wf_aload_n dc_Mod_seek_10 rfl ?_
      refine wf_getr dc_Mod_seek_11 fl_Mod_13 rfl (by assumption) (by assumption) ?_
      refine wf_iload_n dc_Mod_seek_14 rfl ?_
      refine wf_iaload (y := 0) dc_Mod_seek_15 rfl (by assumption) (vp_in_nI (by omega) (by omega)) ?_
      rw [ca, hw1.1]
      refine wf_icmp_gt 54 dc_Mod_seek_16 (by decide) (fun hc => absurd ((nI_ltI (by omega) (by omega)).mp hc) (by omega)) (fun hc => ?_)
      refine wf_aload_n dc_Mod_seek_19 rfl ?_
      refine wf_iload_n dc_Mod_seek_20 rfl ?_
      refine wf_iload dc_Mod_seek_21 rfl ?_
      refine wf_iv2 (M' := mt_Mod_longest) (c := 8) dc_Mod_seek_23 tg_Mod_longest ml_Mod_157 im_Mod_longest se_Mod_longest ⟨_, rfl, rfl⟩ (by assumption) (Nat.le_of_ble_eq_true rfl) (Nat.le_refl _) (Nat.le_refl _) (c_Mod_longest (b := 60 * k) (s := p) hA hx1.2 (by omega) h60 (s1_sg hsT) q1 ha hw1 hs1 (by omega)) qI_nt (qI_go (fun x2 i2 hp => ?_))
      refine wf_istore dc_Mod_seek_26 (by decide) ?_
      refine wf_iload dc_Mod_seek_28 rfl ?_
      refine wf_iconst (-1) dc_Mod_seek_30 (by decide) ?_
      obtain ⟨rfl, hfr⟩ := hp
      have q3 := mf_ss q2 (mf_mo hfr inL)
      have q4 : gd_ok i2 m (60 * k) T := q1.fr hfr (lo_no (by omega)) (fun c c1 c2 => lo_ne (by omega))
      have hsm : ∀ q, en_of (ps_rel T) w p = some q → q < 2 ^ 31 := fun q hq => by
        have := (mx_of_some hq).1
        omega
      unfold ff_of at hf
      cases h0 : en_of (ps_rel T) w p with
      | none =>
        refine wf_icmp_eq 48 dc_Mod_seek_31 (by decide) (fun hc => ?_) (fun hc => absurd rfl hc)
        unfold en_of at h0
        rw [h0] at hf
        refine wf_iinc _ dc_Mod_seek_48 rfl (nI_1 p) (by decide) ?_
        refine wf_goto 8 dc_Mod_seek_51 (by decide) ?_
        exact Wf.to (by exact ⟨rfl, rfl, rfl, trivial⟩) (ih (p + 1) i2 (by omega) hf q4 q3)
      | some e =>
        have he := mx_of_some h0
        refine wf_icmp_eq 48 dc_Mod_seek_31 (by decide) (fun hc => absurd hc.symm (mx_m1 (hsm e h0))) (fun hc => ?_)
        have h0' := h0
        unfold en_of at h0'
        rw [h0'] at hf
        dsimp only at hf
        have hpe : p ≤ e := by
          obtain ⟨P, G, -, -, -, -, -, -, g7⟩ := q1
          exact (gR_le ((g7 w p e).mpr he.2.1)).1
        refine wf_aload_n dc_Mod_seek_34 rfl ?_
        refine wf_iload dc_Mod_seek_35 rfl ?_
        refine wf_puti dc_Mod_seek_37 fl_Mod_160 (Or.inl nf_Mod_38) rfl rfl rfl (by assumption) ?_
        refine wf_aload_n dc_Mod_seek_40 rfl ?_
        refine wf_iload dc_Mod_seek_41 rfl ?_
        refine wf_puti dc_Mod_seek_43 fl_Mod_163 (Or.inl nf_Mod_39) rfl rfl rfl (by assumption) ?_
        refine wf_iconst 1 dc_Mod_seek_46 (by decide) ?_
        exact wf_zreturn rfl rfl dc_Mod_seek_47 ⟨_, rfl, rfl, rfl, rfl, rfl, Or.inr ⟨p, e, hf.symm, h0, rfl, (wf_up_k (by omega)).trans wf_up_s, wf_up_s, hpe, he.1⟩, mf_up (mf_up q3 (in0 (by omega) (by omega))) (in0 (by omega) (by omega))⟩
  refine wf_iload_n dc_Mod_seek_5 rfl ?_
  refine wf_istore dc_Mod_seek_6 (by decide) ?_
  exact Wf.to (by exact ⟨rfl, rfl, rfl, trivial⟩) (loop (w.length + 1 - b) b i2 (by omega) rfl h2 f1)
end
