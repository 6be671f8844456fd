section
variable {l : Launch} {E : We} {n0 d nx : Nat} {t : Wt} {r : Wr} {i : Wi} {g : Wl}
theorem c_Tab_grow {a kA iA b s n b0 : Nat} {K : KtS} {v : List Int32} {x : Int32} (hA : tb_at t r a kA iA) (hI : tb_is b0 t r i a kA iA K) (hB : rw_at t r b s n) (hv : rw_is i b s v) (hl : v.length ≤ n) (hsi : s ≠ iA) (hb0 : b0 ≤ nx) (hlt : ∀ z y, t z = some y → z < nx) (hk0 : kA < b0) (hi0 : iA < b0) (ha0 : a < b0) :
    Ct l E n0 mt_Tab_grow (d + 3) 2 122 [.ref a, .ref b, .int x] nx t r i g (tb_q b0 nx t r i g a kA iA (kt_grow v x K)) := by
  have hA' := hA
  have hI' := hI
  obtain ⟨ha, r0, tk, r1, ti⟩ := hA
  obtain ⟨h1, h2, h3⟩ := hI
  have tb := hB.1
  have nai : a ≠ iA := fun q => by rw [q, ti] at ha; cases ha
  have hpl := kt_place_le v K
  refine Ct.of (by decide) (Nat.le_of_ble_eq_true rfl) ?_
  refine wf_aload_n dc_Tab_grow_0 rfl ?_
  refine wf_aload_n dc_Tab_grow_1 rfl ?_
  refine wf_iv1 (M' := mt_Tab_placeOf) (c := 7) dc_Tab_grow_2 tg_Tab_placeOf ml_Tab_21 im_Tab_placeOf se_Tab_placeOf ⟨_, rfl, rfl⟩ (by assumption) (Nat.le_of_ble_eq_true rfl) (Nat.le_refl _) (Nat.le_refl _) (c_Tab_placeOf hA' hI' hB hv hl) qI_nt (qI_go (fun x2 i2 hp => ?_))
  obtain ⟨rfl, rfl⟩ := hp
  refine wf_istore_n dc_Tab_grow_5 (by decide) ?_
  refine wf_iload_n dc_Tab_grow_6 rfl ?_
  refine wf_aload_n dc_Tab_grow_7 rfl ?_
  refine wf_geti dc_Tab_grow_8 fl_Tab_25 rfl (by assumption) ?_
  rw [h1]
  generalize hpp : kt_place v K = p at hpl ⊢
  have hcl : (nI p).toNatClampNeg = p := nI_clamp (by omega)
  -- no such key
  have other : ¬ (p < K.length ∧ cm_go (kt_at K p).1 v = 0) → Wf l E n0 mt_Tab_grow (d + 3) 2 122 (tb_q b0 nx t r i2 g a kA iA (kt_grow v x K)) 2 122 40 [(0, .ref a), (1, .ref b), (2, .int x), (3, .int (nI p))] [] nx t r i2 g := by
    intro hno
    have e : kt_grow v x K = if K.length < 40 then K.take p ++ (v, x) :: K.drop p else K := by
      unfold kt_grow
      rw [hpp, if_neg hno]
    rw [e]
    refine wf_aload_n dc_Tab_grow_40 rfl ?_
    refine wf_geti dc_Tab_grow_41 fl_Tab_25 rfl (by assumption) ?_
    rw [h1]
    refine wf_bipush 40 dc_Tab_grow_44 (by decide) ?_
    refine wf_icmp_ge 56 dc_Tab_grow_46 (by decide) (fun hc => ?_) (fun hc => ?_)
    · have h40 := (nI_leI (a := 40) (b := K.length) (by omega) (by omega)).mp hc
      rw [if_neg (by omega)]
      exact wf_return rfl dc_Tab_grow_56 ⟨rfl, Nat.le_refl _, by omega, xt_rf, rfl, hI', fr_rf⟩
    · have h40 : K.length < 40 := Nat.not_le.mp fun z => hc ((nI_leI (a := 40) (b := K.length) (by omega) (by omega)).mpr z)
      rw [if_pos h40]
      refine wf_aload_n dc_Tab_grow_49 rfl ?_
      refine wf_iload_n dc_Tab_grow_50 rfl ?_
      refine wf_aload_n dc_Tab_grow_51 rfl ?_
      refine wf_iload_n dc_Tab_grow_52 rfl ?_
      refine wf_iv3 (M' := mt_Tab_insert) (c := 7) (bk' := 0) (bn' := 0) dc_Tab_grow_53 tg_Tab_insert ml_Tab_32 im_Tab_insert se_Tab_insert ⟨_, rfl, rfl⟩ ha (Nat.le_of_ble_eq_true rfl) (by omega) (by omega) (c_Tab_insert hA' hI' hB hv hl hsi h40 hpl hb0 hlt hk0 hi0 ha0) (by rintro X a1 a2 a3 a4 a5 ⟨q, -⟩; cases q) ?_
      rintro vo nx2 t2 r2 i3 g2 hq
      obtain ⟨hvo, -⟩ := id hq
      cases hvo
      exact wf_return rfl dc_Tab_grow_56 hq
  refine wf_icmp_ge 40 dc_Tab_grow_11 (by decide) (fun hc => ?_) (fun hc => ?_)
  · have h0 := (nI_leI (by omega) (by omega)).mp hc
    exact Wf.to (by exact ⟨rfl, rfl, rfl, rfl, trivial⟩) (other (fun z => by omega))
  · have h0 : p < K.length := Nat.not_le.mp fun z => hc ((nI_leI (by omega) (by omega)).mpr z)
    obtain ⟨hx1, ka, sa, hx2, hx3, hx4, hx5, hx6⟩ := h3 p h0
    have tka := hx5.1
    refine wf_aload_n dc_Tab_grow_14 rfl ?_
    refine wf_getr dc_Tab_grow_15 fl_Tab_11 rfl (by assumption) (by assumption) ?_
    refine wf_iload_n dc_Tab_grow_18 rfl ?_
    refine wf_aaload (y := 3) dc_Tab_grow_19 rfl rfl (by assumption) (vp_in_nI (by omega) (by omega)) (by rw [hcl]; exact hx2) ?_
    refine wf_aload_n dc_Tab_grow_20 rfl ?_
    refine wf_iv1 (M' := mt_Row_compareWith) (c := 5) dc_Tab_grow_21 tg_Row_compareWith ml_Tab_29 im_Row_compareWith se_Row_compareWith ⟨_, rfl, rfl⟩ (by assumption) (Nat.le_of_ble_eq_true rfl) (Nat.le_refl _) (Nat.le_refl _) (c_Row_compareWith hx5 hx6 (Nat.le_refl _) hB hv hl) qI_nt (qI_go (fun x2 i2 hp => ?_))
    obtain ⟨rfl, rfl⟩ := hp
    refine wf_if_ne 40 dc_Tab_grow_24 (by decide) (fun hc2 => ?_) (fun hc2 => ?_)
    · exact Wf.to (by exact ⟨rfl, rfl, rfl, rfl, trivial⟩) (other (fun z => hc2 z.2))
    · refine wf_aload_n dc_Tab_grow_27 rfl ?_
      refine wf_getr dc_Tab_grow_28 fl_Tab_17 rfl (by assumption) (by assumption) ?_
      refine wf_iload_n dc_Tab_grow_31 rfl ?_
      refine wf_dup2 dc_Tab_grow_32 rfl rfl ?_
      refine wf_iaload (y := 0) dc_Tab_grow_33 rfl (by assumption) (vp_in_nI (by omega) (by omega)) ?_
      refine wf_iload_n dc_Tab_grow_34 rfl ?_
      refine wf_iadd dc_Tab_grow_35 ?_
      refine wf_iastore (y := 0) dc_Tab_grow_36 rfl (by decide) (by assumption) (vp_in_nI (by omega) (by omega)) ?_
      rw [hcl, hx1]
      refine wf_goto 56 dc_Tab_grow_37 (by decide) ?_
      have e : kt_grow v x K = K.set p ((kt_at K p).1, (kt_at K p).2 + x) := by
        unfold kt_grow
        rw [hpp, if_pos ⟨h0, hc2⟩]
      rw [e]
      have hfr : fr_is [a, iA, nx, nx + 1] i2 (wf_up i2 iA p ((kt_at K p).2 + x)) := fr_up fr_rf (by simp)
      refine wf_return rfl dc_Tab_grow_56 ⟨rfl, Nat.le_refl _, by omega, xt_rf, rfl, ⟨?_, by rw [List.length_set]; exact h2, fun j hj => ?_⟩, hfr⟩
      · rw [wf_up_a nai, h1, List.length_set]
      · rw [List.length_set] at hj
        have hold : ∀ (o : Option Nat) (w : List Int32), tb_row b0 t r i2 o w → tb_row b0 t r (wf_up i2 iA p ((kt_at K p).2 + x)) o w := fun o w h => h.mo (S := []) xt_rf (by simp) (S' := [iA]) (fr_up fr_rf (by simp)) (by simp; exact Or.inr hi0)
        by_cases hjp : j = p
        · subst hjp
          have e2 : kt_at (K.set j ((kt_at K j).1, (kt_at K j).2 + x)) j = ((kt_at K j).1, (kt_at K j).2 + x) := by
            conv => lhs; unfold kt_at
            rw [List.getD_eq_getElem?_getD, List.getElem?_set_self hj]
            rfl
          rw [e2, wf_up_s]
          exact ⟨rfl, hold _ _ (h3 j hj).2⟩
        · have e2 : kt_at (K.set p ((kt_at K p).1, (kt_at K p).2 + x)) j = kt_at K j := by
            conv => lhs; unfold kt_at
            rw [List.getD_eq_getElem?_getD, List.getElem?_set_ne (fun q => hjp q.symm)]
            unfold kt_at
            rw [List.getD_eq_getElem?_getD]
          rw [e2, wf_up_k hjp]
          exact ⟨(h3 j hj).1, hold _ _ (h3 j hj).2⟩
end
