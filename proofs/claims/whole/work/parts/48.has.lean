/-! class LineRules: hasPattern -/
def fld (F : List (List Int32)) (f : Int32) : List Int32 := if 1 ≤ f.toNatClampNeg ∧ f.toNatClampNeg ≤ F.length then F.getD (f.toNatClampNeg - 1) [] else []
def hp_of (sx : Nat → List Int32) (lc : Nat) (W : List Int32) (F : List (List Int32)) (u : RuS) : Prop :=
  (u.1 = 1 → fd_of (ps_rel (sx u.2.1.toNatClampNeg)) W 0 ≠ none) ∧ (u.1 = 2 → fd_of (ps_rel (sx u.2.1.toNatClampNeg)) (fld F u.2.2.1) 0 ≠ none) ∧ (u.1 = 3 → nu_of (fld F u.2.1) < u.2.2.1) ∧ (u.1 = 4 → nu_of (fld F u.2.1) = u.2.2.1) ∧ (u.1 = 5 → u.2.1 ≤ nI lc ∧ nI lc ≤ u.2.2.1) ∧ (u.1 = 6 → u.2.1 < nI F.length)
section
variable {l : Launch} {E : We} {n0 d nx : Nat} {t : Wt} {r : Wr} {i i' : Wi} {g : Wl} {b : Nat} {pm : Nat → Nat} {S : List Nat}
theorem xo_r (j : Nat) (hj : j < 7) : (xo j = 12) ∨ (109 ≤ xo j ∧ xo j ≤ 139) := by
  unfold xo
  split
  · right; omega
  · left; rfl
theorem lp_exp.fr {sx : Nat → List Int32} (h : lp_exp t r i g b pm sx) (hA : lr_at t r b pm) (hf : fr_is S i i') (h1 : cl_no b 12 17 S) (h2 : cl_no b 109 144 S) : lp_exp t r i' g b pm sx := fun k hk => by
  have hp := hA.2.2.1 k (by omega)
  have hx := xo_r (pm k) hp
  obtain ⟨-, -, -, -, -, ⟨e9, -⟩, -⟩ := lr_exp hA hp
  refine ⟨(h k hk).1.fr hf ?_ (fun m hm => ?_), (h k hk).2⟩
  · rcases hx with q | q
    · exact h1.at (by omega) (by omega)
    · exact h2.at (by omega) (by omega)
  · rw [e9] at hm
    cases hm
    rcases hx with q | q
    · exact h1.at (by omega) (by omega)
    · exact h2.at (by omega) (by omega)
theorem lp_tab.fr {K : KtS} (h : lp_tab t r i b K) (hf : fr_is S i i') (h1 : cl_no b 90 92 S) (h2 : ∀ z ∈ S, z < b + 222) : lp_tab t r i' b K := by
  obtain ⟨⟨a1, a2, a3⟩, a4⟩ := h
  refine ⟨⟨(hf _ (h1.at (by omega) (by omega)) 2).trans a1, a2, fun k hk => ⟨(hf _ (h1.at (by omega) (by omega)) k).trans (a3 k hk).1, ?_⟩⟩, a4⟩
  exact (a3 k hk).2.mo (S := []) xt_rf (fun z hz => absurd hz (List.not_mem_nil)) hf (fun z hz => .inr (h2 z hz))
theorem s1_nil : s1 [] := ⟨Nat.zero_le _, fun j hj => absurd hj (Nat.not_lt_zero _)⟩
/-- the row of a field -/
theorem fld_row {W : List Int32} {F : List (List Int32)} {f : Nat} (hA : lr_at t r b pm) (hI : lp_cut i b W F) (hf : f ≤ 30) : ∃ n, rw_at t r (lr_P b (if 1 ≤ f ∧ f ≤ F.length then f - 1 else 32)) (lr_R b (if 1 ≤ f ∧ f ≤ F.length then f - 1 else 32)) n ∧ rw_is i (lr_P b (if 1 ≤ f ∧ f ≤ F.length then f - 1 else 32)) (lr_R b (if 1 ≤ f ∧ f ≤ F.length then f - 1 else 32)) (fld F (nI f)) ∧ (fld F (nI f)).length ≤ n ∧ s1 (fld F (nI f)) := by
  obtain ⟨-, -, -, -, -, -, -, c1, c2, -⟩ := lr_cut hA
  obtain ⟨⟨-, h2, -, h5, h6⟩, -, h8⟩ := hI
  unfold fld
  rw [nI_clamp (by omega)]
  by_cases h : 1 ≤ f ∧ f ≤ F.length
  · rw [if_pos h, if_pos h]
    exact ⟨120, c1 _ (by omega), (h5 _ (by omega)).1, (h5 _ (by omega)).2, h8 _ (by omega)⟩
  · rw [if_neg h, if_neg h]
    exact ⟨0, c2, ⟨h6, fun j hj => absurd hj (Nat.not_lt_zero _)⟩, Nat.le_refl _, s1_nil⟩
theorem bw_n {x : Int32} {lo hi : Nat} (h : bw x lo hi = true) : ∃ j, lo ≤ j ∧ j ≤ hi ∧ x = nI j := by
  have h1 := bw_t.mp h
  obtain ⟨j, h2, h3⟩ := nI_of (x := x) (fun z => by have : x.toInt < 0 := Int32.lt_iff_toInt_lt.mp z; omega)
  refine ⟨j, ?_, ?_, h3⟩ <;> rw [h3, nI_toInt h2] at h1 <;> omega
theorem oI_ne {o : Option Nat} {n : Nat} (h : ∀ q, o = some q → q ≤ n) (hn : n < 2 ^ 31) : oI o = -1 ↔ o = none := by
  cases o with
  | none => exact ⟨fun _ => rfl, fun _ => rfl⟩
  | some q => exact ⟨fun z => absurd z.symm (mx_m1 (by have := h q rfl; omega)), fun z => by cases z⟩
theorem fd_le {X : Rel} {w : List Int32} {p q : Nat} (h : fd_of X w p = some q) : q ≤ w.length := (fd_some h).2.1
theorem c_LR_hasPattern {sx : Nat → List Int32} {lc k : Nat} {W : List Int32} {F : List (List Int32)} {u : RuS} (hA : lr_at t r b pm) (hX : lp_exp t r i g b pm sx) (hC : lp_cut i b W F) (hL : lp_lin i b lc) (hk : k < 12) (hu : ru_is i (b + (145 + 4 * k)) (b + (145 + 4 * k + 1)) (b + (145 + 4 * k + 2)) (b + (145 + 4 * k + 3)) u) (ho : pt_ok u.1 u.2.1 u.2.2.1 = true) : Ct l E n0 mt_LR_hasPattern (d + 3) 0 0 [.ref (b + 0), .ref (b + (145 + 4 * k))] nx t r i g (qI nx t r g (fun z i' => i' = i ∧ ((z = 1 ∧ hp_of sx lc W F u) ∨ (z = 0 ∧ ¬ hp_of sx lc W F u)))) := by
  have tR := (lr_rul hA hk).1
  have t0 := hA.1.1
  have t4 := hA.1.2 4 (4, .inr (4, 6)) (by decide +kernel)
  have r2 : r (b + 0) 2 = some (b + 4) := hA.2.1 (0, 2, 4) (by decide +kernel)
  have r5 : r (b + 0) 5 = some (b + 21) := hA.2.1 (0, 5, 21) (by decide +kernel)
  have hcu := lr_cut hA
  have hcu' := hcu
  obtain ⟨tC, rC, -⟩ := hcu'
  have hW := hC.1.2.2.1
  have hWr := (lr_cut hA).2.2.2.2.2.2.2.1 30 (by omega)
  have hF30 := hC.1.2.1
  obtain ⟨p, a, bb, al⟩ := u
  obtain ⟨u0, u1, u2, -⟩ := hu
  simp only at u0 u1 u2 ho
  refine Ct.of (by decide) (Nat.le_of_ble_eq_true rfl) ?_
  refine wf_aload_n dc_LR_hasPattern_0 rfl ?_
  refine wf_geti dc_LR_hasPattern_1 fl_LR_239 rfl (by assumption) ?_
  rw [u1]
  refine wf_istore_n dc_LR_hasPattern_4 (by decide) ?_
  refine wf_aload_n dc_LR_hasPattern_5 rfl ?_
  refine wf_geti dc_LR_hasPattern_6 fl_LR_242 rfl (by assumption) ?_
  rw [u2]
  refine wf_istore_n dc_LR_hasPattern_9 (by decide) ?_
  refine wf_aload_n dc_LR_hasPattern_10 rfl ?_
  refine wf_geti dc_LR_hasPattern_11 fl_LR_245 rfl (by assumption) ?_
  rw [u0]
  have pc : p = nI 0 ∨ p = nI 1 ∨ p = nI 2 ∨ p = nI 3 ∨ p = nI 4 ∨ p = nI 5 ∨ p = nI 6 := by
    rcases tw_in (x := p) (n := 6) (by omega) with h | ⟨j, hj, rfl⟩
    · exfalso
      have ne : ∀ j : Nat, j ≤ 6 → ¬ p = nI j := fun j hj z => by rw [z, nI_toInt (by omega)] at h; omega
      have m0 : ¬ p = 0 := ne 0 (by omega)
      have m1 : ¬ p = 1 := ne 1 (by omega)
      have m2 : ¬ p = 2 := ne 2 (by omega)
      have m3 : ¬ p = 3 := ne 3 (by omega)
      have m4 : ¬ p = 4 := ne 4 (by omega)
      have m5 : ¬ p = 5 := ne 5 (by omega)
      have m6 : ¬ p = 6 := ne 6 (by omega)
      rw [pt_ok, if_neg (fun z => z.elim m0 (fun z => z.elim m5 m6)), if_neg m1, if_neg m2, if_neg (fun z => z.elim m3 m4)] at ho
      cases ho
    · have hc : j = 0 ∨ j = 1 ∨ j = 2 ∨ j = 3 ∨ j = 4 ∨ j = 5 ∨ j = 6 := by omega
      rcases hc with z | z | z | z | z | z | z <;> subst z <;> simp
  have nn : ∀ x y : Nat, x ≤ 6 → y ≤ 6 → x ≠ y → ¬ nI x = nI y := fun x y hx hy hxy z => hxy ((nI_eq (by omega) (by omega)).mp z)
  rcases pc with h | h | h | h | h | h | h <;> subst h
  · refine wf_tableOut 188 dc_LR_hasPattern_14 (Or.inl (by decide)) (by decide) ?_
    refine wf_iconst 1 dc_LR_hasPattern_188 (by decide) ?_
    refine wf_zreturn rfl rfl dc_LR_hasPattern_189 ⟨1, rfl, rfl, rfl, rfl, rfl, rfl, .inl ⟨rfl, ?_⟩⟩
    exact ⟨fun z => absurd z (nn 0 1 (by omega) (by omega) (by omega)), fun z => absurd z (nn 0 2 (by omega) (by omega) (by omega)), fun z => absurd z (nn 0 3 (by omega) (by omega) (by omega)), fun z => absurd z (nn 0 4 (by omega) (by omega) (by omega)), fun z => absurd z (nn 0 5 (by omega) (by omega) (by omega)), fun z => absurd z (nn 0 6 (by omega) (by omega) (by omega))⟩
  · refine wf_tableIn (off := 38) 52 dc_LR_hasPattern_14 (by decide) (by decide) rfl (by decide) ?_
    obtain ⟨a', -, ha5, rfl⟩ := bw_n (lo := 0) (hi := 5) ho
    have hcl : (nI a').toNatClampNeg = a' := nI_clamp (by omega)
    have hXa := (hX a' (by omega)).1
    have tE := (lr_exp hA (hA.2.2.1 a' (by omega))).1
    refine wf_aload_n dc_LR_hasPattern_52 rfl ?_
    refine wf_getr dc_LR_hasPattern_53 fl_LR_24 rfl (by assumption) (by assumption) ?_
    refine wf_iload_n dc_LR_hasPattern_56 rfl ?_
    refine wf_aaload (y := 4) dc_LR_hasPattern_57 rfl rfl (by assumption) (vp_in_nI (by omega) (by omega)) (by rw [nI_clamp (by omega)]; exact hA.2.2.2.2.1 a' (by omega)) ?_
    refine wf_aload_n dc_LR_hasPattern_58 rfl ?_
    refine wf_getr dc_LR_hasPattern_59 fl_LR_44 rfl (by assumption) (by assumption) ?_
    refine wf_getr dc_LR_hasPattern_62 fl_LR_192 rfl (by assumption) (by assumption) ?_
    refine wf_iconst 0 dc_LR_hasPattern_65 (by decide) ?_
    refine wf_iv2 (M' := mt_Exp_firstFrom) (c := 2) dc_LR_hasPattern_66 tg_Exp_firstFrom ml_LR_180 im_Exp_firstFrom se_Exp_firstFrom ⟨_, rfl, rfl⟩ (by assumption) (Nat.le_of_ble_eq_true rfl) (Nat.le_refl _) (Nat.le_refl _) (k_Exp_firstFrom (b := 0) hXa hWr hW.1 hW.2 (s1_ok hC.2.1) (by omega)) qI_nt (qI_go (fun x2 i2 hp => ?_))
    refine wf_iconst (-1) dc_LR_hasPattern_69 (by decide) ?_
    obtain ⟨rfl, rfl⟩ := hp
    have hq := oI_ne (o := fd_of (ps_rel (sx a')) W 0) (n := 120) (fun q hq => Nat.le_trans (fd_le hq) hW.2) (by omega)
    refine wf_icmp_eq 77 dc_LR_hasPattern_70 (by decide) (fun hc => ?_) (fun hc => ?_)
    · refine wf_iconst 0 dc_LR_hasPattern_77 (by decide) ?_
      exact wf_zreturn rfl rfl dc_LR_hasPattern_78 ⟨0, rfl, rfl, rfl, rfl, rfl, rfl, .inr ⟨rfl, fun z => absurd (z.1 rfl) (not_not_intro (by simp only [hcl]; exact hq.mp hc))⟩⟩
    · refine wf_iconst 1 dc_LR_hasPattern_73 (by decide) ?_
      refine wf_goto 78 dc_LR_hasPattern_74 (by decide) ?_
      exact wf_zreturn rfl rfl dc_LR_hasPattern_78 ⟨1, rfl, rfl, rfl, rfl, rfl, rfl, .inl ⟨rfl, ⟨fun _ => (by simp only [hcl]; exact fun z => hc (hq.mpr z)), fun z => absurd z (nn 1 2 (by omega) (by omega) (by omega)), fun z => absurd z (nn 1 3 (by omega) (by omega) (by omega)), fun z => absurd z (nn 1 4 (by omega) (by omega) (by omega)), fun z => absurd z (nn 1 5 (by omega) (by omega) (by omega)), fun z => absurd z (nn 1 6 (by omega) (by omega) (by omega))⟩⟩⟩
  · refine wf_tableIn (off := 65) 79 dc_LR_hasPattern_14 (by decide) (by decide) rfl (by decide) ?_
    have ho2 : (bw a 0 5 && bw bb 1 30) = true := ho
    rw [Bool.and_eq_true] at ho2
    obtain ⟨a', -, ha5, rfl⟩ := bw_n (lo := 0) (hi := 5) ho2.1
    obtain ⟨b', hb1, hb30, rfl⟩ := bw_n (lo := 1) (hi := 30) ho2.2
    have hcl : (nI a').toNatClampNeg = a' := nI_clamp (by omega)
    have hXa := (hX a' (by omega)).1
    have tE := (lr_exp hA (hA.2.2.1 a' (by omega))).1
    obtain ⟨n, k1, k2, k3, k4⟩ := fld_row (f := b') hA hC (by omega)
    refine wf_aload_n dc_LR_hasPattern_79 rfl ?_
    refine wf_getr dc_LR_hasPattern_80 fl_LR_24 rfl (by assumption) (by assumption) ?_
    refine wf_iload_n dc_LR_hasPattern_83 rfl ?_
    refine wf_aaload (y := 4) dc_LR_hasPattern_84 rfl rfl (by assumption) (vp_in_nI (by omega) (by omega)) (by rw [nI_clamp (by omega)]; exact hA.2.2.2.2.1 a' (by omega)) ?_
    refine wf_aload_n dc_LR_hasPattern_85 rfl ?_
    refine wf_getr dc_LR_hasPattern_86 fl_LR_44 rfl (by assumption) (by assumption) ?_
    refine wf_iload_n dc_LR_hasPattern_89 rfl ?_
    refine wf_iv1 (M' := mt_Cut_fieldText) (c := 1) dc_LR_hasPattern_90 tg_Cut_fieldText ml_LR_195 im_Cut_fieldText se_Cut_fieldText ⟨_, rfl, rfl⟩ (by assumption) (Nat.le_of_ble_eq_true rfl) (Nat.le_refl _) (Nat.le_refl _) (c_Cut_fieldText hcu hC.1 (by omega)) qR_nt (qR_go (fun x2 i2 hp => ?_))
    obtain ⟨rfl, rfl⟩ := hp
    refine wf_iconst 0 dc_LR_hasPattern_93 (by decide) ?_
    refine wf_iv2 (M' := mt_Exp_firstFrom) (c := 2) dc_LR_hasPattern_94 tg_Exp_firstFrom ml_LR_180 im_Exp_firstFrom se_Exp_firstFrom ⟨_, rfl, rfl⟩ (by assumption) (Nat.le_of_ble_eq_true rfl) (Nat.le_refl _) (Nat.le_refl _) (k_Exp_firstFrom (b := 0) hXa k1 k2 k3 (s1_ok k4) (by omega)) qI_nt (qI_go (fun x2 i2 hp => ?_))
    obtain ⟨rfl, rfl⟩ := hp
    have hq := oI_ne (o := fd_of (ps_rel (sx a')) (fld F (nI b')) 0) (n := 120) (fun q hq => Nat.le_trans (fd_le hq) k4.1) (by omega)
    refine wf_iconst (-1) dc_LR_hasPattern_97 (by decide) ?_
    refine wf_icmp_eq 105 dc_LR_hasPattern_98 (by decide) (fun hc => ?_) (fun hc => ?_)
    · refine wf_iconst 0 dc_LR_hasPattern_105 (by decide) ?_
      exact wf_zreturn rfl rfl dc_LR_hasPattern_106 ⟨0, rfl, rfl, rfl, rfl, rfl, rfl, .inr ⟨rfl, fun z => absurd (z.2.1 rfl) (not_not_intro (by simp only [hcl]; exact hq.mp hc))⟩⟩
    · refine wf_iconst 1 dc_LR_hasPattern_101 (by decide) ?_
      refine wf_goto 106 dc_LR_hasPattern_102 (by decide) ?_
      exact wf_zreturn rfl rfl dc_LR_hasPattern_106 ⟨1, rfl, rfl, rfl, rfl, rfl, rfl, .inl ⟨rfl, ⟨fun z => absurd z (nn 2 1 (by omega) (by omega) (by omega)), fun _ => (by simp only [hcl]; exact fun z => hc (hq.mpr z)), fun z => absurd z (nn 2 3 (by omega) (by omega) (by omega)), fun z => absurd z (nn 2 4 (by omega) (by omega) (by omega)), fun z => absurd z (nn 2 5 (by omega) (by omega) (by omega)), fun z => absurd z (nn 2 6 (by omega) (by omega) (by omega))⟩⟩⟩
  · refine wf_tableIn (off := 93) 107 dc_LR_hasPattern_14 (by decide) (by decide) rfl (by decide) ?_
    obtain ⟨a', ha1, ha30, rfl⟩ := bw_n (lo := 1) (hi := 30) ho
    obtain ⟨n, k1, k2, k3, k4⟩ := fld_row (f := a') hA hC (by omega)
    have k1' := k1.1
    refine wf_aload_n dc_LR_hasPattern_107 rfl ?_
    refine wf_getr dc_LR_hasPattern_108 fl_LR_44 rfl (by assumption) (by assumption) ?_
    refine wf_iload_n dc_LR_hasPattern_111 rfl ?_
    refine wf_iv1 (M' := mt_Cut_fieldText) (c := 1) dc_LR_hasPattern_112 tg_Cut_fieldText ml_LR_195 im_Cut_fieldText se_Cut_fieldText ⟨_, rfl, rfl⟩ (by assumption) (Nat.le_of_ble_eq_true rfl) (Nat.le_refl _) (Nat.le_refl _) (c_Cut_fieldText hcu hC.1 (by omega)) qR_nt (qR_go (fun x2 i2 hp => ?_))
    obtain ⟨rfl, rfl⟩ := hp
    refine wf_iv0 (M' := mt_Row_toNumber) (c := 5) dc_LR_hasPattern_115 tg_Row_toNumber ml_LR_248 im_Row_toNumber se_Row_toNumber ⟨_, rfl, rfl⟩ (by assumption) (Nat.le_of_ble_eq_true rfl) (Nat.le_refl _) (Nat.le_refl _) (c_Row_toNumber k1 k2 k3) qI_nt (qI_go (fun x2 i2 hp => ?_))
    obtain ⟨rfl, rfl⟩ := hp
    refine wf_iload_n dc_LR_hasPattern_118 rfl ?_
    refine wf_icmp_ge 126 dc_LR_hasPattern_119 (by decide) (fun hc => ?_) (fun hc => ?_)
    · refine wf_iconst 0 dc_LR_hasPattern_126 (by decide) ?_
      exact wf_zreturn rfl rfl dc_LR_hasPattern_127 ⟨0, rfl, rfl, rfl, rfl, rfl, rfl, .inr ⟨rfl, fun z => absurd (z.2.2.1 rfl) (Int32.not_lt.mpr hc)⟩⟩
    · refine wf_iconst 1 dc_LR_hasPattern_122 (by decide) ?_
      refine wf_goto 127 dc_LR_hasPattern_123 (by decide) ?_
      exact wf_zreturn rfl rfl dc_LR_hasPattern_127 ⟨1, rfl, rfl, rfl, rfl, rfl, rfl, .inl ⟨rfl, ⟨fun z => absurd z (nn 3 1 (by omega) (by omega) (by omega)), fun z => absurd z (nn 3 2 (by omega) (by omega) (by omega)), fun _ => Int32.not_le.mp hc, fun z => absurd z (nn 3 4 (by omega) (by omega) (by omega)), fun z => absurd z (nn 3 5 (by omega) (by omega) (by omega)), fun z => absurd z (nn 3 6 (by omega) (by omega) (by omega))⟩⟩⟩
  · refine wf_tableIn (off := 114) 128 dc_LR_hasPattern_14 (by decide) (by decide) rfl (by decide) ?_
    obtain ⟨a', ha1, ha30, rfl⟩ := bw_n (lo := 1) (hi := 30) ho
    obtain ⟨n, k1, k2, k3, k4⟩ := fld_row (f := a') hA hC (by omega)
    have k1' := k1.1
    refine wf_aload_n dc_LR_hasPattern_128 rfl ?_
    refine wf_getr dc_LR_hasPattern_129 fl_LR_44 rfl (by assumption) (by assumption) ?_
    refine wf_iload_n dc_LR_hasPattern_132 rfl ?_
    refine wf_iv1 (M' := mt_Cut_fieldText) (c := 1) dc_LR_hasPattern_133 tg_Cut_fieldText ml_LR_195 im_Cut_fieldText se_Cut_fieldText ⟨_, rfl, rfl⟩ (by assumption) (Nat.le_of_ble_eq_true rfl) (Nat.le_refl _) (Nat.le_refl _) (c_Cut_fieldText hcu hC.1 (by omega)) qR_nt (qR_go (fun x2 i2 hp => ?_))
    obtain ⟨rfl, rfl⟩ := hp
    refine wf_iv0 (M' := mt_Row_toNumber) (c := 5) dc_LR_hasPattern_136 tg_Row_toNumber ml_LR_248 im_Row_toNumber se_Row_toNumber ⟨_, rfl, rfl⟩ (by assumption) (Nat.le_of_ble_eq_true rfl) (Nat.le_refl _) (Nat.le_refl _) (c_Row_toNumber k1 k2 k3) qI_nt (qI_go (fun x2 i2 hp => ?_))
    obtain ⟨rfl, rfl⟩ := hp
    refine wf_iload_n dc_LR_hasPattern_139 rfl ?_
    refine wf_icmp_ne 147 dc_LR_hasPattern_140 (by decide) (fun hc => ?_) (fun hc => ?_)
    · refine wf_iconst 0 dc_LR_hasPattern_147 (by decide) ?_
      exact wf_zreturn rfl rfl dc_LR_hasPattern_148 ⟨0, rfl, rfl, rfl, rfl, rfl, rfl, .inr ⟨rfl, fun z => absurd (z.2.2.2.1 rfl) (hc)⟩⟩
    · refine wf_iconst 1 dc_LR_hasPattern_143 (by decide) ?_
      refine wf_goto 148 dc_LR_hasPattern_144 (by decide) ?_
      exact wf_zreturn rfl rfl dc_LR_hasPattern_148 ⟨1, rfl, rfl, rfl, rfl, rfl, rfl, .inl ⟨rfl, ⟨fun z => absurd z (nn 4 1 (by omega) (by omega) (by omega)), fun z => absurd z (nn 4 2 (by omega) (by omega) (by omega)), fun z => absurd z (nn 4 3 (by omega) (by omega) (by omega)), fun _ => hc, fun z => absurd z (nn 4 5 (by omega) (by omega) (by omega)), fun z => absurd z (nn 4 6 (by omega) (by omega) (by omega))⟩⟩⟩
  · refine wf_tableIn (off := 135) 149 dc_LR_hasPattern_14 (by decide) (by decide) rfl (by decide) ?_
    have hL' : i (b + 0) 11 = nI lc := hL
    refine wf_aload_n dc_LR_hasPattern_149 rfl ?_
    refine wf_geti dc_LR_hasPattern_150 fl_LR_168 rfl (by assumption) ?_
    rw [hL']
    refine wf_iload_n dc_LR_hasPattern_153 rfl ?_
    refine wf_icmp_lt 169 dc_LR_hasPattern_154 (by decide) (fun h1 => ?_) (fun h1 => ?_)
    · refine wf_iconst 0 dc_LR_hasPattern_169 (by decide) ?_
      exact wf_zreturn rfl rfl dc_LR_hasPattern_170 ⟨0, rfl, rfl, rfl, rfl, rfl, rfl, .inr ⟨rfl, fun z => Int32.not_lt.mpr (z.2.2.2.2.1 rfl).1 h1⟩⟩
    · refine wf_aload_n dc_LR_hasPattern_157 rfl ?_
      refine wf_geti dc_LR_hasPattern_158 fl_LR_168 rfl (by assumption) ?_
      rw [hL']
      refine wf_iload_n dc_LR_hasPattern_161 rfl ?_
      refine wf_icmp_gt 169 dc_LR_hasPattern_162 (by decide) (fun h2 => ?_) (fun h2 => ?_)
      · refine wf_iconst 0 dc_LR_hasPattern_169 (by decide) ?_
        exact wf_zreturn rfl rfl dc_LR_hasPattern_170 ⟨0, rfl, rfl, rfl, rfl, rfl, rfl, .inr ⟨rfl, fun z => Int32.not_lt.mpr (z.2.2.2.2.1 rfl).2 h2⟩⟩
      · refine wf_iconst 1 dc_LR_hasPattern_165 (by decide) ?_
        refine wf_goto 170 dc_LR_hasPattern_166 (by decide) ?_
        exact wf_zreturn rfl rfl dc_LR_hasPattern_170 ⟨1, rfl, rfl, rfl, rfl, rfl, rfl, .inl ⟨rfl, ⟨fun z => absurd z (nn 5 1 (by omega) (by omega) (by omega)), fun z => absurd z (nn 5 2 (by omega) (by omega) (by omega)), fun z => absurd z (nn 5 3 (by omega) (by omega) (by omega)), fun z => absurd z (nn 5 4 (by omega) (by omega) (by omega)), fun _ => ⟨Int32.not_lt.mp h1, Int32.not_lt.mp h2⟩, fun z => absurd z (nn 5 6 (by omega) (by omega) (by omega))⟩⟩⟩
  · refine wf_tableIn (off := 157) 171 dc_LR_hasPattern_14 (by decide) (by decide) rfl (by decide) ?_
    have hFl : i (b + 21) 1 = nI F.length := hC.1.1
    refine wf_aload_n dc_LR_hasPattern_171 rfl ?_
    refine wf_getr dc_LR_hasPattern_172 fl_LR_44 rfl (by assumption) (by assumption) ?_
    refine wf_geti dc_LR_hasPattern_175 fl_LR_187 rfl (by assumption) ?_
    rw [hFl]
    refine wf_iload_n dc_LR_hasPattern_178 rfl ?_
    refine wf_icmp_le 186 dc_LR_hasPattern_179 (by decide) (fun h1 => ?_) (fun h1 => ?_)
    · refine wf_iconst 0 dc_LR_hasPattern_186 (by decide) ?_
      exact wf_zreturn rfl rfl dc_LR_hasPattern_187 ⟨0, rfl, rfl, rfl, rfl, rfl, rfl, .inr ⟨rfl, fun z => Int32.not_le.mpr (z.2.2.2.2.2 rfl) h1⟩⟩
    · refine wf_iconst 1 dc_LR_hasPattern_182 (by decide) ?_
      refine wf_goto 187 dc_LR_hasPattern_183 (by decide) ?_
      exact wf_zreturn rfl rfl dc_LR_hasPattern_187 ⟨1, rfl, rfl, rfl, rfl, rfl, rfl, .inl ⟨rfl, ⟨fun z => absurd z (nn 6 1 (by omega) (by omega) (by omega)), fun z => absurd z (nn 6 2 (by omega) (by omega) (by omega)), fun z => absurd z (nn 6 3 (by omega) (by omega) (by omega)), fun z => absurd z (nn 6 4 (by omega) (by omega) (by omega)), fun z => absurd z (nn 6 5 (by omega) (by omega) (by omega)), fun _ => Int32.not_le.mp h1⟩⟩⟩
end
