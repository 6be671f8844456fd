/-! the reference: draw, in its machine -/
def lvl (i : Wi) (m dp : Nat) (bg cl ou : Nat → Nat) : Prop := ∀ j, j ≤ dp → i (m + 25) j = nI (bg j) ∧ i (m + 26) j = nI (cl j) ∧ (1 ≤ j → i (m + 27) j = nI (ou j))
def dr_is (i : Wi) (m b : Nat) (u : DrS) : Prop := i (m + 0) 26 = nI u.1 ∧ g_is i m b u.2.1 ∧ i (m + 0) 37 = -1 ∧ lvl i m (dr_dp u) u.2.2.1 u.2.2.2.1 u.2.2.2.2.1
def dr_L (m b n : Nat) (u : DrS) : List (Nat × Value) := [(0, .ref (m + 0)), (2, .int (nI b)), (3, .int (nI (b + n))), (4, .int (nI (dr_dp u))), (5, .int (nI u.2.2.2.2.2.2.1)), (6, .int (oI u.2.2.2.2.2.2.2.1)), (7, .int (nI (b + dr_pl u)))]
abbrev ge_S : Ms := [(0, 27, 28), (19, 0, 800), (20, 0, 800), (21, 0, 800), (22, 0, 800)]
section
variable {l : Launch} {E : We} {n0 d nx : Nat} {t : Wt} {r : Wr} {i i1 i2 : Wi} {g : Wl} {m : Nat} {S : Ms}
theorem ge_dr (h : mf m ge_S i1 i2) : mf m dr_S i1 i2 := mf_mo h (fun q hq => by
  simp only [ge_S, List.mem_cons, List.not_mem_nil, or_false] at hq
  rcases hq with rfl | rfl | rfl | rfl | rfl
  · exact ⟨(0, 26, 28), by simp [dr_S], rfl, by decide, by decide⟩
  · exact ⟨(19, 0, 800), by simp [dr_S], rfl, by decide, by decide⟩
  · exact ⟨(20, 0, 800), by simp [dr_S], rfl, by decide, by decide⟩
  · exact ⟨(21, 0, 800), by simp [dr_S], rfl, by decide, by decide⟩
  · exact ⟨(22, 0, 800), by simp [dr_S], rfl, by decide, by decide⟩)
theorem lvl.ge {dp : Nat} {bg cl ou : Nat → Nat} (h : lvl i1 m dp bg cl ou) (hf : mf m ge_S i1 i2) : lvl i2 m dp bg cl ou := fun j hj => by
  obtain ⟨a1, a2, a3⟩ := h j hj
  exact ⟨(hf.at (by simp [ms_no])).trans a1, (hf.at (by simp [ms_no])).trans a2, fun z => (hf.at (by simp [ms_no])).trans (a3 z)⟩
theorem lvl.up {dp k : Nat} {bg cl ou : Nat → Nat} {x : Int32} (h : lvl i1 m dp bg cl ou) : lvl (wf_up i1 (m + 0) k x) m dp bg cl ou := fun j hj => by
  obtain ⟨a1, a2, a3⟩ := h j hj
  exact ⟨(wf_up_a (by omega)).trans a1, (wf_up_a (by omega)).trans a2, fun z => (wf_up_a (by omega)).trans (a3 z)⟩
theorem g_is.up {b c k : Nat} {G : List Ed} {x : Int32} (h : g_is i1 m b G) (hc : (c = 0 ∧ k ≠ 27) ∨ 22 < c) : g_is (wf_up i1 (m + c) k x) m b G := by
  have ne : ∀ o j, (o = 0 ∧ j = 27) ∨ (19 ≤ o ∧ o ≤ 22) → wf_up i1 (m + c) k x (m + o) j = i1 (m + o) j := fun o j ho => if_neg (fun z => by omega)
  refine ⟨(ne 0 27 (Or.inl ⟨rfl, rfl⟩)).trans h.1, fun j hj => ?_⟩
  obtain ⟨a1, a2, a3, a4⟩ := h.2 j hj
  exact ⟨(ne 19 j (Or.inr (by omega))).trans a1, (ne 20 j (Or.inr (by omega))).trans a2, (ne 21 j (Or.inr (by omega))).trans a3, (ne 22 j (Or.inr (by omega))).trans a4⟩
theorem dr_up {c k : Nat} {x : Int32} (h : mf m dr_S i i1) (hc : (c = 0 ∧ (k = 26 ∨ k = 37)) ∨ (25 ≤ c ∧ c ≤ 27 ∧ k < 12)) : mf m dr_S i (wf_up i1 (m + c) k x) := by
  refine mf_up h ?_
  rcases hc with ⟨rfl, rfl | rfl⟩ | ⟨h1, h2, h3⟩
  · exact ⟨(0, 26, 28), by simp [dr_S], rfl, by decide, by decide⟩
  · exact ⟨(0, 37, 38), by simp [dr_S], rfl, by decide, by decide⟩
  · exact ⟨(c, 0, 12), by simp [dr_S]; omega, rfl, Nat.zero_le _, by simp only; omega⟩
/-- one sign is drawn -/
theorem dr_java {b : Nat} {T : List Int32} {Q : Wq} {P : Nat} {G : List Ed} {bg cl ou : Nat → Nat} {dp a : Nat} {pc : Option Nat} {pl : Nat} (hA : mo_at t r m) (hT : mS i m b T) (hb : b ≤ 300) (h60 : T.length ≤ 60) (hz : ∀ q, q < T.length → nx_of T q ≠ 0) (hinv : dr_inv T (P, G, bg, cl, ou, dp, a, pc, pl)) (hp : pl < T.length)
    (hF : ∀ e, dr_st T P G bg cl ou dp a pc pl = .inl e → ∀ (i1 : Wi) (G1 : List Ed) (y4 y5 : Int32), g_is i1 m b G1 → G1.length < 800 → i1 (m + 0) 37 = nI (b + e) → mf m dr_S i i1 → Wf l E n0 mt_Mod_draw (d + 2) 0 0 Q 0 0 521 [(0, .ref (m + 0)), (2, .int (nI b)), (3, .int (nI (b + T.length))), (4, .int y4), (5, .int y5)] [] nx t r i1 g)
    (hN : ∀ v, dr_st T P G bg cl ou dp a pc pl = .inr v → ∀ i1, dr_is i1 m b v → mf m dr_S i i1 → Wf l E n0 mt_Mod_draw (d + 2) 0 0 Q 0 0 67 (dr_L m b T.length v) [] nx t r i1 g) :
    ∀ i1, dr_is i1 m b (P, G, bg, cl, ou, dp, a, pc, pl) → mf m dr_S i i1 → Wf l E n0 mt_Mod_draw (d + 2) 0 0 Q 0 0 67 (dr_L m b T.length (P, G, bg, cl, ou, dp, a, pc, pl)) [] nx t r i1 g := by
  intro i1 hI hf
  obtain ⟨v1, v2, v3, v4, v5, v6, v7, v8, v9⟩ := hinv
  simp only [dr_pl, dr_dp] at v1 v2 v3 v4 v5 v6 v7 v8 v9
  obtain ⟨hP, hG, h37, hL⟩ := hI
  simp only [dr_dp] at hP hG h37 hL
  have t0 := hA.1.1
  have r3 : r (m + 0) 3 = some (m + 3) := hA.2 (0, 3, 3) (by decide +kernel)
  have r34 : r (m + 0) 34 = some (m + 25) := hA.2 (0, 34, 25) (by decide +kernel)
  have r35 : r (m + 0) 35 = some (m + 26) := hA.2 (0, 35, 26) (by decide +kernel)
  have r36 : r (m + 0) 36 = some (m + 27) := hA.2 (0, 36, 27) (by decide +kernel)
  have t3 := hA.1.2 3 (3, .inr (0, 360)) (by decide +kernel)
  have t25 := hA.1.2 25 (25, .inr (0, 12)) (by decide +kernel)
  have t26 := hA.1.2 26 (26, .inr (0, 12)) (by decide +kernel)
  have t27 := hA.1.2 27 (27, .inr (0, 12)) (by decide +kernel)
  have hT1 : mS i1 m b T := hT.fr hf (by decide)
  have ne37 : ∀ e : Nat, e ≤ T.length → ¬ nI (b + e) = -1 := fun e he z => mx_m1 (by omega) z.symm
  have cdp : (nI dp).toNatClampNeg = dp := nI_clamp (by omega)
  have cd1 : (nI (dp + 1)).toNatClampNeg = dp + 1 := nI_clamp (by omega)
  -- on to the next sign
  have nxt : ∀ (P' : Nat) (G' : List Ed) (bg' cl' ou' : Nat → Nat) (dp' a' : Nat) (pc' : Option Nat) (pl' : Nat) (i2 : Wi), dr_st T P G bg cl ou dp a pc pl = .inr (P', G', bg', cl', ou', dp', a', pc', pl' + 1) → i2 (m + 0) 26 = nI P' → g_is i2 m b G' → i2 (m + 0) 37 = -1 → lvl i2 m dp' bg' cl' ou' → mf m dr_S i i2 → Wf l E n0 mt_Mod_draw (d + 2) 0 0 Q 0 0 515 [(0, .ref (m + 0)), (2, .int (nI b)), (3, .int (nI (b + T.length))), (4, .int (nI dp')), (5, .int (nI a')), (6, .int (oI pc')), (7, .int (nI (b + pl')))] [] nx t r i2 g := by
    intro P' G' bg' cl' ou' dp' a' pc' pl' i2 hs q1 q2 q3 q4 q5
    refine wf_iinc _ dc_Mod_draw_515 rfl (nI_1 (b + pl')) (by decide) ?_
    refine wf_goto 67 dc_Mod_draw_518 (by decide) ?_
    exact Wf.to (by exact ⟨rfl, rfl, rfl, rfl, rfl, rfl, rfl, trivial⟩) (hN _ hs i2 ⟨q1, q2, q3, q4⟩ q5)
  -- behind a fault
  have flt : ∀ (e : Nat) (i2 : Wi) (G1 : List Ed) (y4 y5 y7 : Int32), dr_st T P G bg cl ou dp a pc pl = .inl e → e ≤ T.length → g_is i2 m b G1 → G1.length < 800 → i2 (m + 0) 37 = nI (b + e) → mf m dr_S i i2 → Wf l E n0 mt_Mod_draw (d + 2) 0 0 Q 0 0 515 [(0, .ref (m + 0)), (2, .int (nI b)), (3, .int (nI (b + T.length))), (4, .int y4), (5, .int y5), (7, .int y7)] [] nx t r i2 g := by
    intro e i2 G1 y4 y5 y7 hs he q1 q2 q3 q4
    refine wf_iinc _ dc_Mod_draw_515 rfl (rfl) (by decide) ?_
    refine wf_goto 67 dc_Mod_draw_518 (by decide) ?_
    refine wf_iload dc_Mod_draw_67 rfl ?_
    refine wf_iload_n dc_Mod_draw_69 rfl ?_
    refine wf_icmp_ge 521 dc_Mod_draw_70 (by decide) (fun hc => ?_) (fun hc => ?_)
    · exact Wf.to (by exact ⟨rfl, rfl, rfl, rfl, rfl, trivial⟩) (hF e hs i2 G1 y4 y5 q1 q2 q3 q4)
    refine wf_aload_n dc_Mod_draw_73 rfl ?_
    refine wf_geti dc_Mod_draw_74 fl_Mod_120 rfl (by assumption) ?_
    refine wf_iconst (-1) dc_Mod_draw_77 (by decide) ?_
    rw [q3]
    refine wf_icmp_ne 521 dc_Mod_draw_78 (by decide) (fun hc => ?_) (fun hc => absurd hc (ne37 e he))
    exact Wf.to (by exact ⟨rfl, rfl, rfl, rfl, rfl, trivial⟩) (hF e hs i2 G1 y4 y5 q1 q2 q3 q4)
  -- the sign
  unfold dr_L
  simp only [dr_pl, dr_dp]
  refine wf_iload dc_Mod_draw_67 rfl ?_
  refine wf_iload_n dc_Mod_draw_69 rfl ?_
  refine wf_icmp_ge 521 dc_Mod_draw_70 (by decide) (fun hc => absurd ((nI_leI (by omega) (by omega)).mp hc) (by omega)) (fun hc => ?_)
  refine wf_aload_n dc_Mod_draw_73 rfl ?_
  refine wf_geti dc_Mod_draw_74 fl_Mod_120 rfl (by assumption) ?_
  refine wf_iconst (-1) dc_Mod_draw_77 (by decide) ?_
  rw [h37]
  refine wf_icmp_ne 521 dc_Mod_draw_78 (by decide) (fun hc => absurd rfl hc) (fun hc => ?_)
  refine wf_aload_n dc_Mod_draw_81 rfl ?_
  refine wf_getr dc_Mod_draw_82 fl_Mod_16 rfl (by assumption) (by assumption) ?_
  refine wf_iload dc_Mod_draw_85 rfl ?_
  refine wf_iaload (y := 0) dc_Mod_draw_87 rfl (by assumption) (vp_in_nI (by omega) (by omega)) ?_
  rw [nI_clamp (show b + pl < 2 ^ 31 by omega), hT1 pl hp]
  have fv : ∀ (x : Int32) (i2 : Wi), i2 = wf_up i1 (m + 0) 37 (if i1 (m + 0) 37 = -1 then x else i1 (m + 0) 37) → i2 = wf_up i1 (m + 0) 37 x := fun x i2 h => by rw [h, if_pos h37]
  have hst : dr_st T P G bg cl ou dp a pc pl = dr_st T P G bg cl ou dp a pc pl := rfl
  conv at hst => rhs; unfold dr_st
  generalize hc0 : nx_of T pl = c at hst
  refine wf_istore dc_Mod_draw_88 (by decide) ?_
  refine wf_iload dc_Mod_draw_90 rfl ?_
  refine wf_bipush 42 dc_Mod_draw_92 (by decide) ?_
  -- a repeating sign
  have rep : ps_rp c = true → (c = 42 ∨ c = 43 ∨ c = 63) → Wf l E n0 mt_Mod_draw (d + 2) 0 0 Q 0 0 111 [(0, .ref (m + 0)), (2, .int (nI b)), (3, .int (nI (b + T.length))), (4, .int (nI dp)), (5, .int (nI a)), (6, .int (oI pc)), (7, .int (nI (b + pl))), (8, .int c)] [] nx t r i1 g := by
    intro hr hc3
    rw [if_pos hr] at hst
    refine wf_iload dc_Mod_draw_111 rfl ?_
    refine wf_iconst (-1) dc_Mod_draw_113 (by decide) ?_
    cases pc with
    | none =>
      refine wf_icmp_ne 126 dc_Mod_draw_114 (by decide) (fun hc => absurd rfl hc) (fun hc => ?_)
      refine wf_aload_n dc_Mod_draw_117 rfl ?_
      refine wf_iload dc_Mod_draw_118 rfl ?_
      refine wf_iv1 (M' := mt_Mod_fail) (c := 8) dc_Mod_draw_120 tg_Mod_fail ml_Mod_127 im_Mod_fail se_Mod_fail ⟨_, rfl, rfl⟩ (by assumption) (Nat.le_of_ble_eq_true rfl) (Nat.le_refl _) (Nat.le_refl _) (c_Mod_fail hA) qV_nt (qV_go (fun i2 hp => ?_))
      refine wf_goto 515 dc_Mod_draw_123 (by decide) ?_
      have := fv _ _ hp
      subst this
      exact Wf.to (by exact ⟨rfl, rfl, rfl, rfl, rfl, rfl, trivial⟩) (flt pl _ G _ _ _ hst (by omega) (hG.up (Or.inl ⟨rfl, by decide⟩)) (by omega) wf_up_s (dr_up hf (Or.inl ⟨rfl, Or.inr rfl⟩)))
    | some p =>
      have hpP := v7 p rfl
      refine wf_icmp_ne 126 dc_Mod_draw_114 (by decide) (fun hc => ?_) (fun hc => absurd hc.symm (mx_m1 (by omega)))
      dsimp only at hst
      -- the second road
      have sec : ∀ (i2 : Wi) (G1 : List Ed), G1 = G ++ (if c = 43 then [] else [(p, a, 0, 0)]) → i2 (m + 0) 26 = nI P → g_is i2 m b G1 → i2 (m + 0) 37 = -1 → lvl i2 m dp bg cl ou → mf m dr_S i i2 → Wf l E n0 mt_Mod_draw (d + 2) 0 0 Q 0 0 143 [(0, .ref (m + 0)), (2, .int (nI b)), (3, .int (nI (b + T.length))), (4, .int (nI dp)), (5, .int (nI a)), (6, .int (oI (some p))), (7, .int (nI (b + pl))), (8, .int c)] [] nx t r i2 g := by
        intro i2 G1 hG1 q1 q2 q3 q4 q5
        have hl1 : G1.length ≤ G.length + 1 := by
          rw [hG1, List.length_append]
          split <;> simp
        rw [← List.append_assoc, ← hG1] at hst
        refine wf_iload dc_Mod_draw_143 rfl ?_
        refine wf_bipush 63 dc_Mod_draw_145 (by decide) ?_
        by_cases h63 : c = 63
        · refine wf_icmp_eq 515 dc_Mod_draw_147 (by decide) (fun hc => ?_) (fun hc => absurd h63 hc)
          rw [if_pos h63, List.append_nil] at hst
          exact Wf.to (by exact ⟨rfl, rfl, rfl, rfl, rfl, rfl, rfl, trivial⟩) (nxt P G1 bg cl ou dp a (some p) pl i2 hst q1 q2 q3 q4 q5)
        · refine wf_icmp_eq 515 dc_Mod_draw_147 (by decide) (fun hc => absurd hc h63) (fun hc => ?_)
          rw [if_neg h63] at hst
          refine wf_aload_n dc_Mod_draw_150 rfl ?_
          refine wf_iload dc_Mod_draw_151 rfl ?_
          refine wf_iload dc_Mod_draw_153 rfl ?_
          refine wf_iconst 0 dc_Mod_draw_155 (by decide) ?_
          refine wf_iconst 0 dc_Mod_draw_156 (by decide) ?_
          refine wf_iv4 (M' := mt_Mod_edge) (c := 8) dc_Mod_draw_157 tg_Mod_edge ml_Mod_134 im_Mod_edge se_Mod_edge ⟨_, rfl, rfl⟩ (by assumption) (Nat.le_of_ble_eq_true rfl) (Nat.le_refl _) (Nat.le_refl _) (c_Mod_edge (a, p, 0, 0) hA q2 (by omega) rfl rfl rfl rfl) qV_nt (qV_go (fun i2 hp => ?_))
          refine wf_goto 515 dc_Mod_draw_160 (by decide) ?_
          obtain ⟨⟨e1, e2⟩, e3⟩ := hp
          exact Wf.to (by exact ⟨rfl, rfl, rfl, rfl, rfl, rfl, rfl, trivial⟩) (nxt P _ bg cl ou dp a (some p) pl _ hst (e3.trans q1) e1 ((e2.at (by simp [ms_no])).trans q3) (q4.ge e2) (mf_ss q5 (ge_dr e2)))
      refine wf_iload dc_Mod_draw_126 rfl ?_
      refine wf_bipush 43 dc_Mod_draw_128 (by decide) ?_
      by_cases h43 : c = 43
      · refine wf_icmp_eq 143 dc_Mod_draw_130 (by decide) (fun hc => ?_) (fun hc => absurd h43 hc)
        exact Wf.to (by exact ⟨rfl, rfl, rfl, rfl, rfl, rfl, rfl, rfl, trivial⟩) (sec i1 G (by rw [if_pos h43, List.append_nil]) hP hG h37 hL hf)
      · refine wf_icmp_eq 143 dc_Mod_draw_130 (by decide) (fun hc => absurd hc h43) (fun hc => ?_)
        refine wf_aload_n dc_Mod_draw_133 rfl ?_
        refine wf_iload dc_Mod_draw_134 rfl ?_
        refine wf_iload dc_Mod_draw_136 rfl ?_
        refine wf_iconst 0 dc_Mod_draw_138 (by decide) ?_
        refine wf_iconst 0 dc_Mod_draw_139 (by decide) ?_
        refine wf_iv4 (M' := mt_Mod_edge) (c := 8) dc_Mod_draw_140 tg_Mod_edge ml_Mod_134 im_Mod_edge se_Mod_edge ⟨_, rfl, rfl⟩ (by assumption) (Nat.le_of_ble_eq_true rfl) (Nat.le_refl _) (Nat.le_refl _) (c_Mod_edge (p, a, 0, 0) hA hG (by omega) rfl rfl rfl rfl) qV_nt (qV_go (fun i2 hp => ?_))
        obtain ⟨⟨e1, e2⟩, e3⟩ := hp
        exact Wf.to (by exact ⟨rfl, rfl, rfl, rfl, rfl, rfl, rfl, rfl, trivial⟩) (sec _ _ (by rw [if_neg h43]) (e3.trans hP) e1 ((e2.at (by simp [ms_no])).trans h37) (hL.ge e2) (mf_ss hf (ge_dr e2)))
  by_cases c42 : c = 42
  · refine wf_icmp_eq 111 dc_Mod_draw_94 (by decide) (fun hc => ?_) (fun hc => absurd c42 hc)
    exact Wf.to (by exact ⟨rfl, rfl, rfl, rfl, rfl, rfl, rfl, rfl, trivial⟩) (rep (by rw [c42]; rfl) (Or.inl c42))
  refine wf_icmp_eq 111 dc_Mod_draw_94 (by decide) (fun hc => absurd hc c42) (fun hc => ?_)
  refine wf_iload dc_Mod_draw_97 rfl ?_
  refine wf_bipush 43 dc_Mod_draw_99 (by decide) ?_
  by_cases c43 : c = 43
  · refine wf_icmp_eq 111 dc_Mod_draw_101 (by decide) (fun hc => ?_) (fun hc => absurd c43 hc)
    exact Wf.to (by exact ⟨rfl, rfl, rfl, rfl, rfl, rfl, rfl, rfl, trivial⟩) (rep (by rw [c43]; rfl) (Or.inr (Or.inl c43)))
  refine wf_icmp_eq 111 dc_Mod_draw_101 (by decide) (fun hc => absurd hc c43) (fun hc => ?_)
  refine wf_iload dc_Mod_draw_104 rfl ?_
  refine wf_bipush 63 dc_Mod_draw_106 (by decide) ?_
  by_cases c63 : c = 63
  · refine wf_icmp_ne 163 dc_Mod_draw_108 (by decide) (fun hc => absurd c63 hc) (fun hc => ?_)
    exact Wf.to (by exact ⟨rfl, rfl, rfl, rfl, rfl, rfl, rfl, rfl, trivial⟩) (rep (by rw [c63]; rfl) (Or.inr (Or.inr c63)))
  refine wf_icmp_ne 163 dc_Mod_draw_108 (by decide) (fun hc => ?_) (fun hc => absurd hc c63)
  have hrp : ¬ ps_rp c = true := by
    unfold ps_rp
    rw [decide_eq_false c42, decide_eq_false c43, decide_eq_false c63]
    decide
  rw [if_neg hrp] at hst
  clear rep
  obtain ⟨L1, L2, L3⟩ := hL dp (Nat.le_refl _)
  refine wf_iload dc_Mod_draw_163 rfl ?_
  refine wf_bipush 124 dc_Mod_draw_165 (by decide) ?_
  by_cases c124 : c = 124
  · refine wf_icmp_ne 212 dc_Mod_draw_167 (by decide) (fun hc => absurd c124 hc) (fun hc => ?_)
    rw [if_pos c124] at hst
    refine wf_aload_n dc_Mod_draw_170 rfl ?_
    refine wf_iload dc_Mod_draw_171 rfl ?_
    refine wf_aload_n dc_Mod_draw_173 rfl ?_
    refine wf_getr dc_Mod_draw_174 fl_Mod_93 rfl (by assumption) (by assumption) ?_
    refine wf_iload dc_Mod_draw_177 rfl ?_
    refine wf_iaload (y := 0) dc_Mod_draw_179 rfl (by assumption) (vp_in_nI (by omega) (by omega)) ?_
    rw [cdp, L2]
    refine wf_iconst 0 dc_Mod_draw_180 (by decide) ?_
    refine wf_iconst 0 dc_Mod_draw_181 (by decide) ?_
    refine wf_iv4 (M' := mt_Mod_edge) (c := 8) dc_Mod_draw_182 tg_Mod_edge ml_Mod_134 im_Mod_edge se_Mod_edge ⟨_, rfl, rfl⟩ (by assumption) (Nat.le_of_ble_eq_true rfl) (Nat.le_refl _) (Nat.le_refl _) (c_Mod_edge (a, cl dp, 0, 0) hA hG (by omega) rfl rfl rfl rfl) qV_nt (qV_go (fun i2 hp => ?_))
    obtain ⟨⟨e1, e2⟩, e3⟩ := hp
    have k37 := (e2.at (c := 0) (k := 37) (by simp [ms_no])).trans h37
    have kL := hL.ge e2
    refine wf_aload_n dc_Mod_draw_185 rfl ?_
    refine wf_iv0 (M' := mt_Mod_point) (c := 8) dc_Mod_draw_186 tg_Mod_point ml_Mod_130 im_Mod_point se_Mod_point ⟨_, rfl, rfl⟩ (by assumption) (Nat.le_of_ble_eq_true rfl) (Nat.le_refl _) (Nat.le_refl _) (c_Mod_point hA (e3.trans hP)) qI_nt (qI_go (fun x2 i2 hp => ?_))
    obtain ⟨rfl, rfl⟩ := hp
    have kL2 := kL.up (k := 26) (x := nI (P + 1))
    refine wf_istore dc_Mod_draw_189 (by decide) ?_
    refine wf_aload_n dc_Mod_draw_191 rfl ?_
    refine wf_aload_n dc_Mod_draw_192 rfl ?_
    refine wf_getr dc_Mod_draw_193 fl_Mod_90 rfl (by assumption) (by assumption) ?_
    refine wf_iload dc_Mod_draw_196 rfl ?_
    refine wf_iaload (y := 0) dc_Mod_draw_198 rfl (by assumption) (vp_in_nI (by omega) (by omega)) ?_
    rw [cdp, (kL2 dp (Nat.le_refl _)).1]
    refine wf_iload dc_Mod_draw_199 rfl ?_
    refine wf_iconst 0 dc_Mod_draw_201 (by decide) ?_
    refine wf_iconst 0 dc_Mod_draw_202 (by decide) ?_
    refine wf_iv4 (M' := mt_Mod_edge) (c := 8) dc_Mod_draw_203 tg_Mod_edge ml_Mod_134 im_Mod_edge se_Mod_edge ⟨_, rfl, rfl⟩ (by assumption) (Nat.le_of_ble_eq_true rfl) (Nat.le_refl _) (Nat.le_refl _) (c_Mod_edge (bg dp, P, 0, 0) hA (e1.up (Or.inl ⟨rfl, by decide⟩)) (by rw [List.length_append]; simp only [List.length_cons, List.length_nil]; omega) rfl rfl rfl rfl) qV_nt (qV_go (fun i2 hp => ?_))
    obtain ⟨⟨f1, f2⟩, f3⟩ := hp
    refine wf_iconst (-1) dc_Mod_draw_206 (by decide) ?_
    refine wf_istore dc_Mod_draw_207 (by decide) ?_
    refine wf_goto 515 dc_Mod_draw_209 (by decide) ?_
    rw [List.append_assoc] at f1
    exact Wf.to (by exact ⟨rfl, rfl, rfl, rfl, rfl, rfl, rfl, trivial⟩) (nxt (P + 1) _ bg cl ou dp P none pl _ hst (f3.trans wf_up_s) f1 ((f2.at (by simp [ms_no])).trans ((wf_up_k (by decide)).trans k37)) (kL2.ge f2) (mf_ss (dr_up (mf_ss hf (ge_dr e2)) (Or.inl ⟨rfl, Or.inl rfl⟩)) (ge_dr f2)))
  refine wf_icmp_ne 212 dc_Mod_draw_167 (by decide) (fun hc => ?_) (fun hc => absurd hc c124)
  rw [if_neg c124] at hst
  refine wf_iload dc_Mod_draw_212 rfl ?_
  refine wf_bipush 40 dc_Mod_draw_214 (by decide) ?_
  by_cases c40 : c = 40
  · refine wf_icmp_ne 330 dc_Mod_draw_216 (by decide) (fun hc => absurd c40 hc) (fun hc => ?_)
    rw [if_pos c40] at hst
    -- a group opens, whatever the fault is
    have opn : ∀ i2 : Wi, i2 (m + 0) 26 = nI P → g_is i2 m b G → lvl i2 m dp bg cl ou → mf m dr_S i i2 → ((i2 (m + 0) 37 = -1 ∧ ¬ dp = 10) ∨ (i2 (m + 0) 37 = nI (b + pl) ∧ dp = 10)) → Wf l E n0 mt_Mod_draw (d + 2) 0 0 Q 0 0 232 [(0, .ref (m + 0)), (2, .int (nI b)), (3, .int (nI (b + T.length))), (4, .int (nI dp)), (5, .int (nI a)), (7, .int (nI (b + pl)))] [] nx t r i2 g := by
      intro i2 q1 q2 q3 q4 q5
      refine wf_iinc _ dc_Mod_draw_232 rfl (nI_1 dp) (by decide) ?_
      refine wf_aload_n dc_Mod_draw_235 rfl ?_
      refine wf_getr dc_Mod_draw_236 fl_Mod_96 rfl (by assumption) (by assumption) ?_
      refine wf_iload dc_Mod_draw_239 rfl ?_
      refine wf_aload_n dc_Mod_draw_241 rfl ?_
      refine wf_iv0 (M' := mt_Mod_point) (c := 8) dc_Mod_draw_242 tg_Mod_point ml_Mod_130 im_Mod_point se_Mod_point ⟨_, rfl, rfl⟩ (by assumption) (Nat.le_of_ble_eq_true rfl) (Nat.le_refl _) (Nat.le_refl _) (c_Mod_point hA q1) qI_nt (qI_go (fun x2 i2 hp => ?_))
      obtain ⟨rfl, rfl⟩ := hp
      refine wf_iastore (y := 0) dc_Mod_draw_245 rfl (by decide) (by assumption) (vp_in_nI (by omega) (by omega)) ?_
      refine wf_aload_n dc_Mod_draw_246 rfl ?_
      refine wf_iload dc_Mod_draw_247 rfl ?_
      refine wf_aload_n dc_Mod_draw_249 rfl ?_
      refine wf_getr dc_Mod_draw_250 fl_Mod_96 rfl (by assumption) (by assumption) ?_
      refine wf_iload dc_Mod_draw_253 rfl ?_
      refine wf_iaload (y := 0) dc_Mod_draw_255 rfl (by assumption) (vp_in_nI (by omega) (by omega)) ?_
      rw [cd1, wf_up_s]
      have g2 : g_is (wf_up (wf_up i2 (m + 0) 26 (nI (P + 1))) (m + 27) (dp + 1) (nI P)) m b G := (q2.up (Or.inl ⟨rfl, by decide⟩)).up (Or.inr (by omega))
      have s2 : mf m dr_S i (wf_up (wf_up i2 (m + 0) 26 (nI (P + 1))) (m + 27) (dp + 1) (nI P)) := dr_up (dr_up q4 (Or.inl ⟨rfl, Or.inl rfl⟩)) (Or.inr ⟨by omega, by omega, by omega⟩)
      have p2 : wf_up (wf_up i2 (m + 0) 26 (nI (P + 1))) (m + 27) (dp + 1) (nI P) (m + 0) 26 = nI (P + 1) := (wf_up_a (by omega)).trans wf_up_s
      have f2 : wf_up (wf_up i2 (m + 0) 26 (nI (P + 1))) (m + 27) (dp + 1) (nI P) (m + 0) 37 = i2 (m + 0) 37 := (wf_up_a (by omega)).trans (wf_up_k (by decide))
      have o2 : wf_up (wf_up i2 (m + 0) 26 (nI (P + 1))) (m + 27) (dp + 1) (nI P) (m + 27) (dp + 1) = nI P := wf_up_s
      have l2 : lvl (wf_up (wf_up i2 (m + 0) 26 (nI (P + 1))) (m + 27) (dp + 1) (nI P)) m dp bg cl ou := fun j hj => by
        obtain ⟨a1, a2, a3⟩ := q3.up (k := 26) (x := nI (P + 1)) j hj
        exact ⟨(wf_up_a (by omega)).trans a1, (wf_up_a (by omega)).trans a2, fun z => (wf_up_k (by omega)).trans (a3 z)⟩
      generalize wf_up (wf_up i2 (m + 0) 26 (nI (P + 1))) (m + 27) (dp + 1) (nI P) = i3 at *
      refine wf_iconst 0 dc_Mod_draw_256 (by decide) ?_
      refine wf_iconst 0 dc_Mod_draw_257 (by decide) ?_
      refine wf_iv4 (M' := mt_Mod_edge) (c := 8) dc_Mod_draw_258 tg_Mod_edge ml_Mod_134 im_Mod_edge se_Mod_edge ⟨_, rfl, rfl⟩ (by assumption) (Nat.le_of_ble_eq_true rfl) (Nat.le_refl _) (Nat.le_refl _) (c_Mod_edge (a, P, 0, 0) hA g2 (by omega) rfl rfl rfl rfl) qV_nt (qV_go (fun i2 hp => ?_))
      obtain ⟨⟨e1, e2⟩, e3⟩ := hp
      have f4 := (e2.at (c := 0) (k := 37) (by simp [ms_no])).trans f2
      have l4 := l2.ge e2
      have o4 := (e2.at (c := 27) (k := dp + 1) (by simp [ms_no])).trans o2
      refine wf_aload_n dc_Mod_draw_261 rfl ?_
      refine wf_getr dc_Mod_draw_262 fl_Mod_90 rfl (by assumption) (by assumption) ?_
      refine wf_iload dc_Mod_draw_265 rfl ?_
      refine wf_aload_n dc_Mod_draw_267 rfl ?_
      refine wf_iv0 (M' := mt_Mod_point) (c := 8) dc_Mod_draw_268 tg_Mod_point ml_Mod_130 im_Mod_point se_Mod_point ⟨_, rfl, rfl⟩ (by assumption) (Nat.le_of_ble_eq_true rfl) (Nat.le_refl _) (Nat.le_refl _) (c_Mod_point hA (e3.trans p2)) qI_nt (qI_go (fun x2 i2 hp => ?_))
      obtain ⟨rfl, rfl⟩ := hp
      refine wf_iastore (y := 0) dc_Mod_draw_271 rfl (by decide) (by assumption) (vp_in_nI (by omega) (by omega)) ?_
      refine wf_aload_n dc_Mod_draw_272 rfl ?_
      refine wf_getr dc_Mod_draw_273 fl_Mod_93 rfl (by assumption) (by assumption) ?_
      refine wf_iload dc_Mod_draw_276 rfl ?_
      refine wf_aload_n dc_Mod_draw_278 rfl ?_
      refine wf_iv0 (M' := mt_Mod_point) (c := 8) dc_Mod_draw_279 tg_Mod_point ml_Mod_130 im_Mod_point se_Mod_point ⟨_, rfl, rfl⟩ (by assumption) (Nat.le_of_ble_eq_true rfl) (Nat.le_refl _) (Nat.le_refl _) (c_Mod_point (P := P + 2) hA ((wf_up_a (by omega)).trans wf_up_s)) qI_nt (qI_go (fun x2 i2 hp => ?_))
      obtain ⟨rfl, rfl⟩ := hp
      refine wf_iastore (y := 0) dc_Mod_draw_282 rfl (by decide) (by assumption) (vp_in_nI (by omega) (by omega)) ?_
      refine wf_aload_n dc_Mod_draw_283 rfl ?_
      refine wf_aload_n dc_Mod_draw_284 rfl ?_
      refine wf_getr dc_Mod_draw_285 fl_Mod_96 rfl (by assumption) (by assumption) ?_
      refine wf_iload dc_Mod_draw_288 rfl ?_
      refine wf_iaload (y := 0) dc_Mod_draw_290 rfl (by assumption) (vp_in_nI (by omega) (by omega)) ?_
      rw [cd1]
      have o5 : ∀ (i4 : Wi), i4 (m + 27) (dp + 1) = nI P → wf_up (wf_up (wf_up (wf_up i4 (m + 0) 26 (nI (P + 1 + 1))) (m + 25) (dp + 1) (nI (P + 1))) (m + 0) 26 (nI (P + 2 + 1))) (m + 26) (dp + 1) (nI (P + 2)) (m + 27) (dp + 1) = nI P := fun i4 h => by
        rw [wf_up_a (by omega), wf_up_a (by omega), wf_up_a (by omega), wf_up_a (by omega)]; exact h
      rw [o5 _ o4]
      refine wf_aload_n dc_Mod_draw_291 rfl ?_
      refine wf_getr dc_Mod_draw_292 fl_Mod_90 rfl (by assumption) (by assumption) ?_
      refine wf_iload dc_Mod_draw_295 rfl ?_
      refine wf_iaload (y := 0) dc_Mod_draw_297 rfl (by assumption) (vp_in_nI (by omega) (by omega)) ?_
      rw [cd1]
      have b5 : ∀ (i4 : Wi), wf_up (wf_up (wf_up (wf_up i4 (m + 0) 26 (nI (P + 1 + 1))) (m + 25) (dp + 1) (nI (P + 1))) (m + 0) 26 (nI (P + 2 + 1))) (m + 26) (dp + 1) (nI (P + 2)) (m + 25) (dp + 1) = nI (P + 1) := fun i4 => by
        rw [wf_up_a (by omega), wf_up_a (by omega)]; exact wf_up_s
      rw [b5]
      have g5 : g_is (wf_up (wf_up (wf_up (wf_up _ (m + 0) 26 (nI (P + 1 + 1))) (m + 25) (dp + 1) (nI (P + 1))) (m + 0) 26 (nI (P + 2 + 1))) (m + 26) (dp + 1) (nI (P + 2))) m b (G ++ [(a, P, 0, 0)]) := (((e1.up (Or.inl ⟨rfl, by decide⟩)).up (Or.inr (by omega))).up (Or.inl ⟨rfl, by decide⟩)).up (Or.inr (by omega))
      have s5 := dr_up (c := 26) (k := dp + 1) (x := nI (P + 2)) (dr_up (c := 0) (k := 26) (x := nI (P + 2 + 1)) (dr_up (c := 25) (k := dp + 1) (x := nI (P + 1)) (dr_up (c := 0) (k := 26) (x := nI (P + 1 + 1)) (mf_ss s2 (ge_dr e2)) (Or.inl ⟨rfl, Or.inl rfl⟩)) (Or.inr ⟨by omega, by omega, by omega⟩)) (Or.inl ⟨rfl, Or.inl rfl⟩)) (Or.inr ⟨by omega, by omega, by omega⟩)
      have p5 : ∀ (i4 : Wi), wf_up (wf_up (wf_up (wf_up i4 (m + 0) 26 (nI (P + 1 + 1))) (m + 25) (dp + 1) (nI (P + 1))) (m + 0) 26 (nI (P + 2 + 1))) (m + 26) (dp + 1) (nI (P + 2)) (m + 0) 26 = nI (P + 3) := fun i4 => (wf_up_a (by omega)).trans wf_up_s
      have f5 : ∀ (i4 : Wi), wf_up (wf_up (wf_up (wf_up i4 (m + 0) 26 (nI (P + 1 + 1))) (m + 25) (dp + 1) (nI (P + 1))) (m + 0) 26 (nI (P + 2 + 1))) (m + 26) (dp + 1) (nI (P + 2)) (m + 0) 37 = i4 (m + 0) 37 := fun i4 => by
        rw [wf_up_a (by omega), wf_up_k (by decide), wf_up_a (by omega), wf_up_k (by decide)]
      have c5 : ∀ (i4 : Wi), wf_up (wf_up (wf_up (wf_up i4 (m + 0) 26 (nI (P + 1 + 1))) (m + 25) (dp + 1) (nI (P + 1))) (m + 0) 26 (nI (P + 2 + 1))) (m + 26) (dp + 1) (nI (P + 2)) (m + 26) (dp + 1) = nI (P + 2) := fun i4 => wf_up_s
      have lo5 : ∀ (i4 : Wi) (o k : Nat), 25 ≤ o → o ≤ 27 → k ≠ dp + 1 → wf_up (wf_up (wf_up (wf_up i4 (m + 0) 26 (nI (P + 1 + 1))) (m + 25) (dp + 1) (nI (P + 1))) (m + 0) 26 (nI (P + 2 + 1))) (m + 26) (dp + 1) (nI (P + 2)) (m + o) k = i4 (m + o) k := fun i4 o k h1 h2 h3 => by
        rw [wf_up_k h3, wf_up_a (by omega), wf_up_k h3, wf_up_a (by omega)]
      have l5 : lvl (wf_up (wf_up (wf_up (wf_up _ (m + 0) 26 (nI (P + 1 + 1))) (m + 25) (dp + 1) (nI (P + 1))) (m + 0) 26 (nI (P + 2 + 1))) (m + 26) (dp + 1) (nI (P + 2))) m (dp + 1) (up1 bg (dp + 1) (P + 1)) (up1 cl (dp + 1) (P + 2)) (up1 ou (dp + 1) P) := fun j hj => by
        by_cases hje : j = dp + 1
        · rw [hje, up1_s, up1_s, up1_s]
          exact ⟨b5 _, c5 _, fun _ => o5 _ o4⟩
        · obtain ⟨a1, a2, a3⟩ := l4 j (by omega)
          rw [show up1 bg (dp + 1) (P + 1) j = bg j from if_neg hje, show up1 cl (dp + 1) (P + 2) j = cl j from if_neg hje, show up1 ou (dp + 1) P j = ou j from if_neg hje]
          exact ⟨(lo5 _ 25 j (by omega) (by omega) hje).trans a1, (lo5 _ 26 j (by omega) (by omega) hje).trans a2, fun z => (lo5 _ 27 j (by omega) (by omega) hje).trans (a3 z)⟩
      have f5' := (f5 _).trans f4
      have p5' := p5 (by assumption)
      rename_i i4
      generalize hi5 : wf_up (wf_up (wf_up (wf_up _ (m + 0) 26 (nI (P + 1 + 1))) (m + 25) (dp + 1) (nI (P + 1))) (m + 0) 26 (nI (P + 2 + 1))) (m + 26) (dp + 1) (nI (P + 2)) = i5 at g5 s5 l5 f5' ⊢
      have p6 : i5 (m + 0) 26 = nI (P + 3) := by rw [← hi5]; exact p5 _
      have b6 : i5 (m + 25) (dp + 1) = nI (P + 1) := by rw [← hi5]; exact b5 _
      refine wf_iconst 0 dc_Mod_draw_298 (by decide) ?_
      refine wf_iconst 0 dc_Mod_draw_299 (by decide) ?_
      refine wf_iv4 (M' := mt_Mod_edge) (c := 8) dc_Mod_draw_300 tg_Mod_edge ml_Mod_134 im_Mod_edge se_Mod_edge ⟨_, rfl, rfl⟩ (by assumption) (Nat.le_of_ble_eq_true rfl) (Nat.le_refl _) (Nat.le_refl _) (c_Mod_edge (P, P + 1, 0, 0) hA g5 (by rw [List.length_append]; simp only [List.length_cons, List.length_nil]; omega) rfl rfl rfl rfl) qV_nt (qV_go (fun i2 hp => ?_))
      obtain ⟨⟨h1, h2⟩, h3⟩ := hp
      have l6 := l5.ge h2
      have f6 := (h2.at (c := 0) (k := 37) (by simp [ms_no])).trans f5'
      have b7 := (h2.at (c := 25) (k := dp + 1) (by simp [ms_no])).trans b6
      refine wf_aload_n dc_Mod_draw_303 rfl ?_
      refine wf_iv0 (M' := mt_Mod_point) (c := 8) dc_Mod_draw_304 tg_Mod_point ml_Mod_130 im_Mod_point se_Mod_point ⟨_, rfl, rfl⟩ (by assumption) (Nat.le_of_ble_eq_true rfl) (Nat.le_refl _) (Nat.le_refl _) (c_Mod_point hA (h3.trans p6)) qI_nt (qI_go (fun x2 i2 hp => ?_))
      obtain ⟨rfl, rfl⟩ := hp
      refine wf_istore dc_Mod_draw_307 (by decide) ?_
      refine wf_aload_n dc_Mod_draw_309 rfl ?_
      refine wf_aload_n dc_Mod_draw_310 rfl ?_
      refine wf_getr dc_Mod_draw_311 fl_Mod_90 rfl (by assumption) (by assumption) ?_
      refine wf_iload dc_Mod_draw_314 rfl ?_
      refine wf_iaload (y := 0) dc_Mod_draw_316 rfl (by assumption) (vp_in_nI (by omega) (by omega)) ?_
      rw [cd1, wf_up_a (by omega), b7]
      refine wf_iload dc_Mod_draw_317 rfl ?_
      refine wf_iconst 0 dc_Mod_draw_319 (by decide) ?_
      refine wf_iconst 0 dc_Mod_draw_320 (by decide) ?_
      refine wf_iv4 (M' := mt_Mod_edge) (c := 8) dc_Mod_draw_321 tg_Mod_edge ml_Mod_134 im_Mod_edge se_Mod_edge ⟨_, rfl, rfl⟩ (by assumption) (Nat.le_of_ble_eq_true rfl) (Nat.le_refl _) (Nat.le_refl _) (c_Mod_edge (P + 1, P + 3, 0, 0) hA (h1.up (Or.inl ⟨rfl, by decide⟩)) (by rw [List.length_append, List.length_append]; simp only [List.length_cons, List.length_nil]; omega) rfl rfl rfl rfl) qV_nt (qV_go (fun i2 hp => ?_))
      obtain ⟨⟨k1, k2⟩, k3⟩ := hp
      have hGx : G ++ [(a, P, 0, 0)] ++ [(P, P + 1, 0, 0)] ++ [(P + 1, P + 3, 0, 0)] = G ++ [(a, P, 0, 0), (P, P + 1, 0, 0), (P + 1, P + 3, 0, 0)] := by
        simp only [List.append_assoc, List.cons_append, List.nil_append]
      rw [hGx] at k1
      have f7 := (k2.at (c := 0) (k := 37) (by simp [ms_no])).trans ((wf_up_k (by decide)).trans f6)
      have s7 := mf_ss (dr_up (c := 0) (k := 26) (x := nI (P + 3 + 1)) (mf_ss s5 (ge_dr h2)) (Or.inl ⟨rfl, Or.inl rfl⟩)) (ge_dr k2)
      have p7 : _ = nI (P + 3 + 1) := k3.trans wf_up_s
      refine wf_iconst (-1) dc_Mod_draw_324 (by decide) ?_
      refine wf_istore dc_Mod_draw_325 (by decide) ?_
      refine wf_goto 515 dc_Mod_draw_327 (by decide) ?_
      rcases q5 with ⟨z1, z2⟩ | ⟨z1, z2⟩
      · rw [if_neg z2] at hst
        exact Wf.to (by exact ⟨rfl, rfl, rfl, rfl, rfl, rfl, rfl, trivial⟩) (nxt (P + 4) _ _ _ _ (dp + 1) (P + 3) none pl _ hst p7 k1 (f7.trans z1) (l6.up.ge k2) s7)
      · rw [if_pos z2] at hst
        exact Wf.to (by exact ⟨rfl, rfl, rfl, rfl, rfl, rfl, trivial⟩) (flt pl _ _ _ _ _ hst (by omega) k1 (by rw [List.length_append]; simp only [List.length_cons, List.length_nil]; omega) (f7.trans z1) s7)
    refine wf_iload dc_Mod_draw_219 rfl ?_
    refine wf_bipush 10 dc_Mod_draw_221 (by decide) ?_
    by_cases c10 : dp = 10
    · refine wf_icmp_ne 232 dc_Mod_draw_223 (by decide) (fun hc => absurd (by rw [c10]; rfl) hc) (fun hc => ?_)
      refine wf_aload_n dc_Mod_draw_226 rfl ?_
      refine wf_iload dc_Mod_draw_227 rfl ?_
      refine wf_iv1 (M' := mt_Mod_fail) (c := 8) dc_Mod_draw_229 tg_Mod_fail ml_Mod_127 im_Mod_fail se_Mod_fail ⟨_, rfl, rfl⟩ (by assumption) (Nat.le_of_ble_eq_true rfl) (Nat.le_refl _) (Nat.le_refl _) (c_Mod_fail hA) qV_nt (qV_go (fun i2 hp => ?_))
      have := fv _ _ hp
      subst this
      exact Wf.to (by exact ⟨rfl, rfl, rfl, rfl, rfl, rfl, trivial⟩) (opn _ ((wf_up_k (by decide)).trans hP) (hG.up (Or.inl ⟨rfl, by decide⟩)) hL.up (dr_up hf (Or.inl ⟨rfl, Or.inr rfl⟩)) (Or.inr ⟨wf_up_s, c10⟩))
    · refine wf_icmp_ne 232 dc_Mod_draw_223 (by decide) (fun hc => ?_) (fun hc => absurd ((nI_eq (b := 10) (by omega) (by omega)).mp hc) c10)
      exact Wf.to (by exact ⟨rfl, rfl, rfl, rfl, rfl, rfl, trivial⟩) (opn i1 hP hG hL hf (Or.inl ⟨h37, c10⟩))
  refine wf_icmp_ne 330 dc_Mod_draw_216 (by decide) (fun hc => ?_) (fun hc => absurd hc c40)
  rw [if_neg c40] at hst
  refine wf_iload dc_Mod_draw_330 rfl ?_
  refine wf_bipush 41 dc_Mod_draw_332 (by decide) ?_
  by_cases c41 : c = 41
  · refine wf_icmp_ne 402 dc_Mod_draw_334 (by decide) (fun hc => absurd c41 hc) (fun hc => ?_)
    rw [if_pos c41] at hst
    refine wf_iload dc_Mod_draw_337 rfl ?_
    by_cases c0 : dp = 0
    · refine wf_if_ne 351 dc_Mod_draw_339 (by decide) (fun hc => absurd (by rw [c0]; rfl) hc) (fun hc => ?_)
      rw [if_pos c0] at hst
      refine wf_aload_n dc_Mod_draw_342 rfl ?_
      refine wf_iload dc_Mod_draw_343 rfl ?_
      refine wf_iv1 (M' := mt_Mod_fail) (c := 8) dc_Mod_draw_345 tg_Mod_fail ml_Mod_127 im_Mod_fail se_Mod_fail ⟨_, rfl, rfl⟩ (by assumption) (Nat.le_of_ble_eq_true rfl) (Nat.le_refl _) (Nat.le_refl _) (c_Mod_fail hA) qV_nt (qV_go (fun i2 hp => ?_))
      refine wf_goto 515 dc_Mod_draw_348 (by decide) ?_
      have := fv _ _ hp
      subst this
      exact Wf.to (by exact ⟨rfl, rfl, rfl, rfl, rfl, rfl, trivial⟩) (flt pl _ G _ _ _ hst (by omega) (hG.up (Or.inl ⟨rfl, by decide⟩)) (by omega) wf_up_s (dr_up hf (Or.inl ⟨rfl, Or.inr rfl⟩)))
    · refine wf_if_ne 351 dc_Mod_draw_339 (by decide) (fun hc => ?_) (fun hc => absurd hc (nI_ne0 (by omega) (by omega)))
      rw [if_neg c0] at hst
      refine wf_aload_n dc_Mod_draw_351 rfl ?_
      refine wf_iload dc_Mod_draw_352 rfl ?_
      refine wf_aload_n dc_Mod_draw_354 rfl ?_
      refine wf_getr dc_Mod_draw_355 fl_Mod_93 rfl (by assumption) (by assumption) ?_
      refine wf_iload dc_Mod_draw_358 rfl ?_
      refine wf_iaload (y := 0) dc_Mod_draw_360 rfl (by assumption) (vp_in_nI (by omega) (by omega)) ?_
      rw [cdp, L2]
      refine wf_iconst 0 dc_Mod_draw_361 (by decide) ?_
      refine wf_iconst 0 dc_Mod_draw_362 (by decide) ?_
      refine wf_iv4 (M' := mt_Mod_edge) (c := 8) dc_Mod_draw_363 tg_Mod_edge ml_Mod_134 im_Mod_edge se_Mod_edge ⟨_, rfl, rfl⟩ (by assumption) (Nat.le_of_ble_eq_true rfl) (Nat.le_refl _) (Nat.le_refl _) (c_Mod_edge (a, cl dp, 0, 0) hA hG (by omega) rfl rfl rfl rfl) qV_nt (qV_go (fun i2 hp => ?_))
      obtain ⟨⟨e1, e2⟩, e3⟩ := hp
      have kL := hL.ge e2
      have k37 := (e2.at (c := 0) (k := 37) (by simp [ms_no])).trans h37
      refine wf_aload_n dc_Mod_draw_366 rfl ?_
      refine wf_iv0 (M' := mt_Mod_point) (c := 8) dc_Mod_draw_367 tg_Mod_point ml_Mod_130 im_Mod_point se_Mod_point ⟨_, rfl, rfl⟩ (by assumption) (Nat.le_of_ble_eq_true rfl) (Nat.le_refl _) (Nat.le_refl _) (c_Mod_point hA (e3.trans hP)) qI_nt (qI_go (fun x2 i2 hp => ?_))
      obtain ⟨rfl, rfl⟩ := hp
      have kL2 := kL.up (k := 26) (x := nI (P + 1))
      refine wf_istore dc_Mod_draw_370 (by decide) ?_
      refine wf_aload_n dc_Mod_draw_372 rfl ?_
      refine wf_aload_n dc_Mod_draw_373 rfl ?_
      refine wf_getr dc_Mod_draw_374 fl_Mod_93 rfl (by assumption) (by assumption) ?_
      refine wf_iload dc_Mod_draw_377 rfl ?_
      refine wf_iaload (y := 0) dc_Mod_draw_379 rfl (by assumption) (vp_in_nI (by omega) (by omega)) ?_
      rw [cdp, (kL2 dp (Nat.le_refl _)).2.1]
      refine wf_iload dc_Mod_draw_380 rfl ?_
      refine wf_iconst 0 dc_Mod_draw_382 (by decide) ?_
      refine wf_iconst 0 dc_Mod_draw_383 (by decide) ?_
      refine wf_iv4 (M' := mt_Mod_edge) (c := 8) dc_Mod_draw_384 tg_Mod_edge ml_Mod_134 im_Mod_edge se_Mod_edge ⟨_, rfl, rfl⟩ (by assumption) (Nat.le_of_ble_eq_true rfl) (Nat.le_refl _) (Nat.le_refl _) (c_Mod_edge (cl dp, P, 0, 0) hA (e1.up (Or.inl ⟨rfl, by decide⟩)) (by rw [List.length_append]; simp only [List.length_cons, List.length_nil]; omega) rfl rfl rfl rfl) qV_nt (qV_go (fun i2 hp => ?_))
      obtain ⟨⟨f1, f2⟩, f3⟩ := hp
      have kL3 := kL2.ge f2
      refine wf_aload_n dc_Mod_draw_387 rfl ?_
      refine wf_getr dc_Mod_draw_388 fl_Mod_96 rfl (by assumption) (by assumption) ?_
      refine wf_iload dc_Mod_draw_391 rfl ?_
      refine wf_iaload (y := 0) dc_Mod_draw_393 rfl (by assumption) (vp_in_nI (by omega) (by omega)) ?_
      rw [cdp, (kL3 dp (Nat.le_refl _)).2.2 (by omega)]
      rw [List.append_assoc] at f1
      have hdm : nI dp + (-1) = nI (dp - 1) := by rw [show dp = dp - 1 + 1 by omega, pk_m1]; rfl
      refine wf_istore dc_Mod_draw_394 (by decide) ?_
      refine wf_iinc _ dc_Mod_draw_396 rfl (hdm) (by decide) ?_
      refine wf_goto 515 dc_Mod_draw_399 (by decide) ?_
      exact Wf.to (by exact ⟨rfl, rfl, rfl, rfl, rfl, rfl, rfl, trivial⟩) (nxt (P + 1) _ bg cl ou (dp - 1) P (some (ou dp)) pl _ hst (f3.trans wf_up_s) f1 ((f2.at (by simp [ms_no])).trans ((wf_up_k (by decide)).trans k37)) (fun j hj => kL3 j (by omega)) (mf_ss (dr_up (mf_ss hf (ge_dr e2)) (Or.inl ⟨rfl, Or.inl rfl⟩)) (ge_dr f2)))
  refine wf_icmp_ne 402 dc_Mod_draw_334 (by decide) (fun hc => ?_) (fun hc => absurd hc c41)
  rw [if_neg c41] at hst
  refine wf_iload dc_Mod_draw_402 rfl ?_
  refine wf_bipush 93 dc_Mod_draw_404 (by decide) ?_
  by_cases c93 : c = 93
  · refine wf_icmp_ne 418 dc_Mod_draw_406 (by decide) (fun hc => absurd c93 hc) (fun hc => ?_)
    rw [if_pos c93] at hst
    refine wf_aload_n dc_Mod_draw_409 rfl ?_
    refine wf_iload dc_Mod_draw_410 rfl ?_
    refine wf_iv1 (M' := mt_Mod_fail) (c := 8) dc_Mod_draw_412 tg_Mod_fail ml_Mod_127 im_Mod_fail se_Mod_fail ⟨_, rfl, rfl⟩ (by assumption) (Nat.le_of_ble_eq_true rfl) (Nat.le_refl _) (Nat.le_refl _) (c_Mod_fail hA) qV_nt (qV_go (fun i2 hp => ?_))
    refine wf_goto 515 dc_Mod_draw_415 (by decide) ?_
    have := fv _ _ hp
    subst this
    exact Wf.to (by exact ⟨rfl, rfl, rfl, rfl, rfl, rfl, trivial⟩) (flt pl _ G _ _ _ hst (by omega) (hG.up (Or.inl ⟨rfl, by decide⟩)) (by omega) wf_up_s (dr_up hf (Or.inl ⟨rfl, Or.inr rfl⟩)))
  refine wf_icmp_ne 418 dc_Mod_draw_406 (by decide) (fun hc => ?_) (fun hc => absurd hc c93)
  rw [if_neg c93] at hst
  refine wf_aload_n dc_Mod_draw_418 rfl ?_
  refine wf_iv0 (M' := mt_Mod_point) (c := 8) dc_Mod_draw_419 tg_Mod_point ml_Mod_130 im_Mod_point se_Mod_point ⟨_, rfl, rfl⟩ (by assumption) (Nat.le_of_ble_eq_true rfl) (Nat.le_refl _) (Nat.le_refl _) (c_Mod_point hA hP) qI_nt (qI_go (fun x2 i2 hp => ?_))
  obtain ⟨rfl, rfl⟩ := hp
  refine wf_istore dc_Mod_draw_422 (by decide) ?_
  refine wf_aload_n dc_Mod_draw_424 rfl ?_
  refine wf_iload dc_Mod_draw_425 rfl ?_
  refine wf_iload dc_Mod_draw_427 rfl ?_
  refine wf_iconst 0 dc_Mod_draw_429 (by decide) ?_
  refine wf_iconst 0 dc_Mod_draw_430 (by decide) ?_
  refine wf_iv4 (M' := mt_Mod_edge) (c := 8) dc_Mod_draw_431 tg_Mod_edge ml_Mod_134 im_Mod_edge se_Mod_edge ⟨_, rfl, rfl⟩ (by assumption) (Nat.le_of_ble_eq_true rfl) (Nat.le_refl _) (Nat.le_refl _) (c_Mod_edge (a, P, 0, 0) hA (hG.up (Or.inl ⟨rfl, by decide⟩)) (by omega) rfl rfl rfl rfl) qV_nt (qV_go (fun i2 hp => ?_))
  obtain ⟨⟨e1, e2⟩, e3⟩ := hp
  have kL := (hL.up (k := 26) (x := nI (P + 1))).ge e2
  have k37 := (e2.at (c := 0) (k := 37) (by simp [ms_no])).trans ((wf_up_k (by decide)).trans h37)
  have s1 := mf_ss (dr_up (c := 0) (k := 26) (x := nI (P + 1)) hf (Or.inl ⟨rfl, Or.inl rfl⟩)) (ge_dr e2)
  refine wf_aload_n dc_Mod_draw_434 rfl ?_
  refine wf_iv0 (M' := mt_Mod_point) (c := 8) dc_Mod_draw_435 tg_Mod_point ml_Mod_130 im_Mod_point se_Mod_point ⟨_, rfl, rfl⟩ (by assumption) (Nat.le_of_ble_eq_true rfl) (Nat.le_refl _) (Nat.le_refl _) (c_Mod_point hA (e3.trans wf_up_s)) qI_nt (qI_go (fun x2 i2 hp => ?_))
  obtain ⟨rfl, rfl⟩ := hp
  have gB := e1.up (c := 0) (k := 26) (x := nI (P + 1 + 1)) (Or.inl ⟨rfl, by decide⟩)
  have lB := kL.up (k := 26) (x := nI (P + 1 + 1))
  have sB := dr_up (c := 0) (k := 26) (x := nI (P + 1 + 1)) s1 (Or.inl ⟨rfl, Or.inl rfl⟩)
  have fB := (wf_up_k (a := m + 0) (k := 26) (v := nI (P + 1 + 1)) (show (37 : Nat) ≠ 26 by decide)).trans k37
  generalize hiB : wf_up _ (m + 0) 26 (nI (P + 1 + 1)) = iB at gB lB sB fB ⊢
  have pB : iB (m + 0) 26 = nI (P + 2) := by rw [← hiB]; exact wf_up_s
  have lenB : (G ++ [(a, P, 0, 0)]).length = G.length + 1 := by rw [List.length_append]; rfl
  -- the edge of the sign
  have sgn : ∀ (k : Nat), k = dr_kd c → Wf l E n0 mt_Mod_draw (d + 2) 0 0 Q 0 0 468 [(0, .ref (m + 0)), (2, .int (nI b)), (3, .int (nI (b + T.length))), (4, .int (nI dp)), (5, .int (nI (P + 1))), (6, .int (nI P)), (7, .int (nI (b + pl))), (8, .int c)] [.int (nI k), .int (nI (P + 1)), .int (nI P), .ref (m + 0)] nx t r iB g := by
    intro k hk
    have hk0 : k ≠ 0 := by
      rw [hk]
      unfold dr_kd
      split
      · decide
      · split <;> decide
    refine wf_iload dc_Mod_draw_468 rfl ?_
    refine wf_iv4 (M' := mt_Mod_edge) (c := 8) dc_Mod_draw_470 tg_Mod_edge ml_Mod_134 im_Mod_edge se_Mod_edge ⟨_, rfl, rfl⟩ (by assumption) (Nat.le_of_ble_eq_true rfl) (Nat.le_refl _) (Nat.le_refl _) (c_Mod_edge (P, P + 1, k, pl) hA gB (by omega) rfl rfl rfl (congrArg nI (if_neg hk0).symm)) qV_nt (qV_go (fun i2 hp => ?_))
    obtain ⟨⟨h1, h2⟩, h3⟩ := hp
    rw [List.append_assoc] at h1
    have lC := lB.ge h2
    have fC := (h2.at (c := 0) (k := 37) (by simp [ms_no])).trans fB
    have sC := mf_ss sB (ge_dr h2)
    have pC := h3.trans pB
    have lenC : (G ++ ([(a, P, 0, 0)] ++ [(P, P + 1, k, pl)])).length = G.length + 2 := by rw [List.length_append]; rfl
    refine wf_iload dc_Mod_draw_473 rfl ?_
    refine wf_bipush 92 dc_Mod_draw_475 (by decide) ?_
    by_cases c92 : c = 92
    · refine wf_icmp_ne 497 dc_Mod_draw_477 (by decide) (fun hc => absurd c92 hc) (fun hc => ?_)
      rw [if_pos c92] at hst
      have hk3 : k = 3 := by rw [hk, c92]; rfl
      subst hk3
      refine wf_iinc _ dc_Mod_draw_480 rfl (nI_1 (b + pl)) (by decide) ?_
      refine wf_iload dc_Mod_draw_483 rfl ?_
      refine wf_iload_n dc_Mod_draw_485 rfl ?_
      by_cases hl : pl + 1 < T.length
      · refine wf_icmp_lt 515 dc_Mod_draw_486 (by decide) (fun hc => ?_) (fun hc => absurd ((nI_ltI (by omega) (by omega)).mpr (by omega)) hc)
        rw [if_pos hl] at hst
        exact Wf.to (by exact ⟨rfl, rfl, rfl, rfl, rfl, rfl, rfl, trivial⟩) (nxt (P + 2) _ bg cl ou dp (P + 1) (some P) (pl + 1) _ hst pC h1 fC lC sC)
      · refine wf_icmp_lt 515 dc_Mod_draw_486 (by decide) (fun hc => absurd ((nI_ltI (by omega) (by omega)).mp hc) (by omega)) (fun hc => ?_)
        rw [if_neg hl] at hst
        refine wf_aload_n dc_Mod_draw_489 rfl ?_
        refine wf_iload_n dc_Mod_draw_490 rfl ?_
        refine wf_iv1 (M' := mt_Mod_fail) (c := 8) dc_Mod_draw_491 tg_Mod_fail ml_Mod_127 im_Mod_fail se_Mod_fail ⟨_, rfl, rfl⟩ (by assumption) (Nat.le_of_ble_eq_true rfl) (Nat.le_refl _) (Nat.le_refl _) (c_Mod_fail hA) qV_nt (qV_go (fun i2 hp => ?_))
        refine wf_goto 515 dc_Mod_draw_494 (by decide) ?_
        rw [if_pos fC] at hp
        subst hp
        exact Wf.to (by exact ⟨rfl, rfl, rfl, rfl, rfl, rfl, trivial⟩) (flt T.length _ _ _ _ _ hst (Nat.le_refl _) (h1.up (Or.inl ⟨rfl, by decide⟩)) (by omega) wf_up_s (dr_up sC (Or.inl ⟨rfl, Or.inr rfl⟩)))
    refine wf_icmp_ne 497 dc_Mod_draw_477 (by decide) (fun hc => ?_) (fun hc => absurd hc c92)
    rw [if_neg c92] at hst
    refine wf_iload dc_Mod_draw_497 rfl ?_
    refine wf_bipush 91 dc_Mod_draw_499 (by decide) ?_
    by_cases c91 : c = 91
    · refine wf_icmp_ne 515 dc_Mod_draw_501 (by decide) (fun hc => absurd c91 hc) (fun hc => ?_)
      rw [if_pos c91] at hst
      have hk3 : k = 3 := by rw [hk, c91]; rfl
      subst hk3
      have hTC := hT.fr sC (by decide)
      obtain ⟨k1, k2⟩ := ps_set_ok (S := T) (p := pl + 1) (by omega)
      refine wf_aload_n dc_Mod_draw_504 rfl ?_
      refine wf_iload dc_Mod_draw_505 rfl ?_
      refine wf_iconst 1 dc_Mod_draw_507 (by decide) ?_
      refine wf_iadd dc_Mod_draw_508 ?_
      rw [nI_1]
      refine wf_iload_n dc_Mod_draw_509 rfl ?_
      refine wf_iv2 (M' := mt_Mod_items) (c := 8) dc_Mod_draw_510 tg_Mod_items ml_Mod_138 im_Mod_items se_Mod_items ⟨_, rfl, rfl⟩ (by assumption) (Nat.le_of_ble_eq_true rfl) (Nat.le_refl _) (Nat.le_refl _) (c_Mod_items (p := pl + 1) hA hTC hb h60 hz (by omega) fC) qI_nt (qI_go (fun x2 i2 hp => ?_))
      cases hps : ps_set T (pl + 1) with
      | inl e =>
        rw [hps] at hp hst
        dsimp only at hp hst
        subst hp
        refine wf_istore dc_Mod_draw_513 (by decide) ?_
        exact Wf.to (by exact ⟨rfl, rfl, rfl, rfl, rfl, rfl, trivial⟩) (flt e _ _ _ _ _ hst (k1 e hps) (h1.up (Or.inl ⟨rfl, by decide⟩)) (by omega) wf_up_s (dr_up sC (Or.inl ⟨rfl, Or.inr rfl⟩)))
      | inr q =>
        have hk := k2 q hps
        rw [hps] at hp hst
        dsimp only at hp hst
        obtain ⟨rfl, hii⟩ := hp
        subst hii
        refine wf_istore dc_Mod_draw_513 (by decide) ?_
        have hq1 : q.1 = q.1 - 1 + 1 := by omega
        rw [hq1] at hst
        exact Wf.to (by exact ⟨rfl, rfl, rfl, rfl, rfl, rfl, rfl, trivial⟩) (nxt (P + 2) _ bg cl ou dp (P + 1) (some P) (q.1 - 1) _ hst pC h1 fC lC sC)
    · refine wf_icmp_ne 515 dc_Mod_draw_501 (by decide) (fun hc => ?_) (fun hc => absurd hc c91)
      rw [if_neg c91, ← hk] at hst
      exact Wf.to (by exact ⟨rfl, rfl, rfl, rfl, rfl, rfl, rfl, trivial⟩) (nxt (P + 2) _ bg cl ou dp (P + 1) (some P) pl _ hst pC h1 fC lC sC)
  refine wf_istore dc_Mod_draw_438 (by decide) ?_
  refine wf_aload_n dc_Mod_draw_440 rfl ?_
  refine wf_iload dc_Mod_draw_441 rfl ?_
  refine wf_iload dc_Mod_draw_443 rfl ?_
  refine wf_iload dc_Mod_draw_445 rfl ?_
  refine wf_bipush 94 dc_Mod_draw_447 (by decide) ?_
  by_cases c94 : c = 94
  · refine wf_icmp_ne 456 dc_Mod_draw_449 (by decide) (fun hc => absurd c94 hc) (fun hc => ?_)
    refine wf_iconst 1 dc_Mod_draw_452 (by decide) ?_
    refine wf_goto 468 dc_Mod_draw_453 (by decide) ?_
    exact Wf.to (by exact ⟨rfl, rfl, rfl, rfl, rfl, rfl, rfl, rfl, trivial⟩) (sgn 1 (by rw [c94]; rfl))
  refine wf_icmp_ne 456 dc_Mod_draw_449 (by decide) (fun hc => ?_) (fun hc => absurd hc c94)
  refine wf_iload dc_Mod_draw_456 rfl ?_
  refine wf_bipush 36 dc_Mod_draw_458 (by decide) ?_
  by_cases c36 : c = 36
  · refine wf_icmp_ne 467 dc_Mod_draw_460 (by decide) (fun hc => absurd c36 hc) (fun hc => ?_)
    refine wf_iconst 2 dc_Mod_draw_463 (by decide) ?_
    refine wf_goto 468 dc_Mod_draw_464 (by decide) ?_
    exact Wf.to (by exact ⟨rfl, rfl, rfl, rfl, rfl, rfl, rfl, rfl, trivial⟩) (sgn 2 (by rw [c36]; rfl))
  refine wf_icmp_ne 467 dc_Mod_draw_460 (by decide) (fun hc => ?_) (fun hc => absurd hc c36)
  refine wf_iconst 3 dc_Mod_draw_467 (by decide) ?_
  exact Wf.to (by exact ⟨rfl, rfl, rfl, rfl, rfl, rfl, rfl, rfl, trivial⟩) (sgn 3 ((if_neg c94).trans (if_neg c36)).symm)
end
