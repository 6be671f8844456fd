/-! the reference: expression -/
def xm_S (k : Nat) : Ms := dr_S ++ [(0, 0, 1), (1, 960, 1080), (2, 0, 1), (3, 60 * k, 60 * k + 60), (4, k, k + 1)]
theorem dr_ne {c : Nat} (h : 1 ≤ c ∧ c ≤ 18) : ∀ q ∈ dr_S, q.1 ≠ c := by
  intro q hq
  simp only [dr_S, List.mem_cons, List.not_mem_nil, or_false] at hq
  rcases hq with rfl | rfl | rfl | rfl | rfl | rfl | rfl | rfl | rfl <;> simp only <;> omega
theorem dr_no {c lo hi : Nat} (h : 1 ≤ c ∧ c ≤ 18) : ms_no dr_S c lo hi := fun q hq z => absurd z (dr_ne h q hq)
theorem dr_no0 {lo hi : Nat} (h : hi ≤ 26 ∨ (28 ≤ lo ∧ hi ≤ 37)) : ms_no dr_S 0 lo hi := by
  intro q hq z
  simp only [dr_S, List.mem_cons, List.not_mem_nil, or_false] at hq
  rcases hq with rfl | rfl | rfl | rfl | rfl | rfl | rfl | rfl | rfl <;> simp only at z ⊢ <;> omega
theorem xm_no {k c lo hi : Nat} (h : (c = 0 ∧ 1 ≤ lo ∧ hi ≤ 26) ∨ (c = 1 ∧ hi ≤ 960) ∨ (c = 2 ∧ 1 ≤ lo) ∨ (c = 3 ∧ (hi ≤ 60 * k ∨ 60 * k + 60 ≤ lo)) ∨ (c = 4 ∧ (hi ≤ k ∨ k + 1 ≤ lo)) ∨ (5 ≤ c ∧ c ≤ 18)) : ms_no (xm_S k) c lo hi := by
  intro q hq z
  unfold xm_S at hq
  rcases List.mem_append.mp hq with hq | hq
  · by_cases hc : c = 0
    · subst hc
      exact dr_no0 (lo := lo) (hi := hi) (by omega) q hq z
    · exact absurd z (dr_ne (by omega) q hq)
  · simp only [List.mem_cons, List.not_mem_nil, or_false] at hq
    rcases hq with rfl | rfl | rfl | rfl | rfl <;> simp only at z ⊢ <;> omega
section
variable {l : Launch} {E : We} {n0 d nx : Nat} {t : Wt} {r : Wr} {i i1 i2 : Wi} {g : Wl} {m : Nat} {S : Ms}
theorem c_Mod_expression {sx : Nat → List Int32} {w : List Int32} {x : Int32} (hA : mo_at t r m) (hP : mr i m 0 w) (hw : s1 w) (hX : mp_exp i m sx) : Ct l E n0 mt_Mod_expression (d + 3) 0 0 [.ref (m + 0), .int x] nx t r i g (qI nx t r g (fun z i' => if bw x 0 5 = true then (if 60 < w.length then i' = wf_up i (m + 0) 0 2 else i' (m + 0) 0 = 0 ∧ mf m (xm_S x.toNatClampNeg) i i' ∧ match ps_read w with
    | .inl e => z = nI (e + 1) ∧ mr i' m 0 w ∧ mp_exp i' m sx
    | .inr _ => z = 0 ∧ mr i' m 0 [] ∧ mp_exp i' m (fun j => if j = x.toNatClampNeg then w else sx j)) else i' = wf_up i (m + 0) 0 1)) := by
  have t0 := hA.1.1
  have r1 : r (m + 0) 1 = some (m + 1) := hA.2 (0, 1, 1) (by decide +kernel)
  have r2 : r (m + 0) 2 = some (m + 2) := hA.2 (0, 2, 2) (by decide +kernel)
  have r3 : r (m + 0) 3 = some (m + 3) := hA.2 (0, 3, 3) (by decide +kernel)
  have r4 : r (m + 0) 4 = some (m + 4) := hA.2 (0, 4, 4) (by decide +kernel)
  have t1 := hA.1.2 1 (1, .inr (0, 1080)) (by decide +kernel)
  have t2 := hA.1.2 2 (2, .inr (0, 9)) (by decide +kernel)
  have t3 := hA.1.2 3 (3, .inr (0, 360)) (by decide +kernel)
  have t4 := hA.1.2 4 (4, .inr (0, 6)) (by decide +kernel)
  have hl := hw.1
  generalize hQ : (qI nx t r g (fun z i' => if bw x 0 5 = true then (if 60 < w.length then i' = wf_up i (m + 0) 0 2 else i' (m + 0) 0 = 0 ∧ mf m (xm_S x.toNatClampNeg) i i' ∧ match ps_read w with
    | .inl e => z = nI (e + 1) ∧ mr i' m 0 w ∧ mp_exp i' m sx
    | .inr _ => z = 0 ∧ mr i' m 0 [] ∧ mp_exp i' m (fun j => if j = x.toNatClampNeg then w else sx j)) else i' = wf_up i (m + 0) 0 1)) = Q0
  refine Ct.of (by decide) (Nat.le_of_ble_eq_true rfl) ?_
  have e5 : bw x (Int32.toInt 0) (Int32.toInt 5) = bw x 0 5 := rfl
  refine wf_aload_n dc_Mod_expression_0 rfl ?_
  refine wf_iload_n dc_Mod_expression_1 rfl ?_
  refine wf_iconst 0 dc_Mod_expression_2 (by decide) ?_
  refine wf_iconst 5 dc_Mod_expression_3 (by decide) ?_
  refine wf_is3 (M' := mt_Mod_within) dc_Mod_expression_4 tg_Mod_within ml_Mod_142 sm_Mod_within (Nat.le_of_ble_eq_true rfl) (Nat.le_refl _) (Nat.le_refl _) (c_Mod_within) qI_nt (qI_go (fun x2 i2 hp => ?_))
  obtain ⟨rfl, hq⟩ := hp; subst i2
  rw [e5]
  have rest : ∀ c : Bool, c = decide (w.length ≤ 60) → Wf l E n0 mt_Mod_expression (d + 3) 0 0 Q0 0 0 23 [(0, .ref (m + 0)), (1, .int x)] [.int (wt_b c), .int (wt_b (bw x 0 5)), .ref (m + 0)] nx t r i g := fun c hcc => by
    refine wf_iv2 (M' := mt_Mod_goes) (c := 8) dc_Mod_expression_23 tg_Mod_goes ml_Mod_106 im_Mod_goes se_Mod_goes ⟨_, rfl, rfl⟩ (by assumption) (Nat.le_of_ble_eq_true rfl) (Nat.le_refl _) (Nat.le_refl _) (c_Mod_goes (a := bw x 0 5) (c := c) hA) qI_nt (qI_go (fun x2 i2 hp => ?_))
    obtain ⟨rfl, rfl⟩ := hp
    by_cases hok : (bw x 0 5 && c) = true
    · rw [hok]
      rw [Bool.and_eq_true] at hok
      obtain ⟨hb, rfl⟩ := hok
      have h60 : w.length ≤ 60 := of_decide_eq_true hcc.symm
      rw [hb]
      refine wf_if_ne 31 dc_Mod_expression_26 (by decide) (fun hc => ?_) (fun hc => absurd hc (by decide))
      obtain ⟨k, -, hk, rfl⟩ := bw_n (lo := 0) (hi := 5) hb
      have ck : (nI k).toNatClampNeg = k := nI_clamp (by omega)
      have n60 : ∀ b : Nat, (60 : Int32) * nI b = nI (60 * b) := fun b => nI_mul 60 b
      rw [ck] at hQ
      obtain ⟨x1, x2, x3, x4⟩ := hX k (by omega)
      have f0 : mf m (xm_S k) i (wf_up i (m + 0) 0 (th_of true true)) := mf_up mf_rf ⟨(0, 0, 1), by simp [xm_S], rfl, by decide, by decide⟩
      have z0 : wf_up i (m + 0) 0 (th_of true true) (m + 0) 0 = 0 := wf_up_s
      have p0 : mr (wf_up i (m + 0) 0 (th_of true true)) m 0 w := hP.z
      have s0 : ∀ c j, 1 ≤ c → wf_up i (m + 0) 0 (th_of true true) (m + c) j = i (m + c) j := fun c j hc => up_b (by omega)
      generalize wf_up i (m + 0) 0 (th_of true true) = i0 at f0 z0 p0 s0 ⊢
      -- the end with a fault
      have three : ∀ e, ps_read w = .inl e → ∀ (c j : Nat) (i1 : Wi), j + c = 60 → i1 (m + 0) 0 = 0 → i1 (m + 0) 37 = nI e → mr i1 m 0 w → i1 (m + 4) k = i (m + 4) k → (∀ q, q < 60 → i1 (m + 1) (960 + q) = i (m + 3) (60 * k + q)) → (∀ q, q < j → i1 (m + 3) (60 * k + q) = i (m + 3) (60 * k + q)) → mf m (xm_S k) i i1 → Wf l E n0 mt_Mod_expression (d + 3) 0 0 Q0 0 0 142 [(0, .ref (m + 0)), (1, .int (nI k)), (3, .int (nI j))] [] nx t r i1 g := by
        intro e he c
        induction c with
        | zero =>
          intro j i1 hj q0 q1 q2 q3 q4 q5 q6
          refine wf_iload_n dc_Mod_expression_142 rfl ?_
          refine wf_bipush 60 dc_Mod_expression_143 (by decide) ?_
          refine wf_icmp_ge 175 dc_Mod_expression_145 (by decide) (fun hc => ?_) (fun hc => absurd ((nI_leI (a := 60) (by omega) (by omega)).mpr (by omega)) hc)
          refine wf_aload_n dc_Mod_expression_175 rfl ?_
          refine wf_geti dc_Mod_expression_176 fl_Mod_120 rfl (by assumption) ?_
          rw [q1]
          refine wf_iconst 1 dc_Mod_expression_179 (by decide) ?_
          refine wf_iadd dc_Mod_expression_180 ?_
          rw [nI_1]
          rw [← hQ]
          refine wf_ireturn rfl dc_Mod_expression_181 ⟨_, rfl, rfl, rfl, rfl, rfl, ?_⟩
          dsimp only
          rw [if_pos hb, if_neg (by omega), he]
          refine ⟨q0, q6, rfl, q2, fun q hq => ?_⟩
          obtain ⟨y1, y2, y3, y4⟩ := hX q hq
          refine ⟨⟨?_, fun u hu => ?_⟩, y2, y3, y4⟩
          · by_cases hqk : q = k
            · rw [hqk, q3, ← hqk]; exact y1.1
            · exact (q6.at (xm_no (by omega))).trans y1.1
          · by_cases hqk : q = k
            · subst hqk
              rw [q5 u (by omega)]; exact y1.2 u hu
            · exact (q6.at (xm_no (by omega))).trans (y1.2 u hu)
        | succ c ih =>
          intro j i1 hj q0 q1 q2 q3 q4 q5 q6
          refine wf_iload_n dc_Mod_expression_142 rfl ?_
          refine wf_bipush 60 dc_Mod_expression_143 (by decide) ?_
          refine wf_icmp_ge 175 dc_Mod_expression_145 (by decide) (fun hc => absurd ((nI_leI (a := 60) (by omega) (by omega)).mp hc) (by omega)) (fun hc => ?_)
          refine wf_aload_n dc_Mod_expression_148 rfl ?_
          refine wf_getr dc_Mod_expression_149 fl_Mod_16 rfl (by assumption) (by assumption) ?_
          refine wf_bipush 60 dc_Mod_expression_152 (by decide) ?_
          refine wf_iload_n dc_Mod_expression_154 rfl ?_
          refine wf_imul dc_Mod_expression_155 ?_
          rw [n60]
          refine wf_iload_n dc_Mod_expression_156 rfl ?_
          refine wf_iadd dc_Mod_expression_157 ?_
          rw [nI_add]
          refine wf_aload_n dc_Mod_expression_158 rfl ?_
          refine wf_getr dc_Mod_expression_159 fl_Mod_7 rfl (by assumption) (by assumption) ?_
          refine wf_sipush 960 dc_Mod_expression_162 (by decide) ?_
          refine wf_iload_n dc_Mod_expression_165 rfl ?_
          refine wf_iadd dc_Mod_expression_166 ?_
          rw [show (960 : Int32) + nI j = nI (960 + j) from nI_add 960 j]
          refine wf_iaload (y := 0) dc_Mod_expression_167 rfl (by assumption) (vp_in_nI (by omega) (by omega)) ?_
          rw [nI_clamp (show 960 + j < 2 ^ 31 by omega), q4 j (by omega)]
          refine wf_iastore (y := 0) dc_Mod_expression_168 rfl (by decide) (by assumption) (vp_in_nI (by omega) (by omega)) ?_
          refine wf_iinc _ dc_Mod_expression_169 rfl (nI_1 j) (by decide) ?_
          refine wf_goto 142 dc_Mod_expression_172 (by decide) ?_
          rw [nI_clamp (show 60 * k + j < 2 ^ 31 by omega)]
          refine Wf.to (by exact ⟨rfl, rfl, rfl, trivial⟩) (ih (j + 1) _ (by omega) ((wf_up_a (by omega)).trans q0) ((wf_up_a (by omega)).trans q1) ⟨(wf_up_a (by omega)).trans q2.1, fun u hu => (wf_up_a (by omega)).trans (q2.2 u hu)⟩ ((wf_up_a (by omega)).trans q3) (fun q hq => (wf_up_a (by omega)).trans (q4 q hq)) (fun q hq => ?_) (mf_up q6 ⟨(3, 60 * k, 60 * k + 60), by simp [xm_S], rfl, by simp only; omega, by simp only; omega⟩))
          by_cases hqj : q = j
          · rw [hqj]; exact wf_up_s
          · rw [wf_up_k (by omega)]; exact q5 q (by omega)
      -- the new text
      have two : ∀ (c j : Nat) (i1 : Wi), j + c = w.length → i1 (m + 0) 0 = 0 → mr i1 m 0 w → i1 (m + 4) k = nI w.length → (∀ q, q < 60 → i1 (m + 1) (960 + q) = i (m + 3) (60 * k + q)) → mz i1 (m + 3) (60 * k) (w.take j) → mf m (xm_S k) i i1 → Wf l E n0 mt_Mod_expression (d + 3) 0 0 Q0 0 0 87 [(0, .ref (m + 0)), (1, .int (nI k)), (2, .int (i (m + 4) k)), (3, .int (nI j))] [] nx t r i1 g := by
        intro c
        induction c with
        | zero =>
          intro j i1 hj q0 q2 q3 q4 q5 q6
          refine wf_iload_n dc_Mod_expression_87 rfl ?_
          refine wf_aload_n dc_Mod_expression_88 rfl ?_
          refine wf_getr dc_Mod_expression_89 fl_Mod_13 rfl (by assumption) (by assumption) ?_
          refine wf_iconst 0 dc_Mod_expression_92 (by decide) ?_
          refine wf_iaload (y := 0) dc_Mod_expression_93 rfl (by assumption) (vp_in_nI (n := 0) (by omega) (by omega)) ?_
          rw [show i1 (m + 2) (Int32.toNatClampNeg 0) = nI w.length from q2.1]
          refine wf_icmp_ge 120 dc_Mod_expression_94 (by decide) (fun hc => ?_) (fun hc => absurd ((nI_leI (by omega) (by omega)).mpr (by omega)) hc)
          rw [List.take_of_length_le (by omega)] at q5
          refine wf_aload_n dc_Mod_expression_120 rfl ?_
          refine wf_iload_n dc_Mod_expression_121 rfl ?_
          refine wf_iv1 (M' := mt_Mod_draw) (c := 8) dc_Mod_expression_122 tg_Mod_draw ml_Mod_146 im_Mod_draw se_Mod_draw ⟨_, rfl, rfl⟩ (by assumption) (Nat.le_of_ble_eq_true rfl) (Nat.le_refl _) (Nat.le_refl _) (c_Mod_draw (k := k) (T := w) hA ⟨q3, q5⟩ (by omega) h60 (s1_nz hw)) qV_nt (qV_go (fun i2 hp => ?_))
          obtain ⟨e1, e2⟩ := hp
          have g6 : mf m (xm_S k) i i2 := mf_ss q6 (mf_mo e1 (ms_sub (fun q hq => by simp [xm_S, hq])))
          have g0 : i2 (m + 0) 0 = 0 := (e1.at (dr_no0 (by omega))).trans q0
          have g2 : mr i2 m 0 w := q2.fr e1 hl (dr_no (by omega)) (dr_no (by omega))
          have g3 : mx i2 m k w := ⟨(e1.at (dr_no (by omega))).trans q3, q5.fr e1 (dr_no (by omega))⟩
          have g4 : ∀ q, q < 60 → i2 (m + 1) (960 + q) = i (m + 3) (60 * k + q) := fun q hq => (e1.at (dr_no (by omega))).trans (q4 q hq)
          refine wf_aload_n dc_Mod_expression_125 rfl ?_
          refine wf_geti dc_Mod_expression_126 fl_Mod_120 rfl (by assumption) ?_
          refine wf_iconst (-1) dc_Mod_expression_129 (by decide) ?_
          cases hrd : ps_read w with
          | inl e =>
            rw [hrd] at e2
            dsimp only at e2
            have hel := ps_read_flt hrd
            rw [e2]
            refine wf_icmp_eq 182 dc_Mod_expression_130 (by decide) (fun hc => absurd hc.symm (mx_m1 (by omega))) (fun hc => ?_)
            refine wf_aload_n dc_Mod_expression_133 rfl ?_
            refine wf_getr dc_Mod_expression_134 fl_Mod_19 rfl (by assumption) (by assumption) ?_
            refine wf_iload_n dc_Mod_expression_137 rfl ?_
            refine wf_iload_n dc_Mod_expression_138 rfl ?_
            refine wf_iastore (y := 0) dc_Mod_expression_139 rfl (by decide) (by assumption) (vp_in_nI (by omega) (by omega)) ?_
            rw [ck]
            refine wf_iconst 0 dc_Mod_expression_140 (by decide) ?_
            refine wf_istore_n dc_Mod_expression_141 (by decide) ?_
            refine Wf.to (L' := [(0, .ref (m + 0)), (1, .int (nI k)), (3, .int (nI 0))]) (by exact ⟨rfl, rfl, rfl, trivial⟩) (three e hrd 60 0 _ (Nat.zero_add _) ((wf_up_a (by omega)).trans g0) ((wf_up_a (by omega)).trans e2) ⟨(wf_up_a (by omega)).trans g2.1, fun u hu => (wf_up_a (by omega)).trans (g2.2 u hu)⟩ wf_up_s (fun q hq => (wf_up_a (by omega)).trans (g4 q hq)) (fun q hq => absurd hq (Nat.not_lt_zero _)) (mf_up g6 ⟨(4, k, k + 1), by simp [xm_S], rfl, Nat.le_refl _, Nat.le_refl _⟩))
          | inr v =>
            rw [hrd] at e2
            dsimp only at e2
            rw [e2.1]
            refine wf_icmp_eq 182 dc_Mod_expression_130 (by decide) (fun hc => ?_) (fun hc => absurd rfl hc)
            refine wf_aload_n dc_Mod_expression_182 rfl ?_
            refine wf_getr dc_Mod_expression_183 fl_Mod_13 rfl (by assumption) (by assumption) ?_
            refine wf_iconst 0 dc_Mod_expression_186 (by decide) ?_
            refine wf_iconst 0 dc_Mod_expression_187 (by decide) ?_
            refine wf_iastore (y := 0) dc_Mod_expression_188 rfl (by decide) (by assumption) (vp_in_nI (n := 0) (by omega) (by omega)) ?_
            refine wf_iconst 0 dc_Mod_expression_189 (by decide) ?_
            rw [← hQ]
            refine wf_ireturn rfl dc_Mod_expression_190 ⟨_, rfl, rfl, rfl, rfl, rfl, ?_⟩
            dsimp only
            rw [if_pos hb, if_neg (by omega), hrd]
            refine ⟨(wf_up_a (by omega)).trans g0, mf_up g6 ⟨(2, 0, 1), by simp [xm_S], rfl, by decide, by decide⟩, rfl, ⟨(wf_up_s : wf_up i2 (m + 2) 0 0 (m + 2) 0 = 0), mz_nil⟩, fun q hq => ?_⟩
            dsimp only
            by_cases hqk : q = k
            · subst hqk
              rw [if_pos rfl]
              exact ⟨⟨(wf_up_a (by omega)).trans g3.1, fun u hu => (wf_up_a (by omega)).trans (g3.2 u hu)⟩, hw, h60, v, hrd⟩
            · rw [if_neg hqk]
              obtain ⟨y1, y2, y3, y4⟩ := hX q hq
              exact ⟨⟨(wf_up_a (by omega)).trans ((g6.at (xm_no (by omega))).trans y1.1), fun u hu => (wf_up_a (by omega)).trans ((g6.at (xm_no (by omega))).trans (y1.2 u hu))⟩, y2, y3, y4⟩
        | succ c ih =>
          intro j i1 hj q0 q2 q3 q4 q5 q6
          refine wf_iload_n dc_Mod_expression_87 rfl ?_
          refine wf_aload_n dc_Mod_expression_88 rfl ?_
          refine wf_getr dc_Mod_expression_89 fl_Mod_13 rfl (by assumption) (by assumption) ?_
          refine wf_iconst 0 dc_Mod_expression_92 (by decide) ?_
          refine wf_iaload (y := 0) dc_Mod_expression_93 rfl (by assumption) (vp_in_nI (n := 0) (by omega) (by omega)) ?_
          rw [show i1 (m + 2) (Int32.toNatClampNeg 0) = nI w.length from q2.1]
          refine wf_icmp_ge 120 dc_Mod_expression_94 (by decide) (fun hc => absurd ((nI_leI (by omega) (by omega)).mp hc) (by omega)) (fun hc => ?_)
          refine wf_aload_n dc_Mod_expression_97 rfl ?_
          refine wf_getr dc_Mod_expression_98 fl_Mod_16 rfl (by assumption) (by assumption) ?_
          refine wf_bipush 60 dc_Mod_expression_101 (by decide) ?_
          refine wf_iload_n dc_Mod_expression_103 rfl ?_
          refine wf_imul dc_Mod_expression_104 ?_
          rw [n60]
          refine wf_iload_n dc_Mod_expression_105 rfl ?_
          refine wf_iadd dc_Mod_expression_106 ?_
          rw [nI_add]
          refine wf_aload_n dc_Mod_expression_107 rfl ?_
          refine wf_getr dc_Mod_expression_108 fl_Mod_7 rfl (by assumption) (by assumption) ?_
          refine wf_iload_n dc_Mod_expression_111 rfl ?_
          refine wf_iaload (y := 0) dc_Mod_expression_112 rfl (by assumption) (vp_in_nI (by omega) (by omega)) ?_
          rw [nI_clamp (show j < 2 ^ 31 by omega), show i1 (m + 1) j = w.getD j 0 from by have := q2.2 j (by omega); rw [Nat.mul_zero, Nat.zero_add] at this; exact this]
          refine wf_iastore (y := 0) dc_Mod_expression_113 rfl (by decide) (by assumption) (vp_in_nI (by omega) (by omega)) ?_
          refine wf_iinc _ dc_Mod_expression_114 rfl (nI_1 j) (by decide) ?_
          refine wf_goto 87 dc_Mod_expression_117 (by decide) ?_
          rw [nI_clamp (show 60 * k + j < 2 ^ 31 by omega)]
          refine Wf.to (by exact ⟨rfl, rfl, rfl, rfl, trivial⟩) (ih (j + 1) _ (by omega) ((wf_up_a (by omega)).trans q0) ⟨(wf_up_a (by omega)).trans q2.1, fun u hu => (wf_up_a (by omega)).trans (q2.2 u hu)⟩ ((wf_up_a (by omega)).trans q3) (fun q hq => (wf_up_a (by omega)).trans (q4 q hq)) ?_ (mf_up q6 ⟨(3, 60 * k, 60 * k + 60), by simp [xm_S], rfl, by simp only; omega, by simp only; omega⟩))
          rw [tk_s (by omega)]
          have h4 : mz (wf_up i1 (m + 3) (60 * k + j) (w.getD j 0)) (m + 3) (60 * k) (w.take j) := fun q hq => by
            rw [List.length_take] at hq
            rw [wf_up_k (by omega)]
            exact q5 q (by rw [List.length_take]; exact hq)
          refine h4.snoc ?_
          rw [List.length_take, Nat.min_eq_left (by omega)]
          exact wf_up_s
      -- the old text is kept
      have one : ∀ (c j : Nat) (i1 : Wi), j + c = 60 → i1 (m + 0) 0 = 0 → mr i1 m 0 w → (∀ q, i1 (m + 3) q = i (m + 3) q) → (∀ q, q < j → i1 (m + 1) (960 + q) = i (m + 3) (60 * k + q)) → mf m (xm_S k) i i1 → Wf l E n0 mt_Mod_expression (d + 3) 0 0 Q0 0 0 40 [(0, .ref (m + 0)), (1, .int (nI k)), (2, .int (i (m + 4) k)), (3, .int (nI j))] [] nx t r i1 g := by
        intro c
        induction c with
        | zero =>
          intro j i1 hj q0 q2 q3 q4 q6
          refine wf_iload_n dc_Mod_expression_40 rfl ?_
          refine wf_bipush 60 dc_Mod_expression_41 (by decide) ?_
          refine wf_icmp_ge 73 dc_Mod_expression_43 (by decide) (fun hc => ?_) (fun hc => absurd ((nI_leI (a := 60) (by omega) (by omega)).mpr (by omega)) hc)
          refine wf_aload_n dc_Mod_expression_73 rfl ?_
          refine wf_getr dc_Mod_expression_74 fl_Mod_19 rfl (by assumption) (by assumption) ?_
          refine wf_iload_n dc_Mod_expression_77 rfl ?_
          refine wf_aload_n dc_Mod_expression_78 rfl ?_
          refine wf_getr dc_Mod_expression_79 fl_Mod_13 rfl (by assumption) (by assumption) ?_
          refine wf_iconst 0 dc_Mod_expression_82 (by decide) ?_
          refine wf_iaload (y := 0) dc_Mod_expression_83 rfl (by assumption) (vp_in_nI (n := 0) (by omega) (by omega)) ?_
          rw [show i1 (m + 2) (Int32.toNatClampNeg 0) = nI w.length from q2.1]
          refine wf_iastore (y := 0) dc_Mod_expression_84 rfl (by decide) (by assumption) (vp_in_nI (by omega) (by omega)) ?_
          refine wf_iconst 0 dc_Mod_expression_85 (by decide) ?_
          refine wf_istore_n dc_Mod_expression_86 (by decide) ?_
          rw [ck]
          exact Wf.to (L' := [(0, .ref (m + 0)), (1, .int (nI k)), (2, .int (i (m + 4) k)), (3, .int (nI 0))]) (by exact ⟨rfl, rfl, rfl, rfl, trivial⟩) (two w.length 0 _ (Nat.zero_add _) ((wf_up_a (by omega)).trans q0) ⟨(wf_up_a (by omega)).trans q2.1, fun u hu => (wf_up_a (by omega)).trans (q2.2 u hu)⟩ wf_up_s (fun q hq => (wf_up_a (by omega)).trans (q4 q (by omega))) mz_nil (mf_up q6 ⟨(4, k, k + 1), by simp [xm_S], rfl, Nat.le_refl _, Nat.le_refl _⟩))
        | succ c ih =>
          intro j i1 hj q0 q2 q3 q4 q6
          refine wf_iload_n dc_Mod_expression_40 rfl ?_
          refine wf_bipush 60 dc_Mod_expression_41 (by decide) ?_
          refine wf_icmp_ge 73 dc_Mod_expression_43 (by decide) (fun hc => absurd ((nI_leI (a := 60) (by omega) (by omega)).mp hc) (by omega)) (fun hc => ?_)
          refine wf_aload_n dc_Mod_expression_46 rfl ?_
          refine wf_getr dc_Mod_expression_47 fl_Mod_7 rfl (by assumption) (by assumption) ?_
          refine wf_sipush 960 dc_Mod_expression_50 (by decide) ?_
          refine wf_iload_n dc_Mod_expression_53 rfl ?_
          refine wf_iadd dc_Mod_expression_54 ?_
          rw [show (960 : Int32) + nI j = nI (960 + j) from nI_add 960 j]
          refine wf_aload_n dc_Mod_expression_55 rfl ?_
          refine wf_getr dc_Mod_expression_56 fl_Mod_16 rfl (by assumption) (by assumption) ?_
          refine wf_bipush 60 dc_Mod_expression_59 (by decide) ?_
          refine wf_iload_n dc_Mod_expression_61 rfl ?_
          refine wf_imul dc_Mod_expression_62 ?_
          rw [n60]
          refine wf_iload_n dc_Mod_expression_63 rfl ?_
          refine wf_iadd dc_Mod_expression_64 ?_
          rw [nI_add]
          refine wf_iaload (y := 0) dc_Mod_expression_65 rfl (by assumption) (vp_in_nI (by omega) (by omega)) ?_
          rw [nI_clamp (show 60 * k + j < 2 ^ 31 by omega), q3]
          refine wf_iastore (y := 0) dc_Mod_expression_66 rfl (by decide) (by assumption) (vp_in_nI (by omega) (by omega)) ?_
          refine wf_iinc _ dc_Mod_expression_67 rfl (nI_1 j) (by decide) ?_
          refine wf_goto 40 dc_Mod_expression_70 (by decide) ?_
          rw [nI_clamp (show 960 + j < 2 ^ 31 by omega)]
          refine Wf.to (by exact ⟨rfl, rfl, rfl, rfl, trivial⟩) (ih (j + 1) _ (by omega) ((wf_up_a (by omega)).trans q0) ⟨(wf_up_a (by omega)).trans q2.1, fun u hu => (wf_up_k (by omega)).trans (q2.2 u hu)⟩ (fun q => (wf_up_a (by omega)).trans (q3 q)) (fun q hq => ?_) (mf_up q6 ⟨(1, 960, 1080), by simp [xm_S], rfl, by simp only; omega, by simp only; omega⟩))
          by_cases hqj : q = j
          · rw [hqj]; exact wf_up_s
          · rw [wf_up_k (by omega)]; exact q4 q (by omega)
      refine wf_aload_n dc_Mod_expression_31 rfl ?_
      refine wf_getr dc_Mod_expression_32 fl_Mod_19 rfl (by assumption) (by assumption) ?_
      refine wf_iload_n dc_Mod_expression_35 rfl ?_
      refine wf_iaload (y := 0) dc_Mod_expression_36 rfl (by assumption) (vp_in_nI (by omega) (by omega)) ?_
      rw [ck, s0 4 k (by omega)]
      refine wf_istore_n dc_Mod_expression_37 (by decide) ?_
      refine wf_iconst 0 dc_Mod_expression_38 (by decide) ?_
      refine wf_istore_n dc_Mod_expression_39 (by decide) ?_
      exact Wf.to (L' := [(0, .ref (m + 0)), (1, .int (nI k)), (2, .int (i (m + 4) k)), (3, .int (nI 0))]) (by exact ⟨rfl, rfl, rfl, rfl, trivial⟩) (one 60 0 i0 (Nat.zero_add _) z0 p0 (fun q => s0 3 q (by omega)) (fun q hq => absurd hq (Nat.not_lt_zero _)) f0)
    · rw [Bool.not_eq_true] at hok
      rw [hok]
      refine wf_if_ne 31 dc_Mod_expression_26 (by decide) (fun hc => absurd rfl hc) (fun hc => ?_)
      refine wf_iconst 0 dc_Mod_expression_29 (by decide) ?_
      rw [← hQ]
      refine wf_ireturn rfl dc_Mod_expression_30 ⟨_, rfl, rfl, rfl, rfl, rfl, ?_⟩
      dsimp only
      cases hb : bw x 0 5 with
      | false => rw [if_neg (by decide)]; rfl
      | true =>
        rw [if_pos rfl]
        have hc0 : c = false := by rw [hb, Bool.true_and] at hok; exact hok
        subst hc0
        have := of_decide_eq_false hcc.symm
        rw [if_pos (by omega)]
        rfl
  refine wf_aload_n dc_Mod_expression_7 rfl ?_
  refine wf_getr dc_Mod_expression_8 fl_Mod_13 rfl (by assumption) (by assumption) ?_
  refine wf_iconst 0 dc_Mod_expression_11 (by decide) ?_
  refine wf_iaload (y := 0) dc_Mod_expression_12 rfl (by assumption) (vp_in_nI (n := 0) (by omega) (by omega)) ?_
  rw [show i (m + 2) (Int32.toNatClampNeg 0) = nI w.length from hP.1]
  refine wf_bipush 60 dc_Mod_expression_13 (by decide) ?_
  by_cases h60 : w.length ≤ 60
  · refine wf_icmp_gt 22 dc_Mod_expression_15 (by decide) (fun hc => absurd ((nI_ltI (a := 60) (by omega) (by omega)).mp hc) (by omega)) (fun hc => ?_)
    refine wf_iconst 1 dc_Mod_expression_18 (by decide) ?_
    refine wf_goto 23 dc_Mod_expression_19 (by decide) ?_
    exact Wf.to (by exact ⟨rfl, rfl, trivial⟩) (rest true (decide_eq_true h60).symm)
  · refine wf_icmp_gt 22 dc_Mod_expression_15 (by decide) (fun hc => ?_) (fun hc => absurd ((nI_ltI (a := 60) (by omega) (by omega)).mpr (by omega)) hc)
    refine wf_iconst 0 dc_Mod_expression_22 (by decide) ?_
    exact Wf.to (by exact ⟨rfl, rfl, trivial⟩) (rest false (decide_eq_false h60).symm)
end
