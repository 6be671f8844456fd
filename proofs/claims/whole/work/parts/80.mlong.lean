/-! the reference: longest -/
section
variable {M : Nat → Nat → Bool} {G : List Ed} {w : List Int32}
/-- the last sign that a way takes -/
theorem gR_last {a s p e : Nat} (hv : ∀ q ∈ G, q.2.2.1 ≤ 3) (hse : s < e) (h : gR M G w a s p e) : ∃ q ∈ G, q.2.2.1 = 3 ∧ gR M G w a s q.1 (e - 1) ∧ e - 1 < w.length ∧ M q.2.2.2 (sg_of w (e - 1)) = true ∧ gR M G w q.2.1 e p e := by
  obtain ⟨n, h⟩ := h
  induction n generalizing a s with
  | zero => exact absurd h.2 (by omega)
  | succ n ih =>
    obtain ⟨c, m, ⟨q, q1, rfl, rfl, q4⟩, z⟩ := h
    have h1 := ed_ok_le q4
    have h2 := gR_le ⟨n, z⟩
    by_cases hm : m < e
    · obtain ⟨q', k1, k2, k3, k4⟩ := ih hm z
      exact ⟨q', k1, k2, gR_tr (gR_ed q1 q4) k3, k4⟩
    · have hme : m = e := by omega
      subst hme
      have hk := hv q q1
      have q5 := q4
      unfold ed_ok at q4
      by_cases k0 : q.2.2.1 = 0
      · rw [if_pos k0] at q4; omega
      rw [if_neg k0] at q4
      by_cases k1 : q.2.2.1 = 1
      · rw [if_pos k1] at q4; omega
      rw [if_neg k1] at q4
      by_cases k2 : q.2.2.1 = 2
      · rw [if_pos k2] at q4; omega
      rw [if_neg k2] at q4
      obtain ⟨e1, e2, e3⟩ := q4
      have he : s = m - 1 := by omega
      subst he
      exact ⟨q, q1, by omega, gR_rf, e1, e3, n, z⟩
/-- where a way is as soon as it comes to place e -/
def gB (M : Nat → Nat → Bool) (G : List Ed) (w : List Int32) (a s e p : Nat) : Prop := (e = s ∧ p = a) ∨ (s < e ∧ ∃ q ∈ G, q.2.2.1 = 3 ∧ q.2.1 = p ∧ gR M G w a s q.1 (e - 1) ∧ e - 1 < w.length ∧ M q.2.2.2 (sg_of w (e - 1)) = true)
theorem gB_R {a s e p : Nat} (h : gB M G w a s e p) : gR M G w a s p e := by
  rcases h with ⟨rfl, rfl⟩ | ⟨hse, q, q1, q2, rfl, q3, q4, q5⟩
  · exact gR_rf
  · refine gR_tr q3 (gR_ed q1 ?_)
    unfold ed_ok
    rw [if_neg (by omega), if_neg (by omega), if_neg (by omega)]
    exact ⟨q4, by omega, q5⟩
theorem gR_B {a s e p : Nat} (hv : ∀ q ∈ G, q.2.2.1 ≤ 3) (hse : s ≤ e) : gR M G w a s p e ↔ ∃ c, gB M G w a s e c ∧ gR M G w c e p e := by
  constructor
  · intro h
    by_cases hs : s = e
    · subst hs
      exact ⟨a, Or.inl ⟨rfl, rfl⟩, h⟩
    · obtain ⟨q, q1, q2, q3, q4, q5, q6⟩ := gR_last hv (by omega) h
      exact ⟨q.2.1, Or.inr ⟨by omega, q, q1, q2, rfl, q3, q4, q5⟩, q6⟩
  · rintro ⟨c, h1, h2⟩
    exact gR_tr (gB_R h1) h2
theorem gB_lt {P a s e p : Nat} (hv : ∀ q ∈ G, q.2.1 < P) (ha : a < P) (h : gB M G w a s e p) : p < P := by
  rcases h with ⟨rfl, rfl⟩ | ⟨hse, q, q1, q2, rfl, q3, q4, q5⟩
  · exact ha
  · exact hv q q1
/-- nothing is behind a place to which no way comes -/
theorem gR_stop {a s e : Nat} (hv : ∀ q ∈ G, q.2.2.1 ≤ 3) (hse : s ≤ e) (h : ∀ p, ¬ gB M G w a s e p) : ∀ n p, ¬ gR M G w a s p (e + n) := by
  intro n
  induction n with
  | zero =>
    intro p hp
    obtain ⟨c, h1, -⟩ := (gR_B hv hse).mp hp
    exact h c h1
  | succ n ih =>
    intro p hp
    obtain ⟨q, q1, q2, q3, -⟩ := gR_last hv (by omega) hp
    exact ih q.1 q3
def bx (A : Nat → Prop) (n : Nat) (z : Int32) : Prop := (z = -1 ∧ ∀ e, e < n → ¬ A e) ∨ ∃ e, e < n ∧ z = nI e ∧ A e ∧ ∀ e', e' < n → A e' → e' ≤ e
theorem bx_yes {A : Nat → Prop} {n : Nat} (h : A n) : bx A (n + 1) (nI n) := Or.inr ⟨n, by omega, rfl, h, fun e he _ => by omega⟩
theorem bx_no {A : Nat → Prop} {n k : Nat} {z : Int32} (h : bx A n z) (hn : n ≤ k) (hk : ∀ e, n ≤ e → e < k → ¬ A e) : bx A k z := by
  rcases h with ⟨h1, h2⟩ | ⟨e, h1, h2, h3, h4⟩
  · refine Or.inl ⟨h1, fun e he hA => ?_⟩
    by_cases hen : e < n
    · exact h2 e hen hA
    · exact hk e (by omega) he hA
  · refine Or.inr ⟨e, by omega, h2, h3, fun e' he hA => ?_⟩
    by_cases hen : e' < n
    · exact h4 e' hen hA
    · exact absurd hA (hk e' (by omega) he)
theorem bx_is {A : Nat → Prop} {n : Nat} {z : Int32} (h : bx A (n + 1) z) : mx_is A n z := by
  rcases h with ⟨h1, h2⟩ | ⟨e, h1, h2, h3, h4⟩
  · exact Or.inl ⟨h1, fun e he => h2 e (by omega)⟩
  · exact Or.inr ⟨e, by omega, h2, h3, fun e' he => h4 e' (by omega)⟩
end
def lo_S : Ms := [(23, 0, 400), (24, 0, 400)]
theorem lo_ne {c : Nat} (h : c < 23 ∨ 24 < c) : ∀ q ∈ lo_S, q.1 ≠ c := by
  intro q hq
  simp only [lo_S, List.mem_cons, List.not_mem_nil, or_false] at hq
  rcases hq with rfl | rfl <;> simp only <;> omega
theorem lo_no {c lo hi : Nat} (h : c < 23 ∨ 24 < c) : ms_no lo_S c lo hi := fun q hq z => absurd z (lo_ne h q hq)
section
variable {l : Launch} {E : We} {n0 d nx : Nat} {t : Wt} {r : Wr} {i i1 i2 : Wi} {g : Wl} {m : Nat} {S : Ms}
theorem gd_ok.fr {b : Nat} {T : List Int32} (h : gd_ok i m b T) (hf : mf m S i i1) (h0 : ms_no S 0 26 28) (hs : ∀ c, 19 ≤ c → c ≤ 22 → ∀ q ∈ S, q.1 ≠ c) : gd_ok i1 m b T := by
  obtain ⟨P, G, h1, h2, h3, h4, h5⟩ := h
  exact ⟨P, G, (hf.at (h0.mono (Nat.le_refl _) (by omega))).trans h1, h2, h3, h4.fr hf (h0.mono (by omega) (Nat.le_refl _)) hs, h5⟩
theorem c_Mod_longest {b k s : Nat} {T w : List Int32} (hA : mo_at t r m) (hT : mS i m b T) (hb : b ≤ 300) (h60 : T.length ≤ 60) (hsT : sgT T) (hg : gd_ok i m b T) (hk : k < 9) (hw : mr i m k w) (hs1 : s1 w) (hs : s ≤ w.length) : Ct l E n0 mt_Mod_longest (d + 1) 0 0 [.ref (m + 0), .int (nI k), .int (nI s)] nx t r i g (qI nx t r g (fun z i' => z = oI (en_of (ps_rel T) w s) ∧ mf m lo_S i i')) := by
  have t0 := hA.1.1
  have r1 : r (m + 0) 1 = some (m + 1) := hA.2 (0, 1, 1) (by decide +kernel)
  have r2 : r (m + 0) 2 = some (m + 2) := hA.2 (0, 2, 2) (by decide +kernel)
  have r28 : r (m + 0) 28 = some (m + 19) := hA.2 (0, 28, 19) (by decide +kernel)
  have r29 : r (m + 0) 29 = some (m + 20) := hA.2 (0, 29, 20) (by decide +kernel)
  have r30 : r (m + 0) 30 = some (m + 21) := hA.2 (0, 30, 21) (by decide +kernel)
  have r31 : r (m + 0) 31 = some (m + 22) := hA.2 (0, 31, 22) (by decide +kernel)
  have r32 : r (m + 0) 32 = some (m + 23) := hA.2 (0, 32, 23) (by decide +kernel)
  have r33 : r (m + 0) 33 = some (m + 24) := hA.2 (0, 33, 24) (by decide +kernel)
  have t1 := hA.1.2 1 (1, .inr (0, 1080)) (by decide +kernel)
  have t2 := hA.1.2 2 (2, .inr (0, 9)) (by decide +kernel)
  have t19 := hA.1.2 19 (19, .inr (0, 800)) (by decide +kernel)
  have t20 := hA.1.2 20 (20, .inr (0, 800)) (by decide +kernel)
  have t21 := hA.1.2 21 (21, .inr (0, 800)) (by decide +kernel)
  have t22 := hA.1.2 22 (22, .inr (0, 800)) (by decide +kernel)
  have t23 := hA.1.2 23 (23, .inr (1, 400)) (by decide +kernel)
  have t24 := hA.1.2 24 (24, .inr (1, 400)) (by decide +kernel)
  obtain ⟨P, G, g1, g2, g3, g4, g5, g6, g7⟩ := hg
  have hl := hs1.1
  have ck : (nI k).toNatClampNeg = k := nI_clamp (by omega)
  have hv3 : ∀ q ∈ G, q.2.2.1 ≤ 3 := fun q hq => (g6 q hq).2.2.1
  have hvP : ∀ q ∈ G, q.2.1 < P := fun q hq => (g6 q hq).2.1
  have hvs : ∀ q ∈ G, q.1 < P ∧ q.2.1 < P ∧ q.2.2.1 ≤ 3 := fun q hq => ⟨(g6 q hq).1, (g6 q hq).2.1, (g6 q hq).2.2.1⟩
  -- what the frame keeps
  have fP : ∀ i1, mf m lo_S i i1 → i1 (m + 0) 26 = nI P := fun i1 h => (h.at (lo_no (by omega))).trans g1
  have fG : ∀ i1, mf m lo_S i i1 → g_is i1 m b G := fun i1 h => g4.fr h (lo_no (by omega)) (fun c c1 c2 => lo_ne (by omega))
  have fw : ∀ i1, mf m lo_S i i1 → mr i1 m k w := fun i1 h => hw.fr h hl (lo_no (by omega)) (lo_no (by omega))
  have fT : ∀ i1, mf m lo_S i i1 → mS i1 m b T := fun i1 h j hj => (h.at (lo_no (by omega))).trans (hT j hj)
  have i23 : ∀ {j : Nat}, j < 400 → ms_in lo_S 23 j (j + 1) := fun hj => ⟨(23, 0, 400), by simp [lo_S], rfl, Nat.zero_le _, by simp only; omega⟩
  have i24 : ∀ {j : Nat}, j < 400 → ms_in lo_S 24 j (j + 1) := fun hj => ⟨(24, 0, 400), by simp [lo_S], rfl, Nat.zero_le _, by simp only; omega⟩
  generalize hQ : (qI nx t r g (fun z i' => z = oI (en_of (ps_rel T) w s) ∧ mf m lo_S i i')) = Q0
  refine Ct.of (by decide) (Nat.le_of_ble_eq_true rfl) ?_
  -- the end
  have fin : ∀ (z : Int32) (i1 : Wi), bx (gR (at_m T) G w 0 s 1) (w.length + 1) z → mf m lo_S i i1 → Wf l E n0 mt_Mod_longest (d + 1) 0 0 Q0 0 0 247 [(3, .int z)] [] nx t r i1 g := fun z i1 hz hf => by
    refine wf_iload_n dc_Mod_longest_247 rfl ?_
    refine wf_ireturn rfl dc_Mod_longest_248 ?_
    rw [← hQ]
    refine ⟨_, rfl, rfl, rfl, rfl, rfl, ?_, hf⟩
    rw [mx_is_of (bx_is hz), en_of, mx_of_congr (fun e he => g7 w s e)]
  -- place after place
  have main : ∀ (c at_ : Nat) (H : Nat → Bool) (mo : Bool) (z y6 : Int32) (i1 : Wi), at_ + c = w.length + 1 → s ≤ at_ → (∀ p, p < P → i1 (m + 23) p = wt_b (H p)) → (∀ p, p < P → (H p = true ↔ gB (at_m T) G w 0 s at_ p)) → (mo = false → ∀ p, p < P → H p = false) → bx (gR (at_m T) G w 0 s 1) at_ z → mf m lo_S i i1 → Wf l E n0 mt_Mod_longest (d + 1) 0 0 Q0 0 0 39 [(0, .ref (m + 0)), (1, .int (nI k)), (3, .int z), (4, .int (wt_b mo)), (5, .int (nI at_))] [] nx t r i1 g := by
    intro c
    induction c with
    | zero =>
      intro at_ H mo z y6 i1 hat hsa q1 q2 q3 q4 q5
      refine wf_iload dc_Mod_longest_39 rfl ?_
      refine wf_aload_n dc_Mod_longest_41 rfl ?_
      refine wf_getr dc_Mod_longest_42 fl_Mod_13 rfl (by assumption) (by assumption) ?_
      refine wf_iload_n dc_Mod_longest_45 rfl ?_
      refine wf_iaload (y := 0) dc_Mod_longest_46 rfl (by assumption) (vp_in_nI (by omega) (by omega)) ?_
      rw [ck, (fw i1 q5).1]
      refine wf_icmp_gt 247 dc_Mod_longest_47 (by decide) (fun hc => ?_) (fun hc => absurd ((nI_ltI (by omega) (by omega)).mpr (by omega)) hc)
      have he : at_ = w.length + 1 := by omega
      subst he
      exact Wf.to (by exact ⟨rfl, trivial⟩) (fin z i1 q4 q5)
    | succ c ih =>
      intro at_ H mo z y6 i1 hat hsa q1 q2 q3 q4 q5
      refine wf_iload dc_Mod_longest_39 rfl ?_
      refine wf_aload_n dc_Mod_longest_41 rfl ?_
      refine wf_getr dc_Mod_longest_42 fl_Mod_13 rfl (by assumption) (by assumption) ?_
      refine wf_iload_n dc_Mod_longest_45 rfl ?_
      refine wf_iaload (y := 0) dc_Mod_longest_46 rfl (by assumption) (vp_in_nI (by omega) (by omega)) ?_
      rw [ck, (fw i1 q5).1]
      refine wf_icmp_gt 247 dc_Mod_longest_47 (by decide) (fun hc => absurd ((nI_ltI (by omega) (by omega)).mp hc) (by omega)) (fun hc => ?_)
      refine wf_iload dc_Mod_longest_50 rfl ?_
      cases mo with
      | false =>
        refine wf_if_eq 247 dc_Mod_longest_52 (by decide) (fun hc => ?_) (fun hc => absurd rfl hc)
        refine Wf.to (by exact ⟨rfl, trivial⟩) (fin z i1 (bx_no q4 (by omega) (fun e he1 he2 hA => ?_)) q5)
        have hst := gR_stop hv3 hsa (fun p hp => by
          have hpP := gB_lt hvP (show 0 < P by omega) hp
          have := (q2 p hpP).mpr hp
          rw [q3 rfl p hpP] at this
          cases this) (e - at_) 1
        rw [show at_ + (e - at_) = e by omega] at hst
        exact hst hA
      | true =>
        refine wf_if_eq 247 dc_Mod_longest_52 (by decide) (fun hc => absurd hc (by decide)) (fun hc => ?_)
        refine wf_aload_n dc_Mod_longest_55 rfl ?_
        refine wf_iload dc_Mod_longest_56 rfl ?_
        refine wf_aload_n dc_Mod_longest_58 rfl ?_
        refine wf_getr dc_Mod_longest_59 fl_Mod_13 rfl (by assumption) (by assumption) ?_
        refine wf_iload_n dc_Mod_longest_62 rfl ?_
        refine wf_iaload (y := 0) dc_Mod_longest_63 rfl (by assumption) (vp_in_nI (by omega) (by omega)) ?_
        rw [ck, (fw i1 q5).1]
        refine wf_iv2 (M' := mt_Mod_spread) (c := 8) dc_Mod_longest_64 tg_Mod_spread ml_Mod_149 im_Mod_spread se_Mod_spread ⟨_, rfl, rfl⟩ (by assumption) (Nat.le_of_ble_eq_true rfl) (Nat.le_refl _) (Nat.le_refl _) (c_Mod_spread (M := at_m T) (b := b) (P := P) (G := G) (w := w) (H := H) hA g3 (fG i1 q5) g5 hvs q1 (show at_ ≤ w.length by omega) hl) qV_nt (qV_go (fun i2 hp => ?_))
        obtain ⟨⟨H', h1, h2⟩, h3⟩ := hp
        have q6 : mf m lo_S i i2 := mf_ss q5 (mf_mo h3 (fun q hq => by rw [List.mem_singleton.mp hq]; exact ⟨(23, 0, 400), by simp [lo_S], rfl, Nat.le_refl _, Nat.le_refl _⟩))
        have hR : ∀ p, p < P → (H' p = true ↔ gR (at_m T) G w 0 s p at_) := fun p hp => by
          rw [h2 p hp, gR_B hv3 hsa]
          constructor
          · rintro ⟨a, a1, a2, a3⟩
            exact ⟨a, (q2 a a1).mp a2, a3⟩
          · rintro ⟨a, a1, a2⟩
            have a3 := gB_lt hvP (show 0 < P by omega) a1
            exact ⟨a, a3, (q2 a a3).mpr a1, a2⟩
        clear h2
        clear q1 q2 q3
        -- behind the choice of the best
        have beh : ∀ z' : Int32, bx (gR (at_m T) G w 0 s 1) (at_ + 1) z' → Wf l E n0 mt_Mod_longest (d + 1) 0 0 Q0 0 0 82 [(0, .ref (m + 0)), (1, .int (nI k)), (5, .int (nI at_))] [.int z'] nx t r i2 g := fun z' hz' => by
          -- here becomes next
          have cop : ∀ (c2 j : Nat) (N : Nat → Bool) (mo2 : Bool) (i3 : Wi), j + c2 = P → (∀ p, p < P → i3 (m + 24) p = wt_b (N p)) → (∀ p, p < j → i3 (m + 23) p = wt_b (N p)) → (∀ p, p < P → (N p = true ↔ gB (at_m T) G w 0 s (at_ + 1) p)) → (mo2 = false → ∀ p, p < P → N p = false) → mf m lo_S i i3 → Wf l E n0 mt_Mod_longest (d + 1) 0 0 Q0 0 0 212 [(0, .ref (m + 0)), (1, .int (nI k)), (3, .int z'), (4, .int (wt_b mo2)), (5, .int (nI at_)), (6, .int (nI j))] [] nx t r i3 g := by
            intro c2
            induction c2 with
            | zero =>
              intro j N mo2 i3 hj p1 p2 p3 p4 p5
              refine wf_iload dc_Mod_longest_212 rfl ?_
              refine wf_aload_n dc_Mod_longest_214 rfl ?_
              refine wf_geti dc_Mod_longest_215 fl_Mod_114 rfl (by assumption) ?_
              rw [fP i3 p5]
              refine wf_icmp_ge 241 dc_Mod_longest_218 (by decide) (fun hc => ?_) (fun hc => absurd ((nI_leI (by omega) (by omega)).mpr (by omega)) hc)
              refine wf_iinc _ dc_Mod_longest_241 rfl (nI_1 at_) (by decide) ?_
              refine wf_goto 39 dc_Mod_longest_244 (by decide) ?_
              exact Wf.to (by exact ⟨rfl, rfl, rfl, rfl, rfl, trivial⟩) (ih (at_ + 1) N mo2 z' 0 i3 (by omega) (by omega) (fun p hp => p2 p (by omega)) p3 p4 hz' p5)
            | succ c2 ih2 =>
              intro j N mo2 i3 hj p1 p2 p3 p4 p5
              have cj : (nI j).toNatClampNeg = j := nI_clamp (by omega)
              refine wf_iload dc_Mod_longest_212 rfl ?_
              refine wf_aload_n dc_Mod_longest_214 rfl ?_
              refine wf_geti dc_Mod_longest_215 fl_Mod_114 rfl (by assumption) ?_
              rw [fP i3 p5]
              refine wf_icmp_ge 241 dc_Mod_longest_218 (by decide) (fun hc => absurd ((nI_leI (by omega) (by omega)).mp hc) (by omega)) (fun hc => ?_)
              refine wf_aload_n dc_Mod_longest_221 rfl ?_
              refine wf_getr dc_Mod_longest_222 fl_Mod_83 rfl (by assumption) (by assumption) ?_
              refine wf_iload dc_Mod_longest_225 rfl ?_
              refine wf_aload_n dc_Mod_longest_227 rfl ?_
              refine wf_getr dc_Mod_longest_228 fl_Mod_87 rfl (by assumption) (by assumption) ?_
              refine wf_iload dc_Mod_longest_231 rfl ?_
              refine wf_zaload (y := 1) dc_Mod_longest_233 rfl (by assumption) (vp_in_nI (by omega) (by omega)) ?_
              rw [cj, p1 j (by omega)]
              refine wf_zastore (y := 1) dc_Mod_longest_234 rfl (by decide) (wt_bn2 _) (by assumption) (vp_in_nI (by omega) (by omega)) ?_
              refine wf_iinc _ dc_Mod_longest_235 rfl (nI_1 j) (by decide) ?_
              refine wf_goto 212 dc_Mod_longest_238 (by decide) ?_
              rw [cj]
              refine Wf.to (by exact ⟨rfl, rfl, rfl, rfl, rfl, rfl, trivial⟩) (ih2 (j + 1) N mo2 _ (by omega) (fun p hp => by rw [wf_up_a (by omega)]; exact p1 p hp) (fun p hp => ?_) p3 p4 (mf_up p5 (i23 (by omega))))
              by_cases hpj : p = j
              · rw [hpj]; exact wf_up_s
              · rw [wf_up_k hpj]; exact p2 p (by omega)
          have at209 : ∀ (N : Nat → Bool) (mo2 : Bool) (i3 : Wi) (y : Int32), (∀ p, p < P → i3 (m + 24) p = wt_b (N p)) → (∀ p, p < P → (N p = true ↔ gB (at_m T) G w 0 s (at_ + 1) p)) → (mo2 = false → ∀ p, p < P → N p = false) → mf m lo_S i i3 → Wf l E n0 mt_Mod_longest (d + 1) 0 0 Q0 0 0 209 [(0, .ref (m + 0)), (1, .int (nI k)), (3, .int z'), (4, .int (wt_b mo2)), (5, .int (nI at_))] [] nx t r i3 g := fun N mo2 i3 y p1 p3 p4 p5 => by
            refine wf_iconst 0 dc_Mod_longest_209 (by decide) ?_
            refine wf_istore dc_Mod_longest_210 (by decide) ?_
            exact Wf.to (L' := [(0, .ref (m + 0)), (1, .int (nI k)), (3, .int z'), (4, .int (wt_b mo2)), (5, .int (nI at_)), (6, .int (nI 0))]) (by exact ⟨rfl, rfl, rfl, rfl, rfl, rfl, trivial⟩) (cop P 0 N mo2 i3 (Nat.zero_add _) p1 (fun p hp => absurd hp (Nat.not_lt_zero _)) p3 p4 p5)
          -- edge after edge
          have edg : ∀ (c2 j : Nat) (N : Nat → Bool) (mo2 : Bool) (i3 : Wi), j + c2 = G.length → (∀ p, p < P → i3 (m + 24) p = wt_b (N p)) → (∀ p, p < P → i3 (m + 23) p = wt_b (H' p)) → (∀ p, p < P → (N p = true ↔ ∃ e, e < j ∧ (ed_d G e).2.2.1 = 3 ∧ (ed_d G e).2.1 = p ∧ H' (ed_d G e).1 = true ∧ at_ < w.length ∧ at_m T (ed_d G e).2.2.2 (sg_of w at_) = true)) → (mo2 = false → ∀ p, p < P → N p = false) → mf m lo_S i i3 → Wf l E n0 mt_Mod_longest (d + 1) 0 0 Q0 0 0 115 [(0, .ref (m + 0)), (1, .int (nI k)), (3, .int z'), (4, .int (wt_b mo2)), (5, .int (nI at_)), (6, .int (nI j))] [] nx t r i3 g := by
            have hed : ∀ j, j < G.length → ed_d G j ∈ G := fun j hj => by
              unfold ed_d
              rw [List.getD_eq_getElem?_getD, List.getElem?_eq_getElem hj]
              exact List.getElem_mem hj
            intro c2
            induction c2 with
            | zero =>
              intro j N mo2 i3 hj p1 p2 p3 p4 p5
              refine wf_iload dc_Mod_longest_115 rfl ?_
              refine wf_aload_n dc_Mod_longest_117 rfl ?_
              refine wf_geti dc_Mod_longest_118 fl_Mod_117 rfl (by assumption) ?_
              rw [(fG i3 p5).1]
              refine wf_icmp_ge 209 dc_Mod_longest_121 (by decide) (fun hc => ?_) (fun hc => absurd ((nI_leI (by omega) (by omega)).mpr (by omega)) hc)
              refine Wf.to (by exact ⟨rfl, rfl, rfl, rfl, rfl, trivial⟩) (at209 N mo2 i3 0 p1 (fun p hp => ?_) p4 p5)
              rw [p3 p hp]
              constructor
              · rintro ⟨e, e1, e2, e3, e4, e5, e6⟩
                have hm := hed e (by omega)
                exact Or.inr ⟨by omega, ed_d G e, hm, e2, e3, by rw [Nat.add_sub_cancel]; exact (hR _ (g6 _ hm).1).mp e4, by omega, by rw [Nat.add_sub_cancel]; exact e6⟩
              · rintro (⟨h1, -⟩ | ⟨-, q, h1, h2, h3, h4, h5, h6⟩)
                · omega
                · rw [Nat.add_sub_cancel] at h4 h5 h6
                  obtain ⟨e, he, rfl⟩ := List.mem_iff_getElem.mp h1
                  have hee : ed_d G e = G[e] := by unfold ed_d; rw [List.getD_eq_getElem?_getD, List.getElem?_eq_getElem he]; rfl
                  refine ⟨e, by omega, ?_⟩
                  rw [hee]
                  exact ⟨h2, h3, (hR _ (g6 _ h1).1).mpr h4, h5, h6⟩
            | succ c2 ih2 =>
              intro j N mo2 i3 hj p1 p2 p3 p4 p5
              have hjl : j < G.length := by omega
              obtain ⟨a1, a2, a3, a4⟩ := (fG i3 p5).2 j hjl
              have hmem := hed j hjl
              obtain ⟨b1, b2, b3, b4, b5⟩ := g6 _ hmem
              have p3j : ∀ p, (∃ e, e < j + 1 ∧ (ed_d G e).2.2.1 = 3 ∧ (ed_d G e).2.1 = p ∧ H' (ed_d G e).1 = true ∧ at_ < w.length ∧ at_m T (ed_d G e).2.2.2 (sg_of w at_) = true) ↔ ((∃ e, e < j ∧ (ed_d G e).2.2.1 = 3 ∧ (ed_d G e).2.1 = p ∧ H' (ed_d G e).1 = true ∧ at_ < w.length ∧ at_m T (ed_d G e).2.2.2 (sg_of w at_) = true) ∨ ((ed_d G j).2.2.1 = 3 ∧ (ed_d G j).2.1 = p ∧ H' (ed_d G j).1 = true ∧ at_ < w.length ∧ at_m T (ed_d G j).2.2.2 (sg_of w at_) = true)) := fun p => by
                constructor
                · rintro ⟨e, e1, e2⟩
                  by_cases hej : e = j
                  · subst hej; exact Or.inr e2
                  · exact Or.inl ⟨e, by omega, e2⟩
                · rintro (⟨e, e1, e2⟩ | e2)
                  · exact ⟨e, by omega, e2⟩
                  · exact ⟨j, by omega, e2⟩
              generalize hq0 : ed_d G j = q at a1 a2 a3 a4 hmem b1 b2 b3 b4 b5 p3j
              obtain ⟨qa, qb, qk, qp⟩ := q
              simp only at a1 a2 a3 a4 b1 b2 b3 b4 b5 p3j
              have cj : (nI j).toNatClampNeg = j := nI_clamp (by omega)
              have ca : (nI qa).toNatClampNeg = qa := nI_clamp (by omega)
              have cb : (nI qb).toNatClampNeg = qb := nI_clamp (by omega)
              -- the next edge, this one leads nowhere
              have keep : ¬ (qk = 3 ∧ H' qa = true ∧ at_ < w.length ∧ at_m T qp (sg_of w at_) = true) → Wf l E n0 mt_Mod_longest (d + 1) 0 0 Q0 0 0 203 [(0, .ref (m + 0)), (1, .int (nI k)), (3, .int z'), (4, .int (wt_b mo2)), (5, .int (nI at_)), (6, .int (nI j))] [] nx t r i3 g := fun hno => by
                refine wf_iinc _ dc_Mod_longest_203 rfl (nI_1 j) (by decide) ?_
                refine wf_goto 115 dc_Mod_longest_206 (by decide) ?_
                refine Wf.to (by exact ⟨rfl, rfl, rfl, rfl, rfl, rfl, trivial⟩) (ih2 (j + 1) N mo2 i3 (by omega) p1 p2 (fun p hp => ?_) p4 p5)
                rw [p3 p hp, p3j p]
                exact ⟨Or.inl, fun h => h.elim id (fun z => absurd ⟨z.1, z.2.2⟩ hno)⟩
              refine wf_iload dc_Mod_longest_115 rfl ?_
              refine wf_aload_n dc_Mod_longest_117 rfl ?_
              refine wf_geti dc_Mod_longest_118 fl_Mod_117 rfl (by assumption) ?_
              rw [(fG i3 p5).1]
              refine wf_icmp_ge 209 dc_Mod_longest_121 (by decide) (fun hc => absurd ((nI_leI (by omega) (by omega)).mp hc) (by omega)) (fun hc => ?_)
              refine wf_iload dc_Mod_longest_124 rfl ?_
              refine wf_aload_n dc_Mod_longest_126 rfl ?_
              refine wf_getr dc_Mod_longest_127 fl_Mod_13 rfl (by assumption) (by assumption) ?_
              refine wf_iload_n dc_Mod_longest_130 rfl ?_
              refine wf_iaload (y := 0) dc_Mod_longest_131 rfl (by assumption) (vp_in_nI (by omega) (by omega)) ?_
              rw [ck, (fw i3 p5).1]
              by_cases hal : ¬ at_ < w.length
              · refine wf_icmp_ge 209 dc_Mod_longest_132 (by decide) (fun hc => ?_) (fun hc => absurd ((nI_leI (by omega) (by omega)).mpr (by omega)) hc)
                refine Wf.to (by exact ⟨rfl, rfl, rfl, rfl, rfl, trivial⟩) (at209 N mo2 i3 0 p1 (fun p hp => ?_) p4 p5)
                rw [p3 p hp]
                constructor
                · rintro ⟨e, -, -, -, -, e5, -⟩
                  exact absurd e5 hal
                · rintro (⟨h1, -⟩ | ⟨-, q, -, -, -, -, h5, -⟩)
                  · omega
                  · rw [Nat.add_sub_cancel] at h5; exact absurd h5 hal
              have hal := Classical.not_not.mp hal
              refine wf_icmp_ge 209 dc_Mod_longest_132 (by decide) (fun hc => absurd ((nI_leI (by omega) (by omega)).mp hc) (by omega)) (fun hc => ?_)
              refine wf_aload_n dc_Mod_longest_135 rfl ?_
              refine wf_getr dc_Mod_longest_136 fl_Mod_77 rfl (by assumption) (by assumption) ?_
              refine wf_iload dc_Mod_longest_139 rfl ?_
              refine wf_iaload (y := 0) dc_Mod_longest_141 rfl (by assumption) (vp_in_nI (by omega) (by omega)) ?_
              refine wf_iconst 3 dc_Mod_longest_142 (by decide) ?_
              rw [cj, a3]
              by_cases k3 : ¬ qk = 3
              · refine wf_icmp_ne 203 dc_Mod_longest_143 (by decide) (fun hc => ?_) (fun hc => absurd ((nI_eq (b := 3) (by omega) (by omega)).mp hc) k3)
                exact Wf.to (by exact ⟨rfl, rfl, rfl, rfl, rfl, rfl, trivial⟩) (keep (fun z => k3 z.1))
              have k3 := Classical.not_not.mp k3
              refine wf_icmp_ne 203 dc_Mod_longest_143 (by decide) (fun hc => absurd (by rw [k3]; rfl) hc) (fun hc => ?_)
              refine wf_aload_n dc_Mod_longest_146 rfl ?_
              refine wf_getr dc_Mod_longest_147 fl_Mod_83 rfl (by assumption) (by assumption) ?_
              refine wf_aload_n dc_Mod_longest_150 rfl ?_
              refine wf_getr dc_Mod_longest_151 fl_Mod_71 rfl (by assumption) (by assumption) ?_
              refine wf_iload dc_Mod_longest_154 rfl ?_
              refine wf_iaload (y := 0) dc_Mod_longest_156 rfl (by assumption) (vp_in_nI (by omega) (by omega)) ?_
              rw [cj, a1]
              refine wf_zaload (y := 1) dc_Mod_longest_157 rfl (by assumption) (vp_in_nI (by omega) (by omega)) ?_
              rw [ca, p2 qa b1]
              cases ha : H' qa with
              | false =>
                refine wf_if_eq 203 dc_Mod_longest_158 (by decide) (fun hc => ?_) (fun hc => absurd rfl hc)
                exact Wf.to (by exact ⟨rfl, rfl, rfl, rfl, rfl, rfl, trivial⟩) (keep (fun z => by rw [ha] at z; exact absurd z.2.1 (by decide)))
              | true =>
                refine wf_if_eq 203 dc_Mod_longest_158 (by decide) (fun hc => absurd hc (by decide)) (fun hc => ?_)
                refine wf_aload_n dc_Mod_longest_161 rfl ?_
                refine wf_aload_n dc_Mod_longest_162 rfl ?_
                refine wf_getr dc_Mod_longest_163 fl_Mod_80 rfl (by assumption) (by assumption) ?_
                refine wf_iload dc_Mod_longest_166 rfl ?_
                refine wf_iaload (y := 0) dc_Mod_longest_168 rfl (by assumption) (vp_in_nI (by omega) (by omega)) ?_
                rw [cj, a4]
                have hpl : pl_of b (qa, qb, qk, qp) = b + qp := by unfold pl_of; rw [if_neg (by simp only; omega)]
                rw [hpl]
                refine wf_aload_n dc_Mod_longest_169 rfl ?_
                refine wf_getr dc_Mod_longest_170 fl_Mod_7 rfl (by assumption) (by assumption) ?_
                refine wf_bipush 120 dc_Mod_longest_173 (by decide) ?_
                refine wf_iload_n dc_Mod_longest_175 rfl ?_
                refine wf_imul dc_Mod_longest_176 ?_
                rw [n120]
                refine wf_iload dc_Mod_longest_177 rfl ?_
                refine wf_iadd dc_Mod_longest_179 ?_
                rw [nI_add]
                obtain ⟨cc, c1, c2', c3⟩ := hs1.2 at_ hal
                have hsg : sg_of w at_ = cc := by unfold sg_of; rw [c3, nI_clamp (by omega)]
                refine wf_iaload (y := 0) dc_Mod_longest_180 rfl (by assumption) (vp_in_nI (by omega) (by omega)) ?_
                rw [nI_clamp (show 120 * k + at_ < 2 ^ 31 by omega), (fw i3 p5).2 at_ hal, c3]
                refine wf_iv2 (M' := mt_Mod_isSign) (c := 8) dc_Mod_longest_181 tg_Mod_isSign ml_Mod_153 im_Mod_isSign se_Mod_isSign ⟨_, rfl, rfl⟩ (by assumption) (Nat.le_of_ble_eq_true rfl) (Nat.le_refl _) (Nat.le_refl _) (c_Mod_isSign (c := cc) hA (fT i3 p5) hb h60 hsT (b4 (by omega)) (b5 k3).1 (b5 k3).2 c1 c2') qI_nt (qI_go (fun x2 i2 hp => ?_))
                obtain ⟨rfl, hq⟩ := hp
                subst hq
                cases hy : at_m T qp cc with
                | false =>
                  refine wf_if_eq 203 dc_Mod_longest_184 (by decide) (fun hc => ?_) (fun hc => absurd rfl hc)
                  exact Wf.to (by exact ⟨rfl, rfl, rfl, rfl, rfl, rfl, trivial⟩) (keep (fun z => by rw [hsg, hy] at z; exact absurd z.2.2.2 (by decide)))
                | true =>
                  refine wf_if_eq 203 dc_Mod_longest_184 (by decide) (fun hc => absurd hc (by decide)) (fun hc => ?_)
                  refine wf_aload_n dc_Mod_longest_187 rfl ?_
                  refine wf_getr dc_Mod_longest_188 fl_Mod_87 rfl (by assumption) (by assumption) ?_
                  refine wf_aload_n dc_Mod_longest_191 rfl ?_
                  refine wf_getr dc_Mod_longest_192 fl_Mod_74 rfl (by assumption) (by assumption) ?_
                  refine wf_iload dc_Mod_longest_195 rfl ?_
                  refine wf_iaload (y := 0) dc_Mod_longest_197 rfl (by assumption) (vp_in_nI (by omega) (by omega)) ?_
                  rw [cj, a2]
                  refine wf_iconst 1 dc_Mod_longest_198 (by decide) ?_
                  refine wf_zastore (y := 1) dc_Mod_longest_199 rfl (by decide) (rfl) (by assumption) (vp_in_nI (by omega) (by omega)) ?_
                  refine wf_iconst 1 dc_Mod_longest_200 (by decide) ?_
                  refine wf_istore dc_Mod_longest_201 (by decide) ?_
                  refine wf_iinc _ dc_Mod_longest_203 rfl (nI_1 j) (by decide) ?_
                  refine wf_goto 115 dc_Mod_longest_206 (by decide) ?_
                  rw [cb]
                  refine Wf.to (L' := [(0, .ref (m + 0)), (1, .int (nI k)), (3, .int z'), (4, .int (wt_b true)), (5, .int (nI at_)), (6, .int (nI (j + 1)))]) (by exact ⟨rfl, rfl, rfl, rfl, rfl, rfl, trivial⟩) (ih2 (j + 1) (fun p => if p = qb then true else N p) true _ (by omega) (fun p hp => ?_) (fun p hp => by rw [wf_up_a (by omega)]; exact p2 p hp) (fun p hp => ?_) (fun z => by cases z) (mf_up p5 (i24 (by omega))))
                  · by_cases hpb : p = qb
                    · rw [hpb, if_pos rfl]; exact wf_up_s
                    · rw [if_neg hpb, wf_up_k hpb]; exact p1 p hp
                  · rw [p3j p]
                    by_cases hpb : p = qb
                    · rw [if_pos hpb]
                      exact ⟨fun _ => Or.inr ⟨k3, hpb.symm, ha, hal, by rw [hsg]; exact hy⟩, fun _ => rfl⟩
                    · rw [if_neg hpb, p3 p hp]
                      exact ⟨Or.inl, fun h => h.elim id (fun z => absurd z.2.1.symm hpb)⟩
          -- next is cleared
          have clr : ∀ (c2 j : Nat) (i3 : Wi), j + c2 = P → (∀ p, p < j → i3 (m + 24) p = wt_b false) → (∀ p, p < P → i3 (m + 23) p = wt_b (H' p)) → mf m lo_S i i3 → Wf l E n0 mt_Mod_longest (d + 1) 0 0 Q0 0 0 89 [(0, .ref (m + 0)), (1, .int (nI k)), (3, .int z'), (4, .int (wt_b false)), (5, .int (nI at_)), (6, .int (nI j))] [] nx t r i3 g := by
            intro c2
            induction c2 with
            | zero =>
              intro j i3 hj p1 p2 p5
              refine wf_iload dc_Mod_longest_89 rfl ?_
              refine wf_aload_n dc_Mod_longest_91 rfl ?_
              refine wf_geti dc_Mod_longest_92 fl_Mod_114 rfl (by assumption) ?_
              rw [fP i3 p5]
              refine wf_icmp_ge 112 dc_Mod_longest_95 (by decide) (fun hc => ?_) (fun hc => absurd ((nI_leI (by omega) (by omega)).mpr (by omega)) hc)
              refine wf_iconst 0 dc_Mod_longest_112 (by decide) ?_
              refine wf_istore dc_Mod_longest_113 (by decide) ?_
              exact Wf.to (L' := [(0, .ref (m + 0)), (1, .int (nI k)), (3, .int z'), (4, .int (wt_b false)), (5, .int (nI at_)), (6, .int (nI 0))]) (by exact ⟨rfl, rfl, rfl, rfl, rfl, rfl, trivial⟩) (edg G.length 0 (fun _ => false) false i3 (Nat.zero_add _) (fun p hp => p1 p (by omega)) p2 (fun p hp => ⟨fun z => (by cases z), fun ⟨e, e1, _⟩ => absurd e1 (Nat.not_lt_zero _)⟩) (fun _ p hp => rfl) p5)
            | succ c2 ih2 =>
              intro j i3 hj p1 p2 p5
              have cj : (nI j).toNatClampNeg = j := nI_clamp (by omega)
              refine wf_iload dc_Mod_longest_89 rfl ?_
              refine wf_aload_n dc_Mod_longest_91 rfl ?_
              refine wf_geti dc_Mod_longest_92 fl_Mod_114 rfl (by assumption) ?_
              rw [fP i3 p5]
              refine wf_icmp_ge 112 dc_Mod_longest_95 (by decide) (fun hc => absurd ((nI_leI (by omega) (by omega)).mp hc) (by omega)) (fun hc => ?_)
              refine wf_aload_n dc_Mod_longest_98 rfl ?_
              refine wf_getr dc_Mod_longest_99 fl_Mod_87 rfl (by assumption) (by assumption) ?_
              refine wf_iload dc_Mod_longest_102 rfl ?_
              refine wf_iconst 0 dc_Mod_longest_104 (by decide) ?_
              refine wf_zastore (y := 1) dc_Mod_longest_105 rfl (by decide) (rfl) (by assumption) (vp_in_nI (by omega) (by omega)) ?_
              refine wf_iinc _ dc_Mod_longest_106 rfl (nI_1 j) (by decide) ?_
              refine wf_goto 89 dc_Mod_longest_109 (by decide) ?_
              rw [cj]
              refine Wf.to (by exact ⟨rfl, rfl, rfl, rfl, rfl, rfl, trivial⟩) (ih2 (j + 1) _ (by omega) (fun p hp => ?_) (fun p hp => by rw [wf_up_a (by omega)]; exact p2 p hp) (mf_up p5 (i24 (by omega))))
              by_cases hpj : p = j
              · rw [hpj]; exact wf_up_s
              · rw [wf_up_k hpj]; exact p1 p (by omega)
          refine wf_istore_n dc_Mod_longest_82 (by decide) ?_
          refine wf_iconst 0 dc_Mod_longest_83 (by decide) ?_
          refine wf_istore dc_Mod_longest_84 (by decide) ?_
          refine wf_iconst 0 dc_Mod_longest_86 (by decide) ?_
          refine wf_istore dc_Mod_longest_87 (by decide) ?_
          exact Wf.to (L' := [(0, .ref (m + 0)), (1, .int (nI k)), (3, .int z'), (4, .int (wt_b false)), (5, .int (nI at_)), (6, .int (nI 0))]) (by exact ⟨rfl, rfl, rfl, rfl, rfl, rfl, trivial⟩) (clr P 0 i2 (Nat.zero_add _) (fun p hp => absurd hp (Nat.not_lt_zero _)) h1 q6)
        refine wf_aload_n dc_Mod_longest_67 rfl ?_
        refine wf_getr dc_Mod_longest_68 fl_Mod_83 rfl (by assumption) (by assumption) ?_
        refine wf_iconst 1 dc_Mod_longest_71 (by decide) ?_
        refine wf_zaload (y := 1) dc_Mod_longest_72 rfl (by assumption) (vp_in_nI (n := 1) (by omega) (by omega)) ?_
        rw [show i2 (m + 23) (Int32.toNatClampNeg 1) = wt_b (H' 1) from h1 1 (by omega)]
        cases h1H : H' 1 with
        | true =>
          refine wf_if_eq 81 dc_Mod_longest_73 (by decide) (fun hc => absurd hc (by decide)) (fun hc => ?_)
          refine wf_iload dc_Mod_longest_76 rfl ?_
          refine wf_goto 82 dc_Mod_longest_78 (by decide) ?_
          exact Wf.to (by exact ⟨rfl, rfl, rfl, trivial⟩) (beh _ (bx_yes ((hR 1 (by omega)).mp h1H)))
        | false =>
          refine wf_if_eq 81 dc_Mod_longest_73 (by decide) (fun hc => ?_) (fun hc => absurd rfl hc)
          refine wf_iload_n dc_Mod_longest_81 rfl ?_
          refine Wf.to (by exact ⟨rfl, rfl, rfl, trivial⟩) (beh _ (bx_no q4 (by omega) (fun e he1 he2 hA => ?_)))
          have he : e = at_ := by omega
          subst he
          have := (hR 1 (by omega)).mpr hA
          rw [h1H] at this
          cases this
  -- the first point alone
  have ini : ∀ (c j : Nat) (i1 : Wi), j + c = P → (∀ p, p < j → i1 (m + 23) p = wt_b (decide (p = 0))) → mf m lo_S i i1 → Wf l E n0 mt_Mod_longest (d + 1) 0 0 Q0 0 0 2 [(0, .ref (m + 0)), (1, .int (nI k)), (2, .int (nI s)), (3, .int (nI j))] [] nx t r i1 g := by
    intro c
    induction c with
    | zero =>
      intro j i1 hj p1 p2
      refine wf_iload_n dc_Mod_longest_2 rfl ?_
      refine wf_aload_n dc_Mod_longest_3 rfl ?_
      refine wf_geti dc_Mod_longest_4 fl_Mod_114 rfl (by assumption) ?_
      rw [fP i1 p2]
      refine wf_icmp_ge 31 dc_Mod_longest_7 (by decide) (fun hc => ?_) (fun hc => absurd ((nI_leI (by omega) (by omega)).mpr (by omega)) hc)
      refine wf_iconst (-1) dc_Mod_longest_31 (by decide) ?_
      refine wf_istore_n dc_Mod_longest_32 (by decide) ?_
      refine wf_iconst 1 dc_Mod_longest_33 (by decide) ?_
      refine wf_istore dc_Mod_longest_34 (by decide) ?_
      refine wf_iload_n dc_Mod_longest_36 rfl ?_
      refine wf_istore dc_Mod_longest_37 (by decide) ?_
      refine Wf.to (L' := [(0, .ref (m + 0)), (1, .int (nI k)), (3, .int (-1)), (4, .int (wt_b true)), (5, .int (nI s))]) (by exact ⟨rfl, rfl, rfl, rfl, rfl, trivial⟩) (main (w.length + 1 - s) s (fun p => decide (p = 0)) true (-1) 0 i1 (by omega) (Nat.le_refl _) (fun p hp => p1 p (by omega)) (fun p hp => ?_) (fun z => by cases z) (Or.inl ⟨rfl, fun e he hA => absurd (gR_le hA).1 (by omega)⟩) p2)
      rw [decide_eq_true_iff]
      exact ⟨fun z => Or.inl ⟨rfl, z⟩, fun z => z.elim (fun z => z.2) (fun z => absurd z.1 (by omega))⟩
    | succ c ih =>
      intro j i1 hj p1 p2
      have cj : (nI j).toNatClampNeg = j := nI_clamp (by omega)
      refine wf_iload_n dc_Mod_longest_2 rfl ?_
      refine wf_aload_n dc_Mod_longest_3 rfl ?_
      refine wf_geti dc_Mod_longest_4 fl_Mod_114 rfl (by assumption) ?_
      rw [fP i1 p2]
      refine wf_icmp_ge 31 dc_Mod_longest_7 (by decide) (fun hc => absurd ((nI_leI (by omega) (by omega)).mp hc) (by omega)) (fun hc => ?_)
      have st : Wf l E n0 mt_Mod_longest (d + 1) 0 0 Q0 0 0 24 [(0, .ref (m + 0)), (1, .int (nI k)), (2, .int (nI s)), (3, .int (nI j))] [.int (wt_b (decide (j = 0))), .int (nI j), .ref (m + 23)] nx t r i1 g := by
        refine wf_zastore (y := 1) dc_Mod_longest_24 rfl (by decide) (wt_bn2 _) (by assumption) (vp_in_nI (by omega) (by omega)) ?_
        refine wf_iinc _ dc_Mod_longest_25 rfl (nI_1 j) (by decide) ?_
        refine wf_goto 2 dc_Mod_longest_28 (by decide) ?_
        rw [cj]
        refine Wf.to (by exact ⟨rfl, rfl, rfl, rfl, trivial⟩) (ih (j + 1) _ (by omega) (fun p hp => ?_) (mf_up p2 (i23 (by omega))))
        by_cases hpj : p = j
        · rw [hpj]; exact wf_up_s
        · rw [wf_up_k hpj]; exact p1 p (by omega)
      refine wf_aload_n dc_Mod_longest_10 rfl ?_
      refine wf_getr dc_Mod_longest_11 fl_Mod_83 rfl (by assumption) (by assumption) ?_
      refine wf_iload_n dc_Mod_longest_14 rfl ?_
      refine wf_iload_n dc_Mod_longest_15 rfl ?_
      by_cases hj0 : j = 0
      · refine wf_if_ne 23 dc_Mod_longest_16 (by decide) (fun hc => absurd (by rw [hj0]; rfl) hc) (fun hc => ?_)
        refine wf_iconst 1 dc_Mod_longest_19 (by decide) ?_
        refine wf_goto 24 dc_Mod_longest_20 (by decide) ?_
        rw [decide_eq_true hj0] at st
        exact Wf.to (by exact ⟨rfl, rfl, rfl, rfl, trivial⟩) st
      · refine wf_if_ne 23 dc_Mod_longest_16 (by decide) (fun hc => ?_) (fun hc => absurd hc (nI_ne0 (by omega) (by omega)))
        refine wf_iconst 0 dc_Mod_longest_23 (by decide) ?_
        rw [decide_eq_false hj0] at st
        exact Wf.to (by exact ⟨rfl, rfl, rfl, rfl, trivial⟩) st
  refine wf_iconst 0 dc_Mod_longest_0 (by decide) ?_
  refine wf_istore_n dc_Mod_longest_1 (by decide) ?_
  exact Wf.to (L' := [(0, .ref (m + 0)), (1, .int (nI k)), (2, .int (nI s)), (3, .int (nI 0))]) (by exact ⟨rfl, rfl, rfl, rfl, trivial⟩) (ini P 0 i (Nat.zero_add _) (fun p hp => absurd hp (Nat.not_lt_zero _)) mf_rf)
end
