/-! the reference: spread -/
section
variable {M : Nat → Nat → Bool} {G : List Ed} {w : List Int32}
theorem ed_ok_le {s e k p : Nat} (h : ed_ok M w s e k p) : s ≤ e ∧ (s ≤ w.length → e ≤ w.length) := by
  unfold ed_ok at h
  split at h
  · omega
  · split at h
    · omega
    · split at h <;> omega
theorem gR_le {a s b e : Nat} (h : gR M G w a s b e) : s ≤ e ∧ (s ≤ w.length → e ≤ w.length) := by
  obtain ⟨n, h⟩ := h
  induction n generalizing a s with
  | zero => obtain ⟨-, rfl⟩ := h; omega
  | succ n ih =>
    obtain ⟨c, m, ⟨q, q1, q2, q3, q4⟩, z⟩ := h
    have h1 := ed_ok_le q4
    have h2 := ih z
    omega
/-- an edge that takes no sign is open at a place -/
def op (w : List Int32) (s : Nat) (q : Ed) : Bool := decide (q.2.2.1 = 0) || (decide (q.2.2.1 = 1) && decide (s = 0)) || (decide (q.2.2.1 = 2) && decide (s = w.length))
theorem op_ok {s p k : Nat} {a b : Nat} (hk : k ≤ 3) : ed_ok M w s s k p ↔ op w s (a, b, k, p) = true := by
  unfold ed_ok op
  have hc : k = 0 ∨ k = 1 ∨ k = 2 ∨ k = 3 := by omega
  rcases hc with rfl | rfl | rfl | rfl <;> simp
/-- what open edges lead to, and nothing else -/
theorem sp_cl {P s : Nat} {H H' : Nat → Bool} (hv : ∀ q ∈ G, q.1 < P ∧ q.2.1 < P ∧ q.2.2.1 ≤ 3) (h1 : ∀ p, p < P → H p = true → H' p = true) (h2 : ∀ q ∈ G, op w s q = true → H' q.1 = true → H' q.2.1 = true) (h3 : ∀ p, p < P → H' p = true → ∃ a, a < P ∧ H a = true ∧ gR M G w a s p s) : ∀ p, p < P → (H' p = true ↔ ∃ a, a < P ∧ H a = true ∧ gR M G w a s p s) := by
  intro p hp
  refine ⟨h3 p hp, ?_⟩
  rintro ⟨a, ha, hH, n, hn⟩
  have key : ∀ n a, H' a = true → gn M G w n a s p s → H' p = true := by
    intro n
    induction n with
    | zero =>
      rintro a h ⟨rfl, -⟩
      exact h
    | succ n ih =>
      rintro a h ⟨c, m, ⟨q, q1, rfl, rfl, q4⟩, z⟩
      have z1 := ed_ok_le q4
      have z2 := gR_le ⟨n, z⟩
      have hm : m = s := by omega
      subst hm
      exact ih _ (h2 q q1 ((op_ok (hv q q1).2.2).mp q4) h) z
  exact key n a (h1 a ha hH) hn
def fz (H : Nat → Bool) : Nat → Nat
  | 0 => 0
  | n + 1 => fz H n + (if H n = true then 0 else 1)
theorem fz_le {H H' : Nat → Bool} (n : Nat) (h : ∀ p, p < n → H p = true → H' p = true) : fz H' n ≤ fz H n := by
  induction n with
  | zero => exact Nat.le_refl _
  | succ n ih =>
    have h1 := ih (fun p hp => h p (by omega))
    unfold fz
    by_cases hn : H n = true
    · rw [if_pos hn, if_pos (h n (by omega) hn)]; omega
    · rw [if_neg hn]
      split <;> omega
theorem fz_lt {H H' : Nat → Bool} {q : Nat} (n : Nat) (h : ∀ p, p < n → H p = true → H' p = true) (hq : q < n) (h0 : H q = false) (h1 : H' q = true) : fz H' n < fz H n := by
  induction n with
  | zero => exact absurd hq (Nat.not_lt_zero _)
  | succ n ih =>
    unfold fz
    by_cases hqn : q = n
    · subst hqn
      have := fz_le q (fun p hp => h p (by omega))
      rw [h0, if_pos h1, if_neg (by decide)]
      omega
    · have h2 := ih (fun p hp => h p (by omega)) (by omega)
      by_cases hn : H n = true
      · rw [if_pos hn, if_pos (h n (by omega) hn)]; omega
      · rw [if_neg hn]
        split <;> omega
end
section
variable {l : Launch} {E : We} {n0 d nx : Nat} {t : Wt} {r : Wr} {i i1 i2 : Wi} {g : Wl} {m : Nat} {S : Ms}
theorem g_is.fr {b : Nat} {G : List Ed} (h : g_is i m b G) (hf : mf m S i i1) (h0 : ms_no S 0 27 28) (hs : ∀ c, 19 ≤ c → c ≤ 22 → ∀ q ∈ S, q.1 ≠ c) : g_is i1 m b G := by
  have at' : ∀ c j, 19 ≤ c → c ≤ 22 → i1 (m + c) j = i (m + c) j := fun c j c1 c2 => hf.at (fun q hq z => absurd z (hs c c1 c2 q hq))
  refine ⟨(hf.at h0).trans h.1, fun j hj => ?_⟩
  obtain ⟨a1, a2, a3, a4⟩ := h.2 j hj
  exact ⟨(at' 19 j (by omega) (by omega)).trans a1, (at' 20 j (by omega) (by omega)).trans a2, (at' 21 j (by omega) (by omega)).trans a3, (at' 22 j (by omega) (by omega)).trans a4⟩
theorem c_Mod_spread {M : Nat → Nat → Bool} {b P s : Nat} {G : List Ed} {w : List Int32} {H : Nat → Bool} (hA : mo_at t r m) (hP : P ≤ 400) (hG : g_is i m b G) (hl : G.length ≤ 800) (hv : ∀ q ∈ G, q.1 < P ∧ q.2.1 < P ∧ q.2.2.1 ≤ 3) (hH : ∀ p, p < P → i (m + 23) p = wt_b (H p)) (hs : s ≤ w.length) (hw : w.length ≤ 120) : Ct l E n0 mt_Mod_spread d 0 0 [.ref (m + 0), .int (nI s), .int (nI w.length)] nx t r i g (qV nx t r g (fun i' => (∃ H' : Nat → Bool, (∀ p, p < P → i' (m + 23) p = wt_b (H' p)) ∧ ∀ p, p < P → (H' p = true ↔ ∃ a, a < P ∧ H a = true ∧ gR M G w a s p s)) ∧ mf m [(23, 0, 400)] i i')) := by
  have t0 := hA.1.1
  have r28 : r (m + 0) 28 = some (m + 19) := hA.2 (0, 28, 19) (by decide +kernel)
  have r29 : r (m + 0) 29 = some (m + 20) := hA.2 (0, 29, 20) (by decide +kernel)
  have r30 : r (m + 0) 30 = some (m + 21) := hA.2 (0, 30, 21) (by decide +kernel)
  have r32 : r (m + 0) 32 = some (m + 23) := hA.2 (0, 32, 23) (by decide +kernel)
  have t19 := hA.1.2 19 (19, .inr (0, 800)) (by decide +kernel)
  have t20 := hA.1.2 20 (20, .inr (0, 800)) (by decide +kernel)
  have t21 := hA.1.2 21 (21, .inr (0, 800)) (by decide +kernel)
  have t23 := hA.1.2 23 (23, .inr (1, 400)) (by decide +kernel)
  generalize hQ : (qV nx t r g (fun i' => (∃ H' : Nat → Bool, (∀ p, p < P → i' (m + 23) p = wt_b (H' p)) ∧ ∀ p, p < P → (H' p = true ↔ ∃ a, a < P ∧ H a = true ∧ gR M G w a s p s)) ∧ mf m [(23, 0, 400)] i i')) = Q0
  refine Ct.of (by decide) (Nat.le_of_ble_eq_true rfl) ?_
  have outer : ∀ (n : Nat) (H0 : Nat → Bool) (i1 : Wi), fz H0 P ≤ n → (∀ p, p < P → i1 (m + 23) p = wt_b (H0 p)) → (∀ p, p < P → H p = true → H0 p = true) → (∀ p, p < P → H0 p = true → ∃ a, a < P ∧ H a = true ∧ gR M G w a s p s) → mf m [(23, 0, 400)] i i1 → Wf l E n0 mt_Mod_spread d 0 0 Q0 0 0 2 [(0, .ref (m + 0)), (1, .int (nI s)), (2, .int (nI w.length)), (3, .int (wt_b true))] [] nx t r i1 g := by
    intro n
    induction n with
    | zero => ?_
    | succ n ihn => ?_
    all_goals
      intro H0 i1 hn hI hsub hrch hfr
      have inner : ∀ (c j : Nat) (H1 : Nat → Bool) (mo : Bool) (i2 : Wi), j + c = G.length → (∀ p, p < P → i2 (m + 23) p = wt_b (H1 p)) → (∀ p, p < P → H0 p = true → H1 p = true) → (∀ p, p < P → H1 p = true → ∃ a, a < P ∧ H a = true ∧ gR M G w a s p s) → (mo = false → (∀ p, p < P → H1 p = H0 p) ∧ ∀ k, k < j → op w s (ed_d G k) = true → H0 (ed_d G k).1 = true → H0 (ed_d G k).2.1 = true) → (mo = true → fz H1 P < fz H0 P) → mf m [(23, 0, 400)] i i2 → Wf l E n0 mt_Mod_spread d 0 0 Q0 0 0 11 [(0, .ref (m + 0)), (1, .int (nI s)), (2, .int (nI w.length)), (3, .int (wt_b mo)), (4, .int (nI j))] [] nx t r i2 g := by
        intro c
        induction c with
        | zero =>
          intro j H1 mo i2 hj q1 q2 q3 q4 q5 q6
          have hG2 := hG.fr q6 (by simp [ms_no]) (fun c c1 c2 q hq => by rw [List.mem_singleton.mp hq]; simp only; omega)
          refine wf_iload dc_Mod_spread_11 rfl ?_
          refine wf_aload_n dc_Mod_spread_13 rfl ?_
          refine wf_geti dc_Mod_spread_14 fl_Mod_117 rfl (by assumption) ?_
          rw [hG2.1]
          refine wf_icmp_ge 124 dc_Mod_spread_17 (by decide) (fun hc => ?_) (fun hc => absurd ((nI_leI (by omega) (by omega)).mpr (by omega)) hc)
          refine wf_goto 2 dc_Mod_spread_124 (by decide) ?_
          cases mo with
          | true =>
            have h5 := q5 rfl
            first
              | exact absurd h5 (by omega)
              | exact Wf.to (by exact ⟨rfl, rfl, rfl, rfl, trivial⟩) (ihn H1 i2 (by omega) q1 (fun p hp h => q2 p hp (hsub p hp h)) q3 q6)
          | false =>
            obtain ⟨h41, h42⟩ := q4 rfl
            refine wf_iload_n dc_Mod_spread_2 rfl ?_
            refine wf_if_eq 127 dc_Mod_spread_3 (by decide) (fun hc => ?_) (fun hc => absurd rfl hc)
            refine wf_return rfl dc_Mod_spread_127 ?_
            rw [← hQ]
            refine ⟨rfl, rfl, rfl, rfl, rfl, ⟨H0, fun p hp => by rw [← h41 p hp]; exact q1 p hp, sp_cl hv hsub (fun q hq ho h => ?_) hrch⟩, q6⟩
            obtain ⟨k, hk, rfl⟩ := List.mem_iff_getElem.mp hq
            have he : ed_d G k = G[k] := by unfold ed_d; rw [List.getD_eq_getElem?_getD, List.getElem?_eq_getElem hk]; rfl
            have := h42 k (by omega)
            rw [he] at this
            exact this ho h
        | succ c ih =>
          intro j H1 mo i2 hj q1 q2 q3 q4 q5 q6
          have hG2 := hG.fr q6 (by simp [ms_no]) (fun c c1 c2 q hq => by rw [List.mem_singleton.mp hq]; simp only; omega)
          have hjl : j < G.length := by omega
          obtain ⟨a1, a2, a3, -⟩ := hG2.2 j hjl
          have hmem : ed_d G j ∈ G := by
            unfold ed_d
            rw [List.getD_eq_getElem?_getD, List.getElem?_eq_getElem hjl]
            exact List.getElem_mem hjl
          obtain ⟨b1, b2, b3⟩ := hv _ hmem
          generalize hq0 : ed_d G j = q at a1 a2 a3 hmem b1 b2 b3
          obtain ⟨qa, qb, qk, qp⟩ := q
          simp only at a1 a2 a3 b1 b2 b3
          have cj : (nI j).toNatClampNeg = j := nI_clamp (by omega)
          have ca : (nI qa).toNatClampNeg = qa := nI_clamp (by omega)
          have cb : (nI qb).toNatClampNeg = qb := nI_clamp (by omega)
          -- the next edge
          have nxt : ∀ (H2 : Nat → Bool) (mo2 : Bool) (i3 : Wi) (y : Int32), (∀ p, p < P → i3 (m + 23) p = wt_b (H2 p)) → (∀ p, p < P → H0 p = true → H2 p = true) → (∀ p, p < P → H2 p = true → ∃ a, a < P ∧ H a = true ∧ gR M G w a s p s) → (mo2 = false → (∀ p, p < P → H2 p = H0 p) ∧ ∀ k, k < j + 1 → op w s (ed_d G k) = true → H0 (ed_d G k).1 = true → H0 (ed_d G k).2.1 = true) → (mo2 = true → fz H2 P < fz H0 P) → mf m [(23, 0, 400)] i i3 → Wf l E n0 mt_Mod_spread d 0 0 Q0 0 0 118 [(0, .ref (m + 0)), (1, .int (nI s)), (2, .int (nI w.length)), (3, .int (wt_b mo2)), (4, .int (nI j)), (5, .int y)] [] nx t r i3 g := fun H2 mo2 i3 y z1 z2 z3 z4 z5 z6 => by
            refine wf_iinc _ dc_Mod_spread_118 rfl (nI_1 j) (by decide) ?_
            refine wf_goto 11 dc_Mod_spread_121 (by decide) ?_
            exact Wf.to (by exact ⟨rfl, rfl, rfl, rfl, rfl, trivial⟩) (ih (j + 1) H2 mo2 i3 (by omega) z1 z2 z3 z4 z5 z6)
          -- nothing is done with this edge
          have keep : ∀ y : Int32, (op w s (qa, qb, qk, qp) = true → H1 qa = true → H1 qb = true) → Wf l E n0 mt_Mod_spread d 0 0 Q0 0 0 118 [(0, .ref (m + 0)), (1, .int (nI s)), (2, .int (nI w.length)), (3, .int (wt_b mo)), (4, .int (nI j)), (5, .int y)] [] nx t r i2 g := fun y hk => by
            refine nxt H1 mo i2 y q1 q2 q3 (fun hm => ?_) q5 q6
            obtain ⟨h41, h42⟩ := q4 hm
            refine ⟨h41, fun k hk1 ho h => ?_⟩
            by_cases hkj : k = j
            · subst hkj
              rw [hq0] at ho h ⊢
              simp only at h ⊢
              rw [← h41 qb b2]
              exact hk ho (by rw [h41 qa b1]; exact h)
            · exact h42 k (by omega) ho h
          have opn : ∀ o : Bool, o = op w s (qa, qb, qk, qp) → Wf l E n0 mt_Mod_spread d 0 0 Q0 0 0 66 [(0, .ref (m + 0)), (1, .int (nI s)), (2, .int (nI w.length)), (3, .int (wt_b mo)), (4, .int (nI j))] [.int (wt_b o)] nx t r i2 g := fun o ho => by
            refine wf_istore dc_Mod_spread_66 (by decide) ?_
            refine wf_iload dc_Mod_spread_68 rfl ?_
            cases o with
            | false =>
              refine wf_if_eq 118 dc_Mod_spread_70 (by decide) (fun hc => ?_) (fun hc => absurd rfl hc)
              exact Wf.to (by exact ⟨rfl, rfl, rfl, rfl, rfl, rfl, trivial⟩) (keep _ (fun z => by rw [← ho] at z; cases z))
            | true =>
              refine wf_if_eq 118 dc_Mod_spread_70 (by decide) (fun hc => absurd hc (by decide)) (fun hc => ?_)
              refine wf_aload_n dc_Mod_spread_73 rfl ?_
              refine wf_getr dc_Mod_spread_74 fl_Mod_83 rfl (by assumption) (by assumption) ?_
              refine wf_aload_n dc_Mod_spread_77 rfl ?_
              refine wf_getr dc_Mod_spread_78 fl_Mod_71 rfl (by assumption) (by assumption) ?_
              refine wf_iload dc_Mod_spread_81 rfl ?_
              refine wf_iaload (y := 0) dc_Mod_spread_83 rfl (by assumption) (vp_in_nI (by omega) (by omega)) ?_
              rw [cj, a1]
              refine wf_zaload (y := 1) dc_Mod_spread_84 rfl (by assumption) (vp_in_nI (by omega) (by omega)) ?_
              rw [ca, q1 qa b1]
              cases ha : H1 qa with
              | false =>
                refine wf_if_eq 118 dc_Mod_spread_85 (by decide) (fun hc => ?_) (fun hc => absurd rfl hc)
                exact Wf.to (by exact ⟨rfl, rfl, rfl, rfl, rfl, rfl, trivial⟩) (keep _ (fun _ z => by rw [ha] at z; cases z))
              | true =>
                refine wf_if_eq 118 dc_Mod_spread_85 (by decide) (fun hc => absurd hc (by decide)) (fun hc => ?_)
                refine wf_aload_n dc_Mod_spread_88 rfl ?_
                refine wf_getr dc_Mod_spread_89 fl_Mod_83 rfl (by assumption) (by assumption) ?_
                refine wf_aload_n dc_Mod_spread_92 rfl ?_
                refine wf_getr dc_Mod_spread_93 fl_Mod_74 rfl (by assumption) (by assumption) ?_
                refine wf_iload dc_Mod_spread_96 rfl ?_
                refine wf_iaload (y := 0) dc_Mod_spread_98 rfl (by assumption) (vp_in_nI (by omega) (by omega)) ?_
                rw [cj, a2]
                refine wf_zaload (y := 1) dc_Mod_spread_99 rfl (by assumption) (vp_in_nI (by omega) (by omega)) ?_
                rw [cb, q1 qb b2]
                cases hb2 : H1 qb with
                | true =>
                  refine wf_if_ne 118 dc_Mod_spread_100 (by decide) (fun hc => ?_) (fun hc => absurd hc (by decide))
                  exact Wf.to (by exact ⟨rfl, rfl, rfl, rfl, rfl, rfl, trivial⟩) (keep _ (fun _ _ => hb2))
                | false =>
                  refine wf_if_ne 118 dc_Mod_spread_100 (by decide) (fun hc => absurd rfl hc) (fun hc => ?_)
                  refine wf_aload_n dc_Mod_spread_103 rfl ?_
                  refine wf_getr dc_Mod_spread_104 fl_Mod_83 rfl (by assumption) (by assumption) ?_
                  refine wf_aload_n dc_Mod_spread_107 rfl ?_
                  refine wf_getr dc_Mod_spread_108 fl_Mod_74 rfl (by assumption) (by assumption) ?_
                  refine wf_iload dc_Mod_spread_111 rfl ?_
                  refine wf_iaload (y := 0) dc_Mod_spread_113 rfl (by assumption) (vp_in_nI (by omega) (by omega)) ?_
                  rw [cj, a2]
                  refine wf_iconst 1 dc_Mod_spread_114 (by decide) ?_
                  refine wf_zastore (y := 1) dc_Mod_spread_115 rfl (by decide) (rfl) (by assumption) (vp_in_nI (by omega) (by omega)) ?_
                  refine wf_iconst 1 dc_Mod_spread_116 (by decide) ?_
                  refine wf_istore_n dc_Mod_spread_117 (by decide) ?_
                  rw [cb]
                  refine Wf.to (L' := [(0, .ref (m + 0)), (1, .int (nI s)), (2, .int (nI w.length)), (3, .int (wt_b true)), (4, .int (nI j)), (5, .int (wt_b true))]) (by exact ⟨rfl, rfl, rfl, rfl, rfl, rfl, trivial⟩) (nxt (fun p => if p = qb then true else H1 p) true _ _ (fun p hp => ?_) (fun p hp h => ?_) (fun p hp h => ?_) (fun z => by cases z) (fun _ => ?_) (mf_up q6 ⟨(23, 0, 400), by simp, rfl, Nat.zero_le _, by simp only; omega⟩))
                  · by_cases hpb : p = qb
                    · rw [hpb, if_pos rfl]; exact wf_up_s
                    · rw [if_neg hpb, wf_up_k hpb]; exact q1 p hp
                  · by_cases hpb : p = qb
                    · rw [if_pos hpb]
                    · rw [if_neg hpb]; exact q2 p hp h
                  · by_cases hpb : p = qb
                    · subst hpb
                      obtain ⟨a, h1, h2, h3⟩ := q3 qa b1 ha
                      exact ⟨a, h1, h2, gR_tr h3 (gR_ed (q := (qa, p, qk, qp)) hmem ((op_ok b3).mpr ho.symm))⟩
                    · rw [if_neg hpb] at h; exact q3 p hp h
                  · refine Nat.lt_of_lt_of_le (fz_lt (H := H1) (q := qb) P (fun p hp h => ?_) b2 hb2 (if_pos rfl)) (fz_le P q2)
                    by_cases hpb : p = qb
                    · rw [if_pos hpb]
                    · rw [if_neg hpb]; exact h
          refine wf_iload dc_Mod_spread_11 rfl ?_
          refine wf_aload_n dc_Mod_spread_13 rfl ?_
          refine wf_geti dc_Mod_spread_14 fl_Mod_117 rfl (by assumption) ?_
          rw [hG2.1]
          refine wf_icmp_ge 124 dc_Mod_spread_17 (by decide) (fun hc => absurd ((nI_leI (by omega) (by omega)).mp hc) (by omega)) (fun hc => ?_)
          refine wf_aload_n dc_Mod_spread_20 rfl ?_
          refine wf_getr dc_Mod_spread_21 fl_Mod_77 rfl (by assumption) (by assumption) ?_
          refine wf_iload dc_Mod_spread_24 rfl ?_
          refine wf_iaload (y := 0) dc_Mod_spread_26 rfl (by assumption) (vp_in_nI (by omega) (by omega)) ?_
          rw [cj, a3]
          have yes : op w s (qa, qb, qk, qp) = true → Wf l E n0 mt_Mod_spread d 0 0 Q0 0 0 61 [(0, .ref (m + 0)), (1, .int (nI s)), (2, .int (nI w.length)), (3, .int (wt_b mo)), (4, .int (nI j))] [] nx t r i2 g := fun ho => by
            refine wf_iconst 1 dc_Mod_spread_61 (by decide) ?_
            refine wf_goto 66 dc_Mod_spread_62 (by decide) ?_
            exact Wf.to (by exact ⟨rfl, rfl, rfl, rfl, rfl, trivial⟩) (opn true ho.symm)
          have nope : op w s (qa, qb, qk, qp) = false → Wf l E n0 mt_Mod_spread d 0 0 Q0 0 0 65 [(0, .ref (m + 0)), (1, .int (nI s)), (2, .int (nI w.length)), (3, .int (wt_b mo)), (4, .int (nI j))] [] nx t r i2 g := fun ho => by
            refine wf_iconst 0 dc_Mod_spread_65 (by decide) ?_
            exact Wf.to (by exact ⟨rfl, rfl, rfl, rfl, rfl, trivial⟩) (opn false ho.symm)
          have hop : op w s (qa, qb, qk, qp) = (decide (qk = 0) || (decide (qk = 1) && decide (s = 0)) || (decide (qk = 2) && decide (s = w.length))) := rfl
          by_cases k0 : qk = 0
          · refine wf_if_eq 61 dc_Mod_spread_27 (by decide) (fun hc => ?_) (fun hc => absurd (by rw [k0]; rfl) hc)
            exact Wf.to (by exact ⟨rfl, rfl, rfl, rfl, rfl, trivial⟩) (yes (by rw [hop, decide_eq_true k0]; rfl))
          refine wf_if_eq 61 dc_Mod_spread_27 (by decide) (fun hc => absurd hc (nI_ne0 (by omega) (by omega))) (fun hc => ?_)
          rw [decide_eq_false k0, Bool.false_or] at hop
          have at45 : (qk = 1 → ¬ s = 0) → Wf l E n0 mt_Mod_spread d 0 0 Q0 0 0 45 [(0, .ref (m + 0)), (1, .int (nI s)), (2, .int (nI w.length)), (3, .int (wt_b mo)), (4, .int (nI j))] [] nx t r i2 g := fun h1 => by
            have hf1 : (decide (qk = 1) && decide (s = 0)) = false := by
              by_cases k1 : qk = 1
              · rw [decide_eq_false (h1 k1), Bool.and_false]
              · rw [decide_eq_false k1, Bool.false_and]
            rw [hf1, Bool.false_or] at hop
            refine wf_aload_n dc_Mod_spread_45 rfl ?_
            refine wf_getr dc_Mod_spread_46 fl_Mod_77 rfl (by assumption) (by assumption) ?_
            refine wf_iload dc_Mod_spread_49 rfl ?_
            refine wf_iaload (y := 0) dc_Mod_spread_51 rfl (by assumption) (vp_in_nI (by omega) (by omega)) ?_
            refine wf_iconst 2 dc_Mod_spread_52 (by decide) ?_
            rw [cj, a3]
            by_cases k2 : qk = 2
            · refine wf_icmp_ne 65 dc_Mod_spread_53 (by decide) (fun hc => absurd (by rw [k2]; rfl) hc) (fun hc => ?_)
              refine wf_iload_n dc_Mod_spread_56 rfl ?_
              refine wf_iload_n dc_Mod_spread_57 rfl ?_
              by_cases hse : s = w.length
              · refine wf_icmp_ne 65 dc_Mod_spread_58 (by decide) (fun hc => absurd (by rw [hse]) hc) (fun hc => ?_)
                exact Wf.to (by exact ⟨rfl, rfl, rfl, rfl, rfl, trivial⟩) (yes (by rw [hop, decide_eq_true k2, decide_eq_true hse]; rfl))
              · refine wf_icmp_ne 65 dc_Mod_spread_58 (by decide) (fun hc => ?_) (fun hc => absurd ((nI_eq (by omega) (by omega)).mp hc) hse)
                exact Wf.to (by exact ⟨rfl, rfl, rfl, rfl, rfl, trivial⟩) (nope (by rw [hop, decide_eq_false hse, Bool.and_false]))
            · refine wf_icmp_ne 65 dc_Mod_spread_53 (by decide) (fun hc => ?_) (fun hc => absurd ((nI_eq (b := 2) (by omega) (by omega)).mp hc) k2)
              exact Wf.to (by exact ⟨rfl, rfl, rfl, rfl, rfl, trivial⟩) (nope (by rw [hop, decide_eq_false k2, Bool.false_and]))
          refine wf_aload_n dc_Mod_spread_30 rfl ?_
          refine wf_getr dc_Mod_spread_31 fl_Mod_77 rfl (by assumption) (by assumption) ?_
          refine wf_iload dc_Mod_spread_34 rfl ?_
          refine wf_iaload (y := 0) dc_Mod_spread_36 rfl (by assumption) (vp_in_nI (by omega) (by omega)) ?_
          refine wf_iconst 1 dc_Mod_spread_37 (by decide) ?_
          rw [cj, a3]
          by_cases k1 : qk = 1
          · refine wf_icmp_ne 45 dc_Mod_spread_38 (by decide) (fun hc => absurd (by rw [k1]; rfl) hc) (fun hc => ?_)
            refine wf_iload_n dc_Mod_spread_41 rfl ?_
            by_cases hs0 : s = 0
            · refine wf_if_eq 61 dc_Mod_spread_42 (by decide) (fun hc => ?_) (fun hc => absurd (by rw [hs0]; rfl) hc)
              exact Wf.to (by exact ⟨rfl, rfl, rfl, rfl, rfl, trivial⟩) (yes (by rw [hop, decide_eq_true k1, decide_eq_true hs0]; rfl))
            · refine wf_if_eq 61 dc_Mod_spread_42 (by decide) (fun hc => absurd hc (nI_ne0 (by omega) (by omega))) (fun hc => ?_)
              exact Wf.to (by exact ⟨rfl, rfl, rfl, rfl, rfl, trivial⟩) (at45 (fun _ => hs0))
          · refine wf_icmp_ne 45 dc_Mod_spread_38 (by decide) (fun hc => ?_) (fun hc => absurd ((nI_eq (b := 1) (by omega) (by omega)).mp hc) k1)
            exact Wf.to (by exact ⟨rfl, rfl, rfl, rfl, rfl, trivial⟩) (at45 (fun z => absurd z k1))
      refine wf_iload_n dc_Mod_spread_2 rfl ?_
      refine wf_if_eq 127 dc_Mod_spread_3 (by decide) (fun hc => absurd hc (by decide)) (fun hc => ?_)
      refine wf_iconst 0 dc_Mod_spread_6 (by decide) ?_
      refine wf_istore_n dc_Mod_spread_7 (by decide) ?_
      refine wf_iconst 0 dc_Mod_spread_8 (by decide) ?_
      refine wf_istore dc_Mod_spread_9 (by decide) ?_
      exact Wf.to (L' := [(0, .ref (m + 0)), (1, .int (nI s)), (2, .int (nI w.length)), (3, .int (wt_b false)), (4, .int (nI 0))]) (by exact ⟨rfl, rfl, rfl, rfl, rfl, trivial⟩) (inner G.length 0 H0 false i1 (Nat.zero_add _) hI (fun p hp h => h) hrch (fun _ => ⟨fun p hp => rfl, fun k hk => absurd hk (Nat.not_lt_zero _)⟩) (fun z => by cases z) hfr)
  refine wf_iconst 1 dc_Mod_spread_0 (by decide) ?_
  refine wf_istore_n dc_Mod_spread_1 (by decide) ?_
  exact Wf.to (L' := [(0, .ref (m + 0)), (1, .int (nI s)), (2, .int (nI w.length)), (3, .int (wt_b true))]) (by exact ⟨rfl, rfl, rfl, rfl, trivial⟩) (outer (fz H P) H i (Nat.le_refl _) hH (fun p hp h => h) (fun p hp h => ⟨p, hp, h, gR_rf⟩) mf_rf)
end
