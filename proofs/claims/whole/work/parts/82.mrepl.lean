/-! the reference: replace -/
def rp_S : Ms := sk_S ++ mr_S 1 ++ mr_S 8 ++ mF_S
theorem rp_no {c lo hi : Nat} (h : (c = 0 ∧ (hi ≤ 15 ∨ (16 ≤ lo ∧ hi ≤ 26))) ∨ (3 ≤ c ∧ c ≤ 11) ∨ (14 ≤ c ∧ c ≤ 18) ∨ (c = 2 ∧ (hi ≤ 1 ∨ (2 ≤ lo ∧ hi ≤ 8))) ∨ (c = 1 ∧ (hi ≤ 120 ∨ (240 ≤ lo ∧ hi ≤ 960)))) : ms_no rp_S c lo hi := by
  intro q hq z
  simp only [rp_S, sk_S, mr_S, mF_S, List.mem_append, List.mem_cons, List.not_mem_nil, or_false] at hq
  rcases hq with ((hq | hq) | hq) | hq
  · rcases hq with rfl | rfl | rfl | rfl | rfl | rfl | rfl | rfl | rfl | rfl | rfl <;> simp only at z ⊢ <;> omega
  · rcases hq with rfl | rfl <;> simp only at z ⊢ <;> omega
  · rcases hq with rfl | rfl <;> simp only at z ⊢ <;> omega
  · rcases hq with rfl | rfl | rfl <;> simp only at z ⊢ <;> omega
theorem ms_sub {S S' : Ms} (h : ∀ q ∈ S, q ∈ S') : ∀ q ∈ S, ms_in S' q.1 q.2.1 q.2.2 := fun q hq => ⟨q, h q hq, rfl, Nat.le_refl _, Nat.le_refl _⟩
theorem rp_sk : ∀ q ∈ sk_S, q ∈ rp_S := fun q hq => by simp [rp_S, hq]
theorem rp_r1 : ∀ q ∈ mr_S 1, q ∈ rp_S := fun q hq => by simp [rp_S, hq]
theorem rp_r8 : ∀ q ∈ mr_S 8, q ∈ rp_S := fun q hq => by simp [rp_S, hq]
theorem rp_F : ∀ q ∈ mF_S, q ∈ rp_S := fun q hq => by simp [rp_S, hq]
theorem tk_1 {X : List Int32} {x : Int32} {n : Nat} : (X.take n ++ [x]).take n = (X ++ [x]).take n := by
  rw [List.take_append, List.take_append, List.take_take, Nat.min_self, List.length_take, show n - min n X.length = n - X.length by omega]
theorem dk_s {w : List Int32} {d j : Nat} (h : d ≤ j) (hj : j < w.length) : (w.drop d).take (j + 1 - d) = (w.drop d).take (j - d) ++ [w.getD j 0] := by
  rw [show j + 1 - d = (j - d) + 1 by omega, tk_s (by rw [List.length_drop]; omega)]
  congr 2
  rw [List.getD_eq_getElem?_getD, List.getElem?_drop, List.getD_eq_getElem?_getD, show d + (j - d) = j by omega]
theorem rp_none {X : Rel} {w T : List Int32} {k d : Nat} {o : List Int32} : rp_go X w T k d none o = o ++ w.drop d := by
  cases k <;> rfl
theorem rp_some {X : Rel} {w T : List Int32} {k d q e : Nat} {o : List Int32} (h : en_of X w q = some e) : rp_go X w T (k + 1) d (some q) o = rp_go X w T k e (mb_of X w e) (o ++ (w.drop d).take (q - d) ++ T) := by
  rw [rp_go, h]
section
variable {l : Launch} {E : We} {n0 d nx : Nat} {t : Wt} {r : Wr} {i i1 i2 : Wi} {g : Wl} {m : Nat} {S : Ms}
theorem c_Mod_replace {k b : Nat} {T w X : List Int32} {all : Bool} {sp : Int32} (hA : mo_at t r m) (hx : mx i m k X) (hk : k < 6) (h60 : X.length ≤ 60) (hsX : s1 X) (ho : ∃ q, ps_read X = .inr q) (hw : mr i m 1 w) (hs1 : s1 w) (hb : b < 6) (hT : mr i m (2 + b) T) (hTl : T.length ≤ 120) (hsp : i (m + 0) 5 = sp) : Ct l E n0 mt_Mod_replace (d + 4) 0 0 [.ref (m + 0), .int (nI k), .int (nI b), .int (wt_b all)] nx t r i g (qV nx t r g (fun i' => mr i' m 1 ((rp_go (ps_rel X) w T (if all = true then 121 else 1) 0 (fd_of (ps_rel X) w 0) []).take 120) ∧ mp_fld i' m (fl_cut ((rp_go (ps_rel X) w T (if all = true then 121 else 1) 0 (fd_of (ps_rel X) w 0) []).take 120) sp) ∧ mf m rp_S i i')) := by
  have t0 := hA.1.1
  have r1 : r (m + 0) 1 = some (m + 1) := hA.2 (0, 1, 1) (by decide +kernel)
  have r2 : r (m + 0) 2 = some (m + 2) := hA.2 (0, 2, 2) (by decide +kernel)
  have t1 := hA.1.2 1 (1, .inr (0, 1080)) (by decide +kernel)
  have t2 := hA.1.2 2 (2, .inr (0, 9)) (by decide +kernel)
  have hl := hs1.1
  generalize hR : rp_go (ps_rel X) w T (if all = true then 121 else 1) 0 (fd_of (ps_rel X) w 0) [] = R
  generalize hQ : (qV nx t r g (fun i' => mr i' m 1 (R.take 120) ∧ mp_fld i' m (fl_cut (R.take 120) sp) ∧ mf m rp_S i i')) = Q0
  have fX : ∀ i1, mf m rp_S i i1 → mx i1 m k X := fun i1 h => ⟨(h.at (rp_no (by omega))).trans hx.1, hx.2.fr h (rp_no (by omega))⟩
  have fT : ∀ i1, mf m rp_S i i1 → mr i1 m (2 + b) T := fun i1 h => hT.fr h hTl (rp_no (by omega)) (rp_no (by omega))
  have a1 : ∀ {i1 i2 : Wi}, mf m rp_S i i1 → mf m (mr_S 1) i1 i2 → mf m rp_S i i2 := fun h h' => mf_ss h (mf_mo h' (ms_sub rp_r1))
  have a8 : ∀ {i1 i2 : Wi}, mf m (mr_S 1) i1 i2 → mr i1 m 8 w → mr i2 m 8 w := fun h h' => h'.fr h hl (mr_no (by omega)).1 (mr_no (by omega)).2
  have s38 : ∀ {i1 i2 : Wi} {j : Nat}, mf m (mr_S 1) i1 i2 → i2 (m + 0) j = i1 (m + 0) j := fun h => h.at (by simp [ms_no, mr_S])
  -- the end
  have fin : ∀ (dn : Nat) (o : List Int32) (i1 : Wi), dn ≤ w.length → R = o ++ w.drop dn → mr i1 m 1 (o.take 120) → mr i1 m 8 w → mf m rp_S i i1 → Wf l E n0 mt_Mod_replace (d + 4) 0 0 Q0 0 0 193 [(0, .ref (m + 0)), (4, .int (nI dn))] [] nx t r i1 g := by
    intro dn o i1 hdn hRo q1 q2 q3
    have loop : ∀ (c j : Nat) (i1 : Wi), j + c = w.length → dn ≤ j → mr i1 m 1 ((o ++ (w.drop dn).take (j - dn)).take 120) → mr i1 m 8 w → mf m rp_S i i1 → Wf l E n0 mt_Mod_replace (d + 4) 0 0 Q0 0 0 197 [(0, .ref (m + 0)), (8, .int (nI j))] [] nx t r i1 g := by
      intro c
      induction c with
      | zero =>
        intro j i1 hj hdj q1 q2 q3
        refine wf_iload dc_Mod_replace_197 rfl ?_
        refine wf_aload_n dc_Mod_replace_199 rfl ?_
        refine wf_getr dc_Mod_replace_200 fl_Mod_13 rfl (by assumption) (by assumption) ?_
        refine wf_bipush 8 dc_Mod_replace_203 (by decide) ?_
        refine wf_iaload (y := 0) dc_Mod_replace_205 rfl (by assumption) (vp_in_nI (n := 8) (by omega) (by omega)) ?_
        rw [show i1 (m + 2) (Int32.toNatClampNeg 8) = nI w.length from q2.1]
        refine wf_icmp_ge 230 dc_Mod_replace_206 (by decide) (fun hc => ?_) (fun hc => absurd ((nI_leI (by omega) (by omega)).mpr (by omega)) hc)
        rw [List.take_of_length_le (l := w.drop dn) (by rw [List.length_drop]; omega), ← hRo] at q1
        have h5 : i1 (m + 0) 5 = sp := (q3.at (rp_no (by omega))).trans hsp
        refine wf_aload_n dc_Mod_replace_230 rfl ?_
        refine wf_iv0 (M' := mt_Mod_part) (c := 8) dc_Mod_replace_231 tg_Mod_part ml_Mod_215 im_Mod_part se_Mod_part ⟨_, rfl, rfl⟩ (by assumption) (Nat.le_of_ble_eq_true rfl) (Nat.le_refl _) (Nat.le_refl _) (c_Mod_part hA q1 tk_len h5) qV_nt (qV_go (fun i2 hp => ?_))
        obtain ⟨e1, e2⟩ := hp
        refine wf_return rfl dc_Mod_replace_234 ?_
        rw [← hQ]
        exact ⟨rfl, rfl, rfl, rfl, rfl, q1.mF e2 tk_len, e1, mf_ss q3 (mf_mo e2 (ms_sub rp_F))⟩
      | succ c ih =>
        intro j i1 hj hdj q1 q2 q3
        refine wf_iload dc_Mod_replace_197 rfl ?_
        refine wf_aload_n dc_Mod_replace_199 rfl ?_
        refine wf_getr dc_Mod_replace_200 fl_Mod_13 rfl (by assumption) (by assumption) ?_
        refine wf_bipush 8 dc_Mod_replace_203 (by decide) ?_
        refine wf_iaload (y := 0) dc_Mod_replace_205 rfl (by assumption) (vp_in_nI (n := 8) (by omega) (by omega)) ?_
        rw [show i1 (m + 2) (Int32.toNatClampNeg 8) = nI w.length from q2.1]
        refine wf_icmp_ge 230 dc_Mod_replace_206 (by decide) (fun hc => absurd ((nI_leI (by omega) (by omega)).mp hc) (by omega)) (fun hc => ?_)
        refine wf_aload_n dc_Mod_replace_209 rfl ?_
        refine wf_aload_n dc_Mod_replace_210 rfl ?_
        refine wf_getr dc_Mod_replace_211 fl_Mod_7 rfl (by assumption) (by assumption) ?_
        refine wf_sipush 960 dc_Mod_replace_214 (by decide) ?_
        refine wf_iload dc_Mod_replace_217 rfl ?_
        refine wf_iadd dc_Mod_replace_219 ?_
        rw [show (960 : Int32) + nI j = nI (960 + j) from nI_add 960 j]
        refine wf_iaload (y := 0) dc_Mod_replace_220 rfl (by assumption) (vp_in_nI (by omega) (by omega)) ?_
        rw [nI_clamp (show 960 + j < 2 ^ 31 by omega), show i1 (m + 1) (960 + j) = w.getD j 0 from q2.2 j (by omega)]
        refine wf_iv1 (M' := mt_Mod_write) (c := 8) dc_Mod_replace_221 tg_Mod_write ml_Mod_209 im_Mod_write se_Mod_write ⟨_, rfl, rfl⟩ (by assumption) (Nat.le_of_ble_eq_true rfl) (Nat.le_refl _) (Nat.le_refl _) (c_Mod_write hA q1 tk_len) qV_nt (qV_go (fun i2 hp => ?_))
        refine wf_iinc _ dc_Mod_replace_224 rfl (nI_1 j) (by decide) ?_
        refine wf_goto 197 dc_Mod_replace_227 (by decide) ?_
        obtain ⟨e1, e2⟩ := hp
        rw [tk_1, List.append_assoc, ← dk_s hdj (by omega)] at e1
        exact Wf.to (by exact ⟨rfl, rfl, trivial⟩) (ih (j + 1) i2 (by omega) (by omega) e1 (a8 e2 q2) (a1 q3 e2))
    refine wf_iload dc_Mod_replace_193 rfl ?_
    refine wf_istore dc_Mod_replace_195 (by decide) ?_
    exact Wf.to (by exact ⟨rfl, rfl, trivial⟩) (loop (w.length - dn) dn i1 (by omega) (Nat.le_refl _) (by rw [Nat.sub_self, List.take_zero, List.append_nil]; exact q1) q2 q3)
  -- one match
  have mat : ∀ (dn q e : Nat) (o : List Int32) (y5 y6 y7 : Int32) (i1 : Wi), dn ≤ q → q ≤ e → e ≤ w.length → mr i1 m 1 (o.take 120) → mr i1 m 8 w → i1 (m + 0) 38 = nI q → i1 (m + 0) 39 = nI e → mf m rp_S i i1 → (∀ i2, mr i2 m 1 ((o ++ (w.drop dn).take (q - dn) ++ T).take 120) → mr i2 m 8 w → mf m rp_S i i2 → Wf l E n0 mt_Mod_replace (d + 4) 0 0 Q0 0 0 26 [(0, .ref (m + 0)), (1, .int (nI k)), (2, .int (nI b)), (3, .int (wt_b all)), (4, .int (nI e)), (5, .int (nI e)), (6, .int (nI e)), (7, .int (wt_b all))] [] nx t r i2 g) → Wf l E n0 mt_Mod_replace (d + 4) 0 0 Q0 0 0 93 [(0, .ref (m + 0)), (1, .int (nI k)), (2, .int (nI b)), (3, .int (wt_b all)), (4, .int (nI dn)), (5, .int y5), (6, .int y6), (7, .int y7)] [] nx t r i1 g := by
    intro dn q e o y5 y6 y7 i1 hdq hqe hel q1 q2 q3 q4 q5 kont
    have two : ∀ (c j : Nat) (i1 : Wi), j + c = T.length → mr i1 m 1 ((o ++ (w.drop dn).take (q - dn) ++ T.take j).take 120) → mr i1 m 8 w → i1 (m + 0) 39 = nI e → mf m rp_S i i1 → Wf l E n0 mt_Mod_replace (d + 4) 0 0 Q0 0 0 130 [(0, .ref (m + 0)), (1, .int (nI k)), (2, .int (nI b)), (3, .int (wt_b all)), (8, .int (nI j))] [] nx t r i1 g := by
      intro c
      induction c with
      | zero =>
        intro j i1 hj q1 q2 q4 q5
        have hT1 := fT i1 q5
        refine wf_iload dc_Mod_replace_130 rfl ?_
        refine wf_aload_n dc_Mod_replace_132 rfl ?_
        refine wf_getr dc_Mod_replace_133 fl_Mod_13 rfl (by assumption) (by assumption) ?_
        refine wf_iconst 2 dc_Mod_replace_136 (by decide) ?_
        refine wf_iload_n dc_Mod_replace_137 rfl ?_
        refine wf_iadd dc_Mod_replace_138 ?_
        rw [show (2 : Int32) + nI b = nI (2 + b) from nI_add 2 b]
        refine wf_iaload (y := 0) dc_Mod_replace_139 rfl (by assumption) (vp_in_nI (by omega) (by omega)) ?_
        rw [nI_clamp (show 2 + b < 2 ^ 31 by omega), hT1.1]
        refine wf_icmp_ge 169 dc_Mod_replace_140 (by decide) (fun hc => ?_) (fun hc => absurd ((nI_leI (by omega) (by omega)).mpr (by omega)) hc)
        rw [List.take_of_length_le (show T.length ≤ j by omega)] at q1
        refine wf_aload_n dc_Mod_replace_169 rfl ?_
        refine wf_geti dc_Mod_replace_170 fl_Mod_163 rfl (by assumption) ?_
        rw [q4]
        refine wf_istore dc_Mod_replace_173 (by decide) ?_
        refine wf_aload_n dc_Mod_replace_175 rfl ?_
        refine wf_geti dc_Mod_replace_176 fl_Mod_163 rfl (by assumption) ?_
        rw [q4]
        refine wf_istore dc_Mod_replace_179 (by decide) ?_
        refine wf_aload_n dc_Mod_replace_181 rfl ?_
        refine wf_geti dc_Mod_replace_182 fl_Mod_163 rfl (by assumption) ?_
        rw [q4]
        refine wf_istore dc_Mod_replace_185 (by decide) ?_
        refine wf_iload_n dc_Mod_replace_187 rfl ?_
        refine wf_istore dc_Mod_replace_188 (by decide) ?_
        refine wf_goto 26 dc_Mod_replace_190 (by decide) ?_
        exact Wf.to (by exact ⟨rfl, rfl, rfl, rfl, rfl, rfl, rfl, rfl, trivial⟩) (kont i1 q1 q2 q5)
      | succ c ih =>
        intro j i1 hj q1 q2 q4 q5
        have hT1 := fT i1 q5
        refine wf_iload dc_Mod_replace_130 rfl ?_
        refine wf_aload_n dc_Mod_replace_132 rfl ?_
        refine wf_getr dc_Mod_replace_133 fl_Mod_13 rfl (by assumption) (by assumption) ?_
        refine wf_iconst 2 dc_Mod_replace_136 (by decide) ?_
        refine wf_iload_n dc_Mod_replace_137 rfl ?_
        refine wf_iadd dc_Mod_replace_138 ?_
        rw [show (2 : Int32) + nI b = nI (2 + b) from nI_add 2 b]
        refine wf_iaload (y := 0) dc_Mod_replace_139 rfl (by assumption) (vp_in_nI (by omega) (by omega)) ?_
        rw [nI_clamp (show 2 + b < 2 ^ 31 by omega), hT1.1]
        refine wf_icmp_ge 169 dc_Mod_replace_140 (by decide) (fun hc => absurd ((nI_leI (by omega) (by omega)).mp hc) (by omega)) (fun hc => ?_)
        refine wf_aload_n dc_Mod_replace_143 rfl ?_
        refine wf_aload_n dc_Mod_replace_144 rfl ?_
        refine wf_getr dc_Mod_replace_145 fl_Mod_7 rfl (by assumption) (by assumption) ?_
        refine wf_sipush 240 dc_Mod_replace_148 (by decide) ?_
        refine wf_bipush 120 dc_Mod_replace_151 (by decide) ?_
        refine wf_iload_n dc_Mod_replace_153 rfl ?_
        refine wf_imul dc_Mod_replace_154 ?_
        rw [n120]
        refine wf_iadd dc_Mod_replace_155 ?_
        rw [show (240 : Int32) + nI (120 * b) = nI (240 + 120 * b) from nI_add 240 (120 * b)]
        refine wf_iload dc_Mod_replace_156 rfl ?_
        refine wf_iadd dc_Mod_replace_158 ?_
        rw [nI_add]
        refine wf_iaload (y := 0) dc_Mod_replace_159 rfl (by assumption) (vp_in_nI (by omega) (by omega)) ?_
        rw [nI_clamp (show 240 + 120 * b + j < 2 ^ 31 by omega), show 240 + 120 * b + j = 120 * (2 + b) + j by omega, hT1.2 j (by omega)]
        refine wf_iv1 (M' := mt_Mod_write) (c := 8) dc_Mod_replace_160 tg_Mod_write ml_Mod_209 im_Mod_write se_Mod_write ⟨_, rfl, rfl⟩ (by assumption) (Nat.le_of_ble_eq_true rfl) (Nat.le_refl _) (Nat.le_refl _) (c_Mod_write hA q1 tk_len) qV_nt (qV_go (fun i2 hp => ?_))
        refine wf_iinc _ dc_Mod_replace_163 rfl (nI_1 j) (by decide) ?_
        refine wf_goto 130 dc_Mod_replace_166 (by decide) ?_
        obtain ⟨e1, e2⟩ := hp
        rw [tk_1, List.append_assoc, ← tk_s (by omega)] at e1
        exact Wf.to (by exact ⟨rfl, rfl, rfl, rfl, rfl, trivial⟩) (ih (j + 1) i2 (by omega) e1 (a8 e2 q2) ((s38 e2).trans q4) (a1 q5 e2))
    have one : ∀ (c j : Nat) (i1 : Wi), j + c = q → dn ≤ j → mr i1 m 1 ((o ++ (w.drop dn).take (j - dn)).take 120) → mr i1 m 8 w → i1 (m + 0) 38 = nI q → i1 (m + 0) 39 = nI e → mf m rp_S i i1 → Wf l E n0 mt_Mod_replace (d + 4) 0 0 Q0 0 0 97 [(0, .ref (m + 0)), (1, .int (nI k)), (2, .int (nI b)), (3, .int (wt_b all)), (8, .int (nI j))] [] nx t r i1 g := by
      intro c
      induction c with
      | zero =>
        intro j i1 hj hdj q1 q2 q3 q4 q5
        refine wf_iload dc_Mod_replace_97 rfl ?_
        refine wf_aload_n dc_Mod_replace_99 rfl ?_
        refine wf_geti dc_Mod_replace_100 fl_Mod_160 rfl (by assumption) ?_
        rw [q3]
        refine wf_icmp_ge 127 dc_Mod_replace_103 (by decide) (fun hc => ?_) (fun hc => absurd ((nI_leI (by omega) (by omega)).mpr (by omega)) hc)
        have hje : j = q := by omega
        subst hje
        refine wf_iconst 0 dc_Mod_replace_127 (by decide) ?_
        refine wf_istore dc_Mod_replace_128 (by decide) ?_
        exact Wf.to (L' := [(0, .ref (m + 0)), (1, .int (nI k)), (2, .int (nI b)), (3, .int (wt_b all)), (8, .int (nI 0))]) (by exact ⟨rfl, rfl, rfl, rfl, rfl, trivial⟩) (two T.length 0 i1 (Nat.zero_add _) (by rw [List.take_zero, List.append_nil]; exact q1) q2 q4 q5)
      | succ c ih =>
        intro j i1 hj hdj q1 q2 q3 q4 q5
        refine wf_iload dc_Mod_replace_97 rfl ?_
        refine wf_aload_n dc_Mod_replace_99 rfl ?_
        refine wf_geti dc_Mod_replace_100 fl_Mod_160 rfl (by assumption) ?_
        rw [q3]
        refine wf_icmp_ge 127 dc_Mod_replace_103 (by decide) (fun hc => absurd ((nI_leI (by omega) (by omega)).mp hc) (by omega)) (fun hc => ?_)
        refine wf_aload_n dc_Mod_replace_106 rfl ?_
        refine wf_aload_n dc_Mod_replace_107 rfl ?_
        refine wf_getr dc_Mod_replace_108 fl_Mod_7 rfl (by assumption) (by assumption) ?_
        refine wf_sipush 960 dc_Mod_replace_111 (by decide) ?_
        refine wf_iload dc_Mod_replace_114 rfl ?_
        refine wf_iadd dc_Mod_replace_116 ?_
        rw [show (960 : Int32) + nI j = nI (960 + j) from nI_add 960 j]
        refine wf_iaload (y := 0) dc_Mod_replace_117 rfl (by assumption) (vp_in_nI (by omega) (by omega)) ?_
        rw [nI_clamp (show 960 + j < 2 ^ 31 by omega), show i1 (m + 1) (960 + j) = w.getD j 0 from q2.2 j (by omega)]
        refine wf_iv1 (M' := mt_Mod_write) (c := 8) dc_Mod_replace_118 tg_Mod_write ml_Mod_209 im_Mod_write se_Mod_write ⟨_, rfl, rfl⟩ (by assumption) (Nat.le_of_ble_eq_true rfl) (Nat.le_refl _) (Nat.le_refl _) (c_Mod_write hA q1 tk_len) qV_nt (qV_go (fun i2 hp => ?_))
        refine wf_iinc _ dc_Mod_replace_121 rfl (nI_1 j) (by decide) ?_
        refine wf_goto 97 dc_Mod_replace_124 (by decide) ?_
        obtain ⟨e1, e2⟩ := hp
        rw [tk_1, List.append_assoc, ← dk_s hdj (by omega)] at e1
        exact Wf.to (by exact ⟨rfl, rfl, rfl, rfl, rfl, trivial⟩) (ih (j + 1) i2 (by omega) (by omega) e1 (a8 e2 q2) ((s38 e2).trans q3) ((s38 e2).trans q4) (a1 q5 e2))
    refine wf_iload dc_Mod_replace_93 rfl ?_
    refine wf_istore dc_Mod_replace_95 (by decide) ?_
    exact Wf.to (by exact ⟨rfl, rfl, rfl, rfl, rfl, trivial⟩) (one (q - dn) dn i1 (by omega) (Nat.le_refl _) (by rw [Nat.sub_self, List.take_zero, List.append_nil]; exact q1) q2 q3 q4 q5)
  -- from the place at_ on; en: where the last match ended, if there was one
  have seek : ∀ (at_ dn : Nat) (y5 : Int32) (o : List Int32) (i1 : Wi), at_ ≤ w.length → dn ≤ at_ → mr i1 m 1 (o.take 120) → mr i1 m 8 w → mf m rp_S i i1 → (fd_of (ps_rel X) w at_ = none → R = o ++ w.drop dn) → (∀ q e i2, fd_of (ps_rel X) w at_ = some q → en_of (ps_rel X) w q = some e → at_ ≤ q → q ≤ e → e ≤ w.length → nI q = nI e → nI q = y5 → mr i2 m 1 (o.take 120) → mr i2 m 8 w → mf m rp_S i i2 → Wf l E n0 mt_Mod_replace (d + 4) 0 0 Q0 0 0 26 [(0, .ref (m + 0)), (1, .int (nI k)), (2, .int (nI b)), (3, .int (wt_b all)), (4, .int (nI dn)), (5, .int y5), (6, .int (y5 + 1)), (7, .int (wt_b true))] [] nx t r i2 g) → (∀ q e i2, fd_of (ps_rel X) w at_ = some q → en_of (ps_rel X) w q = some e → at_ ≤ q → q ≤ e → e ≤ w.length → ¬ (nI q = nI e ∧ nI q = y5) → mr i2 m 1 ((o ++ (w.drop dn).take (q - dn) ++ T).take 120) → mr i2 m 8 w → mf m rp_S i i2 → Wf l E n0 mt_Mod_replace (d + 4) 0 0 Q0 0 0 26 [(0, .ref (m + 0)), (1, .int (nI k)), (2, .int (nI b)), (3, .int (wt_b all)), (4, .int (nI e)), (5, .int (nI e)), (6, .int (nI e)), (7, .int (wt_b all))] [] nx t r i2 g) → Wf l E n0 mt_Mod_replace (d + 4) 0 0 Q0 0 0 26 [(0, .ref (m + 0)), (1, .int (nI k)), (2, .int (nI b)), (3, .int (wt_b all)), (4, .int (nI dn)), (5, .int y5), (6, .int (nI at_)), (7, .int (wt_b true))] [] nx t r i1 g := by
    intro at_ dn y5 o i1 hat hdn q1 q2 q3 k1 k2 k3
    refine wf_iload dc_Mod_replace_26 rfl ?_
    refine wf_if_eq 193 dc_Mod_replace_28 (by decide) (fun hc => absurd hc (by decide)) (fun hc => ?_)
    refine wf_iload dc_Mod_replace_31 rfl ?_
    refine wf_aload_n dc_Mod_replace_33 rfl ?_
    refine wf_getr dc_Mod_replace_34 fl_Mod_13 rfl (by assumption) (by assumption) ?_
    refine wf_bipush 8 dc_Mod_replace_37 (by decide) ?_
    refine wf_iaload (y := 0) dc_Mod_replace_39 rfl (by assumption) (vp_in_nI (n := 8) (by omega) (by omega)) ?_
    rw [show i1 (m + 2) (Int32.toNatClampNeg 8) = nI w.length from q2.1]
    refine wf_icmp_gt 193 dc_Mod_replace_40 (by decide) (fun hc => absurd ((nI_ltI (by omega) (by omega)).mp hc) (by omega)) (fun hc => ?_)
    refine wf_aload_n dc_Mod_replace_43 rfl ?_
    refine wf_iload_n dc_Mod_replace_44 rfl ?_
    refine wf_bipush 8 dc_Mod_replace_45 (by decide) ?_
    refine wf_iload dc_Mod_replace_47 rfl ?_
    refine wf_iv3 (M' := mt_Mod_seek) (c := 8) dc_Mod_replace_49 tg_Mod_seek ml_Mod_212 im_Mod_seek se_Mod_seek ⟨_, rfl, rfl⟩ (by assumption) (Nat.le_of_ble_eq_true rfl) (Nat.le_refl _) (Nat.le_refl _) (c_Mod_seek (k := k) (a := 8) (b := at_) (T := X) (w := w) hA (fX i1 q3) hk h60 hsX ho (by omega) q2 hs1 (by omega)) qI_nt (qI_go (fun x2 i2 hp => ?_))
    refine wf_istore dc_Mod_replace_52 (by decide) ?_
    refine wf_iload dc_Mod_replace_54 rfl ?_
    obtain ⟨hsk, hfr⟩ := hp
    have p1 := q1.sk hfr tk_len
    have p2 := q2.sk hfr hl
    have p3 := mf_ss q3 (mf_mo hfr (ms_sub rp_sk))
    rcases hsk with ⟨h1, rfl⟩ | ⟨q, e, h1, h2, rfl, h4, h5, h6, h7⟩
    · refine wf_if_eq 88 dc_Mod_replace_56 (by decide) (fun hc => ?_) (fun hc => absurd rfl hc)
      refine wf_iload dc_Mod_replace_88 rfl ?_
      refine wf_if_eq 26 dc_Mod_replace_90 (by decide) (fun hc => ?_) (fun hc => absurd rfl hc)
      refine wf_iload dc_Mod_replace_26 rfl ?_
      refine wf_if_eq 193 dc_Mod_replace_28 (by decide) (fun hc => ?_) (fun hc => absurd rfl hc)
      exact Wf.to (by exact ⟨rfl, rfl, trivial⟩) (fin dn o i2 (by omega) (k1 h1) p1 p2 p3)
    · obtain ⟨z1, -, -⟩ := fd_some h1
      have go : ¬ (nI q = nI e ∧ nI q = y5) → Wf l E n0 mt_Mod_replace (d + 4) 0 0 Q0 0 0 88 [(0, .ref (m + 0)), (1, .int (nI k)), (2, .int (nI b)), (3, .int (wt_b all)), (4, .int (nI dn)), (5, .int y5), (6, .int (nI at_)), (7, .int 1)] [] nx t r i2 g := fun hno => by
        refine wf_iload dc_Mod_replace_88 rfl ?_
        refine wf_if_eq 26 dc_Mod_replace_90 (by decide) (fun hc => absurd hc (by decide)) (fun hc => ?_)
        exact Wf.to (by exact ⟨rfl, rfl, rfl, rfl, rfl, rfl, rfl, rfl, trivial⟩) (mat dn q e o _ _ _ i2 (by omega) h6 h7 p1 p2 h4 h5 p3 (fun i3 a b c => k3 q e i3 h1 h2 z1 h6 h7 hno a b c))
      refine wf_if_eq 88 dc_Mod_replace_56 (by decide) (fun hc => absurd hc (by decide)) (fun hc => ?_)
      refine wf_aload_n dc_Mod_replace_59 rfl ?_
      refine wf_geti dc_Mod_replace_60 fl_Mod_160 rfl (by assumption) ?_
      refine wf_aload_n dc_Mod_replace_63 rfl ?_
      refine wf_geti dc_Mod_replace_64 fl_Mod_163 rfl (by assumption) ?_
      rw [h4, h5]
      by_cases hqe : ¬ nI q = nI e
      · refine wf_icmp_ne 88 dc_Mod_replace_67 (by decide) (fun hc => ?_) (fun hc => absurd hc hqe)
        exact Wf.to (by exact ⟨rfl, rfl, rfl, rfl, rfl, rfl, rfl, rfl, trivial⟩) (go (fun z => hqe z.1))
      have hqe := Classical.not_not.mp hqe
      refine wf_icmp_ne 88 dc_Mod_replace_67 (by decide) (fun hc => absurd hqe hc) (fun hc => ?_)
      refine wf_aload_n dc_Mod_replace_70 rfl ?_
      refine wf_geti dc_Mod_replace_71 fl_Mod_160 rfl (by assumption) ?_
      refine wf_iload dc_Mod_replace_74 rfl ?_
      rw [h4]
      by_cases hqy : ¬ nI q = y5
      · refine wf_icmp_ne 88 dc_Mod_replace_76 (by decide) (fun hc => ?_) (fun hc => absurd hc hqy)
        exact Wf.to (by exact ⟨rfl, rfl, rfl, rfl, rfl, rfl, rfl, rfl, trivial⟩) (go (fun z => hqy z.2))
      have hqy := Classical.not_not.mp hqy
      refine wf_icmp_ne 88 dc_Mod_replace_76 (by decide) (fun hc => absurd hqy hc) (fun hc => ?_)
      refine wf_iload dc_Mod_replace_79 rfl ?_
      refine wf_iconst 1 dc_Mod_replace_81 (by decide) ?_
      refine wf_iadd dc_Mod_replace_82 ?_
      refine wf_istore dc_Mod_replace_83 (by decide) ?_
      refine wf_goto 26 dc_Mod_replace_85 (by decide) ?_
      exact Wf.to (by exact ⟨rfl, rfl, rfl, rfl, rfl, rfl, rfl, rfl, trivial⟩) (k2 q e i2 h1 h2 z1 h6 h7 hqe hqy p1 p2 p3)
  -- after a match, and all are replaced
  have more : all = true → ∀ (c e kk : Nat) (o : List Int32) (i1 : Wi), w.length - e ≤ c → e ≤ w.length → 120 ≤ kk + e → R = rp_go (ps_rel X) w T kk e (mb_of (ps_rel X) w e) o → mr i1 m 1 (o.take 120) → mr i1 m 8 w → mf m rp_S i i1 → Wf l E n0 mt_Mod_replace (d + 4) 0 0 Q0 0 0 26 [(0, .ref (m + 0)), (1, .int (nI k)), (2, .int (nI b)), (3, .int (wt_b all)), (4, .int (nI e)), (5, .int (nI e)), (6, .int (nI e)), (7, .int (wt_b all))] [] nx t r i1 g := by
    intro hall c
    induction c with
    | zero => ?_
    | succ c ih => ?_
    all_goals
      intro e kk o i1 hc he hkk hRk q1 q2 q3
      have nxt : ∀ q e2 i2, mb_of (ps_rel X) w e = some q → en_of (ps_rel X) w q = some e2 → e < e2 → e2 ≤ w.length → mr i2 m 1 ((o ++ (w.drop e).take (q - e) ++ T).take 120) → mr i2 m 8 w → mf m rp_S i i2 → Wf l E n0 mt_Mod_replace (d + 4) 0 0 Q0 0 0 26 [(0, .ref (m + 0)), (1, .int (nI k)), (2, .int (nI b)), (3, .int (wt_b all)), (4, .int (nI e2)), (5, .int (nI e2)), (6, .int (nI e2)), (7, .int (wt_b all))] [] nx t r i2 g := by
        intro q e2 i2 h1 h2 h3 h4 p1 p2 p3
        first
          | exact absurd h3 (by omega)
          | (obtain ⟨k2, rfl⟩ : ∃ k2, kk = k2 + 1 := ⟨kk - 1, by omega⟩
             rw [h1, rp_some h2] at hRk
             exact ih e2 k2 _ i2 (by omega) h4 (by omega) hRk p1 p2 p3)
      have hgo : wt_b all = wt_b true := by rw [hall]
      rw [show [(0, Value.ref (m + 0)), (1, .int (nI k)), (2, .int (nI b)), (3, .int (wt_b all)), (4, .int (nI e)), (5, .int (nI e)), (6, .int (nI e)), (7, .int (wt_b all))] = [(0, .ref (m + 0)), (1, .int (nI k)), (2, .int (nI b)), (3, .int (wt_b all)), (4, .int (nI e)), (5, .int (nI e)), (6, .int (nI e)), (7, .int (wt_b true))] by rw [hall]]
      refine seek e e (nI e) o i1 he (Nat.le_refl _) q1 q2 q3 (fun h0 => ?_) (fun q e2 i2 h1 h2 h3 h4 h5 h6 h7 p1 p2 p3 => ?_) (fun q e2 i2 h1 h2 h3 h4 h5 h6 p1 p2 p3 => ?_)
      · rw [mb_of, h0, rp_none] at hRk
        exact hRk
      · have e1 : q = e := (nI_eq (by omega) (by omega)).mp h7
        have e2' : e2 = e := ((nI_eq (by omega) (by omega)).mp h6).symm.trans e1
        subst e1
        subst e2'
        have hmb : mb_of (ps_rel X) w e2 = fd_of (ps_rel X) w (e2 + 1) := by
          unfold mb_of
          rw [h1]
          dsimp only
          rw [if_pos ⟨rfl, h2⟩]
        rw [show nI e2 + 1 = nI (e2 + 1) from nI_1 e2]
        by_cases hend : e2 + 1 ≤ w.length
        · refine seek (e2 + 1) e2 (nI e2) o i2 hend (by omega) p1 p2 p3 (fun h0 => ?_) (fun q e3 i3 g1 g2 g3 g4 g5 g6 g7 _ _ _ => ?_) (fun q e3 i3 g1 g2 g3 g4 g5 g6 p1 p2 p3 => ?_)
          · rw [hmb, h0, rp_none] at hRk
            exact hRk
          · exact absurd ((nI_eq (by omega) (by omega)).mp g7) (by omega)
          · exact nxt q e3 i3 (hmb.trans g1) g2 (by omega) g5 p1 p2 p3
        · have hel : e2 = w.length := by omega
          have h0 : fd_of (ps_rel X) w (e2 + 1) = none := by
            unfold fd_of
            rw [show w.length + 1 - (e2 + 1) = 0 by omega]
            rfl
          rw [hmb, h0, rp_none] at hRk
          refine wf_iload dc_Mod_replace_26 rfl ?_
          refine wf_if_eq 193 dc_Mod_replace_28 (by decide) (fun hc => absurd hc (by decide)) (fun hc => ?_)
          refine wf_iload dc_Mod_replace_31 rfl ?_
          refine wf_aload_n dc_Mod_replace_33 rfl ?_
          refine wf_getr dc_Mod_replace_34 fl_Mod_13 rfl (by assumption) (by assumption) ?_
          refine wf_bipush 8 dc_Mod_replace_37 (by decide) ?_
          refine wf_iaload (y := 0) dc_Mod_replace_39 rfl (by assumption) (vp_in_nI (n := 8) (by omega) (by omega)) ?_
          rw [show i2 (m + 2) (Int32.toNatClampNeg 8) = nI w.length from p2.1]
          refine wf_icmp_gt 193 dc_Mod_replace_40 (by decide) (fun hc => ?_) (fun hc => absurd ((nI_ltI (by omega) (by omega)).mpr (by omega)) hc)
          exact Wf.to (by exact ⟨rfl, rfl, trivial⟩) (fin e2 o i2 he hRk p1 p2 p3)
      · have hmb : mb_of (ps_rel X) w e = some q := by
          unfold mb_of
          rw [h1]
          dsimp only
          rw [if_neg (fun z => h6 ⟨by have z2 := h2.symm.trans z.2; cases z2; rw [z.1], by rw [z.1]⟩)]
        refine nxt q e2 i2 hmb h2 ?_ h5 p1 p2 p3
        by_cases hne : e2 = e
        · exact absurd ⟨by rw [show q = e2 by omega], by rw [show q = e by omega]⟩ h6
        · omega
  refine Ct.of (by decide) (Nat.le_of_ble_eq_true rfl) ?_
  refine wf_aload_n dc_Mod_replace_0 rfl ?_
  refine wf_iconst 1 dc_Mod_replace_1 (by decide) ?_
  refine wf_bipush 8 dc_Mod_replace_2 (by decide) ?_
  refine wf_iv2 (M' := mt_Mod_copyRow) (c := 8) dc_Mod_replace_4 tg_Mod_copyRow ml_Mod_166 im_Mod_copyRow se_Mod_copyRow ⟨_, rfl, rfl⟩ (by assumption) (Nat.le_of_ble_eq_true rfl) (Nat.le_refl _) (Nat.le_refl _) (c_Mod_copyRow (a := 1) (b := 8) hA (by omega) (by omega) (by omega) hw hl) qV_nt (qV_go (fun i2 hp => ?_))
  obtain ⟨e1, e2⟩ := hp
  refine wf_aload_n dc_Mod_replace_7 rfl ?_
  refine wf_getr dc_Mod_replace_8 fl_Mod_13 rfl (by assumption) (by assumption) ?_
  refine wf_iconst 1 dc_Mod_replace_11 (by decide) ?_
  refine wf_iconst 0 dc_Mod_replace_12 (by decide) ?_
  refine wf_iastore (y := 0) dc_Mod_replace_13 rfl (by decide) (by assumption) (vp_in_nI (n := 1) (by omega) (by omega)) ?_
  refine wf_iconst 0 dc_Mod_replace_14 (by decide) ?_
  refine wf_istore dc_Mod_replace_15 (by decide) ?_
  refine wf_iconst (-1) dc_Mod_replace_17 (by decide) ?_
  refine wf_istore dc_Mod_replace_18 (by decide) ?_
  refine wf_iconst 0 dc_Mod_replace_20 (by decide) ?_
  refine wf_istore dc_Mod_replace_21 (by decide) ?_
  refine wf_iconst 1 dc_Mod_replace_23 (by decide) ?_
  refine wf_istore dc_Mod_replace_24 (by decide) ?_
  have f1 : mf m rp_S i (wf_up i2 (m + 2) (Int32.toNatClampNeg 1) 0) := mf_up (mf_mo e2 (ms_sub rp_r8)) ⟨(2, 1, 2), by simp [rp_S, mr_S], rfl, by decide, by decide⟩
  refine Wf.to (L' := [(0, .ref (m + 0)), (1, .int (nI k)), (2, .int (nI b)), (3, .int (wt_b all)), (4, .int (nI 0)), (5, .int (-1)), (6, .int (nI 0)), (7, .int (wt_b true))]) (by exact ⟨rfl, rfl, rfl, rfl, rfl, rfl, rfl, rfl, trivial⟩) (seek 0 0 (-1) [] _ (by omega) (Nat.le_refl _) ⟨(wf_up_s : wf_up i2 (m + 2) 1 0 (m + 2) 1 = 0), fun j hj => absurd hj (Nat.not_lt_zero _)⟩ ⟨(wf_up_k (by decide)).trans e1.1, fun j hj => (wf_up_a (by omega)).trans (e1.2 j hj)⟩ f1 (fun h0 => ?_) (fun q e i2 h1 h2 h3 h4 h5 h6 h7 => ?_) (fun q e i2 h1 h2 h3 h4 h5 h6 p1 p2 p3 => ?_))
  · rw [← hR, h0, rp_none]
  · exact absurd h7.symm (mx_m1 (by omega))
  · rw [h1] at hR
    cases all with
    | true =>
      rw [if_pos rfl, rp_some h2] at hR
      exact more rfl (w.length - e) e 120 _ i2 (Nat.le_refl _) h5 (by omega) hR.symm p1 p2 p3
    | false =>
      rw [if_neg (by decide), rp_some h2, rp_go] at hR
      refine wf_iload dc_Mod_replace_26 rfl ?_
      refine wf_if_eq 193 dc_Mod_replace_28 (by decide) (fun hc => ?_) (fun hc => absurd rfl hc)
      exact Wf.to (by exact ⟨rfl, rfl, trivial⟩) (fin e _ i2 h5 hR.symm p1 p2 p3)
end
