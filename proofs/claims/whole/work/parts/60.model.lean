/-! the reference: its constructor -/
def mo_K : List (Nat × Wk) := [(27, .inr (0, 12)), (26, .inr (0, 12)), (25, .inr (0, 12)), (24, .inr (1, 400)), (23, .inr (1, 400)), (22, .inr (0, 800)), (21, .inr (0, 800)), (20, .inr (0, 800)), (19, .inr (0, 800)), (18, .inr (0, 1500)), (17, .inr (0, 40)), (16, .inr (0, 40)), (15, .inr (0, 4800)), (14, .inr (0, 8)), (13, .inr (0, 30)), (12, .inr (0, 3600)), (11, .inr (0, 120)), (10, .inr (0, 120)), (9, .inr (0, 120)), (8, .inr (0, 12)), (7, .inr (0, 12)), (6, .inr (0, 12)), (5, .inr (0, 12)), (4, .inr (0, 6)), (3, .inr (0, 360)), (2, .inr (0, 9)), (1, .inr (0, 1080))]
def mo_W : List (Nat × Nat × Nat) := [(0, 36, 27), (0, 35, 26), (0, 34, 25), (0, 33, 24), (0, 32, 23), (0, 31, 22), (0, 30, 21), (0, 29, 20), (0, 28, 19), (0, 24, 18), (0, 22, 17), (0, 21, 16), (0, 20, 15), (0, 18, 14), (0, 17, 13), (0, 16, 12), (0, 13, 11), (0, 12, 10), (0, 11, 9), (0, 10, 8), (0, 9, 7), (0, 8, 6), (0, 7, 5), (0, 4, 4), (0, 3, 3), (0, 2, 2), (0, 1, 1)]
def mo_I : List (Nat × Nat × Int32) := [(0, 25, -1), (0, 5, 32)]
section
variable {l : Launch} {E : We} {n0 d nx : Nat} {t : Wt} {r : Wr} {i : Wi} {g : Wl}
theorem c_Mod_init {b : Nat} (ha : t (b + 0) = some (.inl 8)) : Ct l E n0 mt_Mod_init (d + 1) 27 15917 [.ref (b + 0)] (b + 1) t r i g (fun v nx' t' r' i' g' => v = .inl none ∧ nx' = b + 28 ∧ t' = lg_t t b mo_K ∧ r' = lg_r r b mo_W ∧ i' = lg_i i b mo_I ∧ g' = g) := by
  refine Ct.of (by decide) (Nat.le_of_ble_eq_true rfl) ?_
  refine wf_aload_n dc_Mod_init_0 rfl ?_
  refine wf_objinit dc_Mod_init_1 ml_Mod_1 im_obj co_obj (Nat.le_of_ble_eq_true rfl) ?_
  refine wf_aload_n dc_Mod_init_4 rfl ?_
  refine wf_sipush 1080 dc_Mod_init_5 (by decide) ?_
  refine wf_newarr (y := 0) (N := 1080) (bk' := 26) (bn' := 14837) dc_Mod_init_8 rfl (by decide) ac_int (fun U h => h) rfl (by decide) (by decide) (by decide) (Nat.le_of_ble_eq_true rfl) (Nat.le_of_ble_eq_true rfl) (fun f1 f2 => ?_)
  refine wf_putr dc_Mod_init_10 fl_Mod_7 (Or.inr ⟨fi_Mod_1, rfl⟩) rfl rfl rfl (by first | assumption | ((repeat rw [wf_up1_n (by omega)]); first | assumption | exact wf_up1_s)) ?_
  refine wf_aload_n dc_Mod_init_13 rfl ?_
  refine wf_bipush 9 dc_Mod_init_14 (by decide) ?_
  refine wf_newarr (y := 0) (N := 9) (bk' := 25) (bn' := 14828) dc_Mod_init_16 rfl (by decide) ac_int (fun U h => h) rfl (by decide) (by decide) (by decide) (Nat.le_of_ble_eq_true rfl) (Nat.le_of_ble_eq_true rfl) (fun f1 f2 => ?_)
  refine wf_putr dc_Mod_init_18 fl_Mod_13 (Or.inr ⟨fi_Mod_2, rfl⟩) rfl rfl rfl (by first | assumption | ((repeat rw [wf_up1_n (by omega)]); first | assumption | exact wf_up1_s)) ?_
  refine wf_aload_n dc_Mod_init_21 rfl ?_
  refine wf_sipush 360 dc_Mod_init_22 (by decide) ?_
  refine wf_newarr (y := 0) (N := 360) (bk' := 24) (bn' := 14468) dc_Mod_init_25 rfl (by decide) ac_int (fun U h => h) rfl (by decide) (by decide) (by decide) (Nat.le_of_ble_eq_true rfl) (Nat.le_of_ble_eq_true rfl) (fun f1 f2 => ?_)
  refine wf_putr dc_Mod_init_27 fl_Mod_16 (Or.inr ⟨fi_Mod_3, rfl⟩) rfl rfl rfl (by first | assumption | ((repeat rw [wf_up1_n (by omega)]); first | assumption | exact wf_up1_s)) ?_
  refine wf_aload_n dc_Mod_init_30 rfl ?_
  refine wf_bipush 6 dc_Mod_init_31 (by decide) ?_
  refine wf_newarr (y := 0) (N := 6) (bk' := 23) (bn' := 14462) dc_Mod_init_33 rfl (by decide) ac_int (fun U h => h) rfl (by decide) (by decide) (by decide) (Nat.le_of_ble_eq_true rfl) (Nat.le_of_ble_eq_true rfl) (fun f1 f2 => ?_)
  refine wf_putr dc_Mod_init_35 fl_Mod_19 (Or.inr ⟨fi_Mod_4, rfl⟩) rfl rfl rfl (by first | assumption | ((repeat rw [wf_up1_n (by omega)]); first | assumption | exact wf_up1_s)) ?_
  refine wf_aload_n dc_Mod_init_38 rfl ?_
  refine wf_bipush 32 dc_Mod_init_39 (by decide) ?_
  refine wf_puti dc_Mod_init_41 fl_Mod_22 (Or.inl nf_Mod_5) rfl rfl rfl (by first | assumption | ((repeat rw [wf_up1_n (by omega)]); first | assumption | exact wf_up1_s)) ?_
  refine wf_aload_n dc_Mod_init_44 rfl ?_
  refine wf_bipush 12 dc_Mod_init_45 (by decide) ?_
  refine wf_newarr (y := 0) (N := 12) (bk' := 22) (bn' := 14450) dc_Mod_init_47 rfl (by decide) ac_int (fun U h => h) rfl (by decide) (by decide) (by decide) (Nat.le_of_ble_eq_true rfl) (Nat.le_of_ble_eq_true rfl) (fun f1 f2 => ?_)
  refine wf_putr dc_Mod_init_49 fl_Mod_26 (Or.inr ⟨fi_Mod_7, rfl⟩) rfl rfl rfl (by first | assumption | ((repeat rw [wf_up1_n (by omega)]); first | assumption | exact wf_up1_s)) ?_
  refine wf_aload_n dc_Mod_init_52 rfl ?_
  refine wf_bipush 12 dc_Mod_init_53 (by decide) ?_
  refine wf_newarr (y := 0) (N := 12) (bk' := 21) (bn' := 14438) dc_Mod_init_55 rfl (by decide) ac_int (fun U h => h) rfl (by decide) (by decide) (by decide) (Nat.le_of_ble_eq_true rfl) (Nat.le_of_ble_eq_true rfl) (fun f1 f2 => ?_)
  refine wf_putr dc_Mod_init_57 fl_Mod_29 (Or.inr ⟨fi_Mod_8, rfl⟩) rfl rfl rfl (by first | assumption | ((repeat rw [wf_up1_n (by omega)]); first | assumption | exact wf_up1_s)) ?_
  refine wf_aload_n dc_Mod_init_60 rfl ?_
  refine wf_bipush 12 dc_Mod_init_61 (by decide) ?_
  refine wf_newarr (y := 0) (N := 12) (bk' := 20) (bn' := 14426) dc_Mod_init_63 rfl (by decide) ac_int (fun U h => h) rfl (by decide) (by decide) (by decide) (Nat.le_of_ble_eq_true rfl) (Nat.le_of_ble_eq_true rfl) (fun f1 f2 => ?_)
  refine wf_putr dc_Mod_init_65 fl_Mod_32 (Or.inr ⟨fi_Mod_9, rfl⟩) rfl rfl rfl (by first | assumption | ((repeat rw [wf_up1_n (by omega)]); first | assumption | exact wf_up1_s)) ?_
  refine wf_aload_n dc_Mod_init_68 rfl ?_
  refine wf_bipush 12 dc_Mod_init_69 (by decide) ?_
  refine wf_newarr (y := 0) (N := 12) (bk' := 19) (bn' := 14414) dc_Mod_init_71 rfl (by decide) ac_int (fun U h => h) rfl (by decide) (by decide) (by decide) (Nat.le_of_ble_eq_true rfl) (Nat.le_of_ble_eq_true rfl) (fun f1 f2 => ?_)
  refine wf_putr dc_Mod_init_73 fl_Mod_35 (Or.inr ⟨fi_Mod_10, rfl⟩) rfl rfl rfl (by first | assumption | ((repeat rw [wf_up1_n (by omega)]); first | assumption | exact wf_up1_s)) ?_
  refine wf_aload_n dc_Mod_init_76 rfl ?_
  refine wf_bipush 120 dc_Mod_init_77 (by decide) ?_
  refine wf_newarr (y := 0) (N := 120) (bk' := 18) (bn' := 14294) dc_Mod_init_79 rfl (by decide) ac_int (fun U h => h) rfl (by decide) (by decide) (by decide) (Nat.le_of_ble_eq_true rfl) (Nat.le_of_ble_eq_true rfl) (fun f1 f2 => ?_)
  refine wf_putr dc_Mod_init_81 fl_Mod_38 (Or.inr ⟨fi_Mod_11, rfl⟩) rfl rfl rfl (by first | assumption | ((repeat rw [wf_up1_n (by omega)]); first | assumption | exact wf_up1_s)) ?_
  refine wf_aload_n dc_Mod_init_84 rfl ?_
  refine wf_bipush 120 dc_Mod_init_85 (by decide) ?_
  refine wf_newarr (y := 0) (N := 120) (bk' := 17) (bn' := 14174) dc_Mod_init_87 rfl (by decide) ac_int (fun U h => h) rfl (by decide) (by decide) (by decide) (Nat.le_of_ble_eq_true rfl) (Nat.le_of_ble_eq_true rfl) (fun f1 f2 => ?_)
  refine wf_putr dc_Mod_init_89 fl_Mod_41 (Or.inr ⟨fi_Mod_12, rfl⟩) rfl rfl rfl (by first | assumption | ((repeat rw [wf_up1_n (by omega)]); first | assumption | exact wf_up1_s)) ?_
  refine wf_aload_n dc_Mod_init_92 rfl ?_
  refine wf_bipush 120 dc_Mod_init_93 (by decide) ?_
  refine wf_newarr (y := 0) (N := 120) (bk' := 16) (bn' := 14054) dc_Mod_init_95 rfl (by decide) ac_int (fun U h => h) rfl (by decide) (by decide) (by decide) (Nat.le_of_ble_eq_true rfl) (Nat.le_of_ble_eq_true rfl) (fun f1 f2 => ?_)
  refine wf_putr dc_Mod_init_97 fl_Mod_44 (Or.inr ⟨fi_Mod_13, rfl⟩) rfl rfl rfl (by first | assumption | ((repeat rw [wf_up1_n (by omega)]); first | assumption | exact wf_up1_s)) ?_
  refine wf_aload_n dc_Mod_init_100 rfl ?_
  refine wf_sipush 3600 dc_Mod_init_101 (by decide) ?_
  refine wf_newarr (y := 0) (N := 3600) (bk' := 15) (bn' := 10454) dc_Mod_init_104 rfl (by decide) ac_int (fun U h => h) rfl (by decide) (by decide) (by decide) (Nat.le_of_ble_eq_true rfl) (Nat.le_of_ble_eq_true rfl) (fun f1 f2 => ?_)
  refine wf_putr dc_Mod_init_106 fl_Mod_47 (Or.inr ⟨fi_Mod_16, rfl⟩) rfl rfl rfl (by first | assumption | ((repeat rw [wf_up1_n (by omega)]); first | assumption | exact wf_up1_s)) ?_
  refine wf_aload_n dc_Mod_init_109 rfl ?_
  refine wf_bipush 30 dc_Mod_init_110 (by decide) ?_
  refine wf_newarr (y := 0) (N := 30) (bk' := 14) (bn' := 10424) dc_Mod_init_112 rfl (by decide) ac_int (fun U h => h) rfl (by decide) (by decide) (by decide) (Nat.le_of_ble_eq_true rfl) (Nat.le_of_ble_eq_true rfl) (fun f1 f2 => ?_)
  refine wf_putr dc_Mod_init_114 fl_Mod_50 (Or.inr ⟨fi_Mod_17, rfl⟩) rfl rfl rfl (by first | assumption | ((repeat rw [wf_up1_n (by omega)]); first | assumption | exact wf_up1_s)) ?_
  refine wf_aload_n dc_Mod_init_117 rfl ?_
  refine wf_bipush 8 dc_Mod_init_118 (by decide) ?_
  refine wf_newarr (y := 0) (N := 8) (bk' := 13) (bn' := 10416) dc_Mod_init_120 rfl (by decide) ac_int (fun U h => h) rfl (by decide) (by decide) (by decide) (Nat.le_of_ble_eq_true rfl) (Nat.le_of_ble_eq_true rfl) (fun f1 f2 => ?_)
  refine wf_putr dc_Mod_init_122 fl_Mod_53 (Or.inr ⟨fi_Mod_18, rfl⟩) rfl rfl rfl (by first | assumption | ((repeat rw [wf_up1_n (by omega)]); first | assumption | exact wf_up1_s)) ?_
  refine wf_aload_n dc_Mod_init_125 rfl ?_
  refine wf_sipush 4800 dc_Mod_init_126 (by decide) ?_
  refine wf_newarr (y := 0) (N := 4800) (bk' := 12) (bn' := 5616) dc_Mod_init_129 rfl (by decide) ac_int (fun U h => h) rfl (by decide) (by decide) (by decide) (Nat.le_of_ble_eq_true rfl) (Nat.le_of_ble_eq_true rfl) (fun f1 f2 => ?_)
  refine wf_putr dc_Mod_init_131 fl_Mod_56 (Or.inr ⟨fi_Mod_20, rfl⟩) rfl rfl rfl (by first | assumption | ((repeat rw [wf_up1_n (by omega)]); first | assumption | exact wf_up1_s)) ?_
  refine wf_aload_n dc_Mod_init_134 rfl ?_
  refine wf_bipush 40 dc_Mod_init_135 (by decide) ?_
  refine wf_newarr (y := 0) (N := 40) (bk' := 11) (bn' := 5576) dc_Mod_init_137 rfl (by decide) ac_int (fun U h => h) rfl (by decide) (by decide) (by decide) (Nat.le_of_ble_eq_true rfl) (Nat.le_of_ble_eq_true rfl) (fun f1 f2 => ?_)
  refine wf_putr dc_Mod_init_139 fl_Mod_59 (Or.inr ⟨fi_Mod_21, rfl⟩) rfl rfl rfl (by first | assumption | ((repeat rw [wf_up1_n (by omega)]); first | assumption | exact wf_up1_s)) ?_
  refine wf_aload_n dc_Mod_init_142 rfl ?_
  refine wf_bipush 40 dc_Mod_init_143 (by decide) ?_
  refine wf_newarr (y := 0) (N := 40) (bk' := 10) (bn' := 5536) dc_Mod_init_145 rfl (by decide) ac_int (fun U h => h) rfl (by decide) (by decide) (by decide) (Nat.le_of_ble_eq_true rfl) (Nat.le_of_ble_eq_true rfl) (fun f1 f2 => ?_)
  refine wf_putr dc_Mod_init_147 fl_Mod_62 (Or.inr ⟨fi_Mod_22, rfl⟩) rfl rfl rfl (by first | assumption | ((repeat rw [wf_up1_n (by omega)]); first | assumption | exact wf_up1_s)) ?_
  refine wf_aload_n dc_Mod_init_150 rfl ?_
  refine wf_sipush 1500 dc_Mod_init_151 (by decide) ?_
  refine wf_newarr (y := 0) (N := 1500) (bk' := 9) (bn' := 4036) dc_Mod_init_154 rfl (by decide) ac_int (fun U h => h) rfl (by decide) (by decide) (by decide) (Nat.le_of_ble_eq_true rfl) (Nat.le_of_ble_eq_true rfl) (fun f1 f2 => ?_)
  refine wf_putr dc_Mod_init_156 fl_Mod_65 (Or.inr ⟨fi_Mod_24, rfl⟩) rfl rfl rfl (by first | assumption | ((repeat rw [wf_up1_n (by omega)]); first | assumption | exact wf_up1_s)) ?_
  refine wf_aload_n dc_Mod_init_159 rfl ?_
  refine wf_iconst (-1) dc_Mod_init_160 (by decide) ?_
  refine wf_puti dc_Mod_init_161 fl_Mod_68 (Or.inl nf_Mod_25) rfl rfl rfl (by first | assumption | ((repeat rw [wf_up1_n (by omega)]); first | assumption | exact wf_up1_s)) ?_
  refine wf_aload_n dc_Mod_init_164 rfl ?_
  refine wf_sipush 800 dc_Mod_init_165 (by decide) ?_
  refine wf_newarr (y := 0) (N := 800) (bk' := 8) (bn' := 3236) dc_Mod_init_168 rfl (by decide) ac_int (fun U h => h) rfl (by decide) (by decide) (by decide) (Nat.le_of_ble_eq_true rfl) (Nat.le_of_ble_eq_true rfl) (fun f1 f2 => ?_)
  refine wf_putr dc_Mod_init_170 fl_Mod_71 (Or.inr ⟨fi_Mod_28, rfl⟩) rfl rfl rfl (by first | assumption | ((repeat rw [wf_up1_n (by omega)]); first | assumption | exact wf_up1_s)) ?_
  refine wf_aload_n dc_Mod_init_173 rfl ?_
  refine wf_sipush 800 dc_Mod_init_174 (by decide) ?_
  refine wf_newarr (y := 0) (N := 800) (bk' := 7) (bn' := 2436) dc_Mod_init_177 rfl (by decide) ac_int (fun U h => h) rfl (by decide) (by decide) (by decide) (Nat.le_of_ble_eq_true rfl) (Nat.le_of_ble_eq_true rfl) (fun f1 f2 => ?_)
  refine wf_putr dc_Mod_init_179 fl_Mod_74 (Or.inr ⟨fi_Mod_29, rfl⟩) rfl rfl rfl (by first | assumption | ((repeat rw [wf_up1_n (by omega)]); first | assumption | exact wf_up1_s)) ?_
  refine wf_aload_n dc_Mod_init_182 rfl ?_
  refine wf_sipush 800 dc_Mod_init_183 (by decide) ?_
  refine wf_newarr (y := 0) (N := 800) (bk' := 6) (bn' := 1636) dc_Mod_init_186 rfl (by decide) ac_int (fun U h => h) rfl (by decide) (by decide) (by decide) (Nat.le_of_ble_eq_true rfl) (Nat.le_of_ble_eq_true rfl) (fun f1 f2 => ?_)
  refine wf_putr dc_Mod_init_188 fl_Mod_77 (Or.inr ⟨fi_Mod_30, rfl⟩) rfl rfl rfl (by first | assumption | ((repeat rw [wf_up1_n (by omega)]); first | assumption | exact wf_up1_s)) ?_
  refine wf_aload_n dc_Mod_init_191 rfl ?_
  refine wf_sipush 800 dc_Mod_init_192 (by decide) ?_
  refine wf_newarr (y := 0) (N := 800) (bk' := 5) (bn' := 836) dc_Mod_init_195 rfl (by decide) ac_int (fun U h => h) rfl (by decide) (by decide) (by decide) (Nat.le_of_ble_eq_true rfl) (Nat.le_of_ble_eq_true rfl) (fun f1 f2 => ?_)
  refine wf_putr dc_Mod_init_197 fl_Mod_80 (Or.inr ⟨fi_Mod_31, rfl⟩) rfl rfl rfl (by first | assumption | ((repeat rw [wf_up1_n (by omega)]); first | assumption | exact wf_up1_s)) ?_
  refine wf_aload_n dc_Mod_init_200 rfl ?_
  refine wf_sipush 400 dc_Mod_init_201 (by decide) ?_
  refine wf_newarr (y := 1) (N := 400) (bk' := 4) (bn' := 436) dc_Mod_init_204 rfl (by decide) ac_boolean (fun U h => h) rfl (by decide) (by decide) (by decide) (Nat.le_of_ble_eq_true rfl) (Nat.le_of_ble_eq_true rfl) (fun f1 f2 => ?_)
  refine wf_putr dc_Mod_init_206 fl_Mod_83 (Or.inr ⟨fi_Mod_32, rfl⟩) rfl rfl rfl (by first | assumption | ((repeat rw [wf_up1_n (by omega)]); first | assumption | exact wf_up1_s)) ?_
  refine wf_aload_n dc_Mod_init_209 rfl ?_
  refine wf_sipush 400 dc_Mod_init_210 (by decide) ?_
  refine wf_newarr (y := 1) (N := 400) (bk' := 3) (bn' := 36) dc_Mod_init_213 rfl (by decide) ac_boolean (fun U h => h) rfl (by decide) (by decide) (by decide) (Nat.le_of_ble_eq_true rfl) (Nat.le_of_ble_eq_true rfl) (fun f1 f2 => ?_)
  refine wf_putr dc_Mod_init_215 fl_Mod_87 (Or.inr ⟨fi_Mod_33, rfl⟩) rfl rfl rfl (by first | assumption | ((repeat rw [wf_up1_n (by omega)]); first | assumption | exact wf_up1_s)) ?_
  refine wf_aload_n dc_Mod_init_218 rfl ?_
  refine wf_bipush 12 dc_Mod_init_219 (by decide) ?_
  refine wf_newarr (y := 0) (N := 12) (bk' := 2) (bn' := 24) dc_Mod_init_221 rfl (by decide) ac_int (fun U h => h) rfl (by decide) (by decide) (by decide) (Nat.le_of_ble_eq_true rfl) (Nat.le_of_ble_eq_true rfl) (fun f1 f2 => ?_)
  refine wf_putr dc_Mod_init_223 fl_Mod_90 (Or.inr ⟨fi_Mod_34, rfl⟩) rfl rfl rfl (by first | assumption | ((repeat rw [wf_up1_n (by omega)]); first | assumption | exact wf_up1_s)) ?_
  refine wf_aload_n dc_Mod_init_226 rfl ?_
  refine wf_bipush 12 dc_Mod_init_227 (by decide) ?_
  refine wf_newarr (y := 0) (N := 12) (bk' := 1) (bn' := 12) dc_Mod_init_229 rfl (by decide) ac_int (fun U h => h) rfl (by decide) (by decide) (by decide) (Nat.le_of_ble_eq_true rfl) (Nat.le_of_ble_eq_true rfl) (fun f1 f2 => ?_)
  refine wf_putr dc_Mod_init_231 fl_Mod_93 (Or.inr ⟨fi_Mod_35, rfl⟩) rfl rfl rfl (by first | assumption | ((repeat rw [wf_up1_n (by omega)]); first | assumption | exact wf_up1_s)) ?_
  refine wf_aload_n dc_Mod_init_234 rfl ?_
  refine wf_bipush 12 dc_Mod_init_235 (by decide) ?_
  refine wf_newarr (y := 0) (N := 12) (bk' := 0) (bn' := 0) dc_Mod_init_237 rfl (by decide) ac_int (fun U h => h) rfl (by decide) (by decide) (by decide) (Nat.le_of_ble_eq_true rfl) (Nat.le_of_ble_eq_true rfl) (fun f1 f2 => ?_)
  refine wf_putr dc_Mod_init_239 fl_Mod_96 (Or.inr ⟨fi_Mod_36, rfl⟩) rfl rfl rfl (by first | assumption | ((repeat rw [wf_up1_n (by omega)]); first | assumption | exact wf_up1_s)) ?_
  exact wf_return rfl dc_Mod_init_242 ⟨rfl, rfl, rfl, rfl, rfl, rfl⟩
end
